theorem msg_s {V : RV} {len mo tn j : Nat} {g : Nat → Int32} (h0 : V.1 0 = len) (hs : ∀ j, j < len → g j = nI (V.2 0 j)) (hn : ∀ j, j < mo → g (len + j) = nI (tn / 2 ^ (mo - 1 - j) % 2)) (hj : j < len + mo) : g j = nI (rnum (V.2 0) (V.1 0 + mo) (V.1 0) tn mo mo j) := by
  unfold rnum
  rw [h0]
  rcases Nat.lt_or_ge j len with h | h
  · rw [if_neg (by omega)]; exact hs j h
  · rw [if_pos (by omega)]
    obtain ⟨d, rfl⟩ : ∃ d, j = len + d := ⟨j - len, by omega⟩
    rw [Nat.add_sub_cancel_left]; exact hn d (by omega)
theorem msg_1 {V : RV} {len mo tn j : Nat} (h0 : V.1 0 = len) (hs : ∀ j, j < len → V.2 0 j ≤ 1) (hj : j < len + mo) : rnum (V.2 0) (V.1 0 + mo) (V.1 0) tn mo mo j ≤ 1 := by
  unfold rnum
  rw [h0]
  rcases Nat.lt_or_ge j len with h | h
  · rw [if_neg (by omega)]; exact hs j h
  · rw [if_pos (by omega)]; exact Nat.le_of_lt_succ (Nat.mod_lt _ (by decide))
theorem hdg_L_message_S_0 : yL_cell.cls ≠ "java/lang/invoke/MethodHandle" ∧ yL_cell.cls ≠ "java/lang/invoke/VarHandle" ∧ (parseMethodDescriptor yL_cell.desc).map (fun d => d.parameters.length) = some 2 := by decide +kernel
theorem hdg_L_message_S_1 : yL_below.cls ≠ "java/lang/invoke/MethodHandle" ∧ yL_below.cls ≠ "java/lang/invoke/VarHandle" ∧ (parseMethodDescriptor yL_below.desc).map (fun d => d.parameters.length) = some 2 := by decide +kernel
theorem hdg_L_message_S_2 : yL_bits.cls ≠ "java/lang/invoke/MethodHandle" ∧ yL_bits.cls ≠ "java/lang/invoke/VarHandle" ∧ (parseMethodDescriptor yL_bits.desc).map (fun d => d.parameters.length) = some 2 := by decide +kernel
theorem hdg_L_message_V_3 : yX11_write.cls = RX11 ∧ yX11_write.cls ≠ "java/lang/invoke/MethodHandle" ∧ yX11_write.cls ≠ "java/lang/invoke/VarHandle" ∧ (parseMethodDescriptor yX11_write.desc).map (fun d => d.parameters.length) = some 2 := by decide +kernel
theorem hdg_L_message_S_4 : yL_with.cls ≠ "java/lang/invoke/MethodHandle" ∧ yL_with.cls ≠ "java/lang/invoke/VarHandle" ∧ (parseMethodDescriptor yL_with.desc).map (fun d => d.parameters.length) = some 2 := by decide +kernel
set_option maxHeartbeats 4000000 in
set_option maxRecDepth 100000 in
theorem g_L_message (l : Launch) (D : va_G) (cy : Nat → ClassId) (ed : Nat) (S : pS) (sz : Nat) {G T : Nat → Nat} {ws : Nat → WV} {l2 : va_E} {V : RV} {k0 a0 b0 c0 : Nat} (hP : Pic cy S G T 0 ws (.inr (5, [.int (nI k0), .int (nI a0), .int (nI b0), .int (nI c0)])) l2 V) (hk : k0 ≤ 3) (hla : a0 < 2 ^ 30) (hlb : b0 < 2 ^ 30) (hlc : c0 < 2 ^ 30) (many : Nat) (hm1 : 1 ≤ many) (hm8 : many ≤ 8) (h00 : V.1 0 = 0) (hs0 : Stl 0 ws k0 a0 b0 c0 V) : Met l yL_message (Cond.code yL_message cL_message 10 (some (.array .int)) :: lwU) ({ frames := 7, cells := 17, slots := 4936, locals := 169 }) (ePc D cy ed S sz [.ref (G 0), .ref ed, .int (nI many)]) (pQq D cy S sz (fun r S' => ∃ (q : Nat) (g : Nat → Int32) (V' : RV), r = some q ∧ (∀ k, k < 53 → q ≠ G k) ∧ Pic cy S' G T 0 ws (.inr (5, [.int (nI k0), .int (nI a0), .int (nI b0), .int (nI c0)])) l2 V' ∧ Frm G S S' ∧ Stl 0 ws k0 a0 b0 c0 V' ∧ V'.1 0 = many ∧ Arr cy S' q many g ∧ (∀ j, j < many → g j = nI (V'.2 0 j)) ∧ (∀ j, j < many → V'.2 0 j ≤ 1) ∧ V'.2 15 = V.2 15)) 17 4936 (pA S sz) := by
  refine Met.ofW (cc := cL_message) (maxL := 10) (ret := (some (.array .int))) (by decide) rfl ?_
  intro p e s m args below meth c s₁ B hml hv
  obtain ⟨rfl, rfl, C, hw, hA, hr, hlocks, hE⟩ := e_start B hml hv
  have hx := C.1
  have hb := C.2.1
  have hl := lv_entry ([.ref (G 0), .ref ed, .int (nI many)]) (n := 10) (Nat.le_of_ble_eq_true rfl)
  rw [lg_entry_eq]
  generalize (lg_sl ([.ref (G 0), .ref ed, .int (nI many)]) ++ List.replicate (10 - (lg_sl ([.ref (G 0), .ref ed, .int (nI many)])).length) Slot.unset).toArray = ls at hl ⊢
  have hl : lv_has ls 10 [(0, .ref (G 0)), (1, .ref ed), (2, .int (nI many))] := hl
  obtain ⟨LL, xs, hX, hbl, hbA, hL260⟩ := id hE
  have hn4 := hP.n4
  refine lv_iconst (v := nI 0) hx hb dL_message_0 (by decide) ?_
  refine p_newa C hw hA (mU mw_3) 0 rfl (n := 0) (by first | decide | omega) (Nat.le_of_ble_eq_true rfl) (Nat.le_of_ble_eq_true rfl) dL_message_1 (fun q2 H hq_q2 hw => ?_)
  obtain ⟨S1, hS1⟩ : ∃ z, z = pnew S q2 (.inl (cy 0, 0, .inl (fun _ => 0))) := ⟨_, rfl⟩
  replace hw : pW D (pA S s.heap.size) s.heap S1 H [] := by rw [hS1]; exact hw
  have hk2 := Pic.gne hP hq_q2
  have hs3 : Grw S S1 := by rw [hS1]; exact Grw.new hq_q2
  have hA4 : Arr cy S1 q2 0 (fun _ => 0) := by rw [hS1]; exact Arr.new
  have hP5 := Pic.ext hP hs3.1 hs3.2
  have hF6 : Frm G S S1 := Grw.frm hs3
  refine lv_astore_n (lv' := [(3, .ref q2), (0, .ref (G 0)), (1, .ref ed), (2, .int (nI many))]) hx hb dL_message_3 rfl hl (by decide) rfl (fun ls hl => ?_)
  have loop4_7 : ∀ (kf : Nat) (len : Nat), many - len < kf → ∀ (Sx8 : pS) (Vx9 : RV) (mq : Nat) (mg : Nat → Int32) (H : Heap) (locs : List Loc) (ls : Array Slot), Pic cy Sx8 G T 0 ws (.inr (5, [.int (nI k0), .int (nI a0), .int (nI b0), .int (nI c0)])) l2 Vx9 → Frm G S Sx8 → Arr cy Sx8 mq len mg → (∀ k9, k9 < 53 → mq ≠ G k9) → (len ≤ many) → (Vx9.1 0 = len) → (Stl 0 ws k0 a0 b0 c0 Vx9) → ((∀ j, j < len → mg j = nI (Vx9.2 0 j))) → ((∀ j, j < len → Vx9.2 0 j ≤ 1)) → (Vx9.2 15 = V.2 15) → pW D (pA S s.heap.size) s.heap Sx8 H locs → lv_has ls 10 [(3, .ref mq), (0, .ref (G 0)), (1, .ref ed), (2, .int (nI many))] → W p l e (headSpec (Cond.code yL_message cL_message 10 (some (.array .int)) :: lwU) ({ frames := 7, cells := 17, slots := 4936, locals := 169 } : Room)).room s m ([.ref (G 0), .ref ed, .int (nI many)]).toArray below meth c H locs (1 + 2 * len) (617 * len) (MQ below (pQq D cy S s.heap.size (fun r S' => ∃ (q : Nat) (g : Nat → Int32) (V' : RV), r = some q ∧ (∀ k, k < 53 → q ≠ G k) ∧ Pic cy S' G T 0 ws (.inr (5, [.int (nI k0), .int (nI a0), .int (nI b0), .int (nI c0)])) l2 V' ∧ Frm G S S' ∧ Stl 0 ws k0 a0 b0 c0 V' ∧ V'.1 0 = many ∧ Arr cy S' q many g ∧ (∀ j, j < many → g j = nI (V'.2 0 j)) ∧ (∀ j, j < many → V'.2 0 j ≤ 1) ∧ V'.2 15 = V.2 15)) ([.ref (G 0), .ref ed, .int (nI many)]).toArray s 17 4936 (pA S s.heap.size)) (F0 m 4 ls []) := by
    intro kf
    induction kf with
    | zero => intro len hm; exact absurd hm (Nat.not_lt_zero _)
    | succ kf ihloop4_7 =>
      intro len hm Sx8 Vx9 mq mg H locs ls hP10 hF11 hA_mqx hk_mqx hle hv0 hst hsm hs1 h15 hw hl
      refine lv_aload_n hx hb dL_message_4 rfl (lv_at hl 0 rfl) ?_
      refine n_len C hw 0 rfl hA_mqx.1 hA_mqx.2 (n := len) rfl dL_message_5 ?_
      refine lv_iload_n hx hb dL_message_6 rfl (lv_at hl 3 rfl) ?_
      refine n_icmp_ge (tgt := 117) hx hb (by omega) (by omega) dL_message_7 (by decide) (fun h_7 => ?_) (fun h_7 => ?_)
      · skip
        refine lv_aload_n hx hb dL_message_117 rfl (lv_at hl 0 rfl) ?_
        refine W.widen (k := 17) (n := 4936) (show (1 + 2 * len) ≤ 17 from by omega) (show (617 * len) ≤ 4936 from by omega) ?_
        exact (p_qret C hw (v := some mq) ⟨_, _, Vx9, rfl, hk_mqx, hP10, hF11, hst, hv0.trans (by omega), (hA_mqx).cast (by omega), (fun j hj => hsm j (by omega)), (fun j hj => hs1 j (by omega)), h15⟩ hr (by first | exact Or.inl ⟨_, rfl⟩ | exact Or.inr ⟨_, rfl⟩) hlocks dL_message_118)
      · skip
        refine lv_iload_n hx hb dL_message_10 rfl (lv_at hl 3 rfl) ?_
        refine lv_aload_n hx hb dL_message_11 rfl (lv_at hl 0 rfl) ?_
        refine n_len C hw 0 rfl hA_mqx.1 hA_mqx.2 (n := len) rfl dL_message_12 ?_
        refine n_isub hx hb (by omega) dL_message_13 ?_
        refine lv_iconst (v := nI 1) hx hb dL_message_14 (by decide) ?_
        refine lv_aload_n hx hb dL_message_15 rfl (lv_at hl 2 rfl) ?_
        refine lv_aload_n hx hb dL_message_16 rfl (lv_at hl 0 rfl) ?_
        refine n_len C hw 0 rfl hA_mqx.1 hA_mqx.2 (n := len) rfl dL_message_17 ?_
        refine lv_bipush (v := nI 16) hx hb dL_message_18 (by decide) ?_
        refine n_irem hx hb (by omega) (by omega) (by omega) dL_message_20 ?_
        refine p_calli (va_runS (As := [.ref ed, .int (nI (len % 16))]) (rest := [.int (nI 1), .int (nI (many - len))]) C.fix (g_L_cell l D cy ed Sx8 H.size (len % 16) (by omega)) (va_cwS 2 C.2.2.2.2.1 (gU_S mw_77 mw_78 mw_79 (subU mw_80)) rfl rfl rfl hdg_L_message_S_0 ⟨Nat.le_of_ble_eq_true rfl, Nat.le_of_ble_eq_true rfl⟩) (e_preS C hw hA hE) rfl rfl hl.1 rfl (lv_room (Nat.le_of_ble_eq_true rfl)) dL_message_21 ⟨(show (1 + 2 * len) + 0 ≤ 17 from by omega), (show (617 * len) + 0 ≤ 4936 from by omega)⟩) hw hA (fun r13 S12 H locs hpost hw => ?_)
        subst hpost
        refine lv_bipush (v := nI 7) hx hb dL_message_24 (by decide) ?_
        refine p_calli (va_runS (As := [.int r13, .int (nI 7)]) (rest := [.int (nI 1), .int (nI (many - len))]) C.fix (g_L_below l D cy Sx8 H.size r13 7 (by first | decide | omega) (by first | decide | omega)) (va_cwS 2 C.2.2.2.2.1 (gU_S mw_82 mw_83 mw_79 (subU mw_84)) rfl rfl rfl hdg_L_message_S_1 ⟨Nat.le_of_ble_eq_true rfl, Nat.le_of_ble_eq_true rfl⟩) (p_preS C hw) rfl rfl hl.1 rfl (lv_room (Nat.le_of_ble_eq_true rfl)) dL_message_26 ⟨(show (1 + 2 * len) + 0 + 0 ≤ 17 from by omega), (show (617 * len) + 0 + 0 ≤ 4936 from by omega)⟩) hw hA (fun r15 S14 H locs hpost hw => ?_)
        obtain ⟨t0, ht0, hr_, hS_⟩ := hpost
        subst hr_
        subst hS_
        refine n_iadd hx hb dL_message_29 ?_
        refine n_mmin C hl.1.symm (index := 82) (mU mw_89) (mU mw_61) (mU mw_53) (mU mw_62) (Nat.le_of_ble_eq_true rfl) (Nat.le_of_ble_eq_true rfl) (show (1 + 2 * len) + 0 + 0 + 0 ≤ 17 from by omega) (show (617 * len) + 0 + 0 + 0 ≤ 4936 from by omega) (by first | decide | omega) (by first | decide | omega) dL_message_30 ?_
        obtain ⟨mo, emo⟩ : ∃ z, z = min (many - len) (1 + t0) := ⟨_, rfl⟩
        have hmo1 : 1 ≤ mo := by omega
        have hmo2 : mo ≤ many - len := by omega
        have hmo7 : mo ≤ 7 := by omega
        have h2m : 2 ^ mo ≤ 1024 := two_pow_10 (by omega)
        have h2p := Nat.two_pow_pos mo
        refine n_ren (b := mo) emo.symm ?_
        refine lv_istore (lv' := [(4, .int (nI mo)), (3, .ref mq), (0, .ref (G 0)), (1, .ref ed), (2, .int (nI many))]) hx hb dL_message_33 hl (by decide) rfl (fun ls hl => ?_)
        refine lv_aload_n hx hb dL_message_35 rfl (lv_at hl 3 rfl) ?_
        refine lv_aload_n hx hb dL_message_36 rfl (lv_at hl 1 rfl) ?_
        refine n_len C hw 0 rfl hA_mqx.1 hA_mqx.2 (n := len) rfl dL_message_37 ?_
        refine lv_iconst (v := nI 3) hx hb dL_message_38 (by decide) ?_
        refine n_iadd hx hb dL_message_39 ?_
        refine lv_bipush (v := nI 16) hx hb dL_message_40 (by decide) ?_
        refine n_irem hx hb (by omega) (by omega) (by omega) dL_message_42 ?_
        refine p_calli (va_runS (As := [.ref ed, .int (nI ((len + 3) % 16))]) (rest := []) C.fix (g_L_cell l D cy ed Sx8 H.size ((len + 3) % 16) (by omega)) (va_cwS 2 C.2.2.2.2.1 (gU_S mw_77 mw_78 mw_79 (subU mw_80)) rfl rfl rfl hdg_L_message_S_0 ⟨Nat.le_of_ble_eq_true rfl, Nat.le_of_ble_eq_true rfl⟩) (e_preS C hw hA hE) rfl rfl hl.1 rfl (lv_room (Nat.le_of_ble_eq_true rfl)) dL_message_43 ⟨(show (1 + 2 * len) + 0 + 0 + 0 ≤ 17 from by omega), (show (617 * len) + 0 + 0 + 0 ≤ 4936 from by omega)⟩) hw hA (fun r17 S16 H locs hpost hw => ?_)
        subst hpost
        refine lv_iconst (v := nI 1) hx hb dL_message_46 (by decide) ?_
        refine lv_iload hx hb dL_message_47 (lv_at hl 0 rfl) ?_
        refine n_ishl hx hb (by omega) (by omega) dL_message_49 ?_
        refine p_calli (va_runS (As := [.int r17, .int (nI (1 * 2 ^ mo))]) (rest := []) C.fix (g_L_below l D cy Sx8 H.size r17 (1 * 2 ^ mo) (by omega) (by omega)) (va_cwS 2 C.2.2.2.2.1 (gU_S mw_82 mw_83 mw_79 (subU mw_84)) rfl rfl rfl hdg_L_message_S_1 ⟨Nat.le_of_ble_eq_true rfl, Nat.le_of_ble_eq_true rfl⟩) (p_preS C hw) rfl rfl hl.1 rfl (lv_room (Nat.le_of_ble_eq_true rfl)) dL_message_50 ⟨(show (1 + 2 * len) + 0 + 0 + 0 + 0 ≤ 17 from by omega), (show (617 * len) + 0 + 0 + 0 + 0 ≤ 4936 from by omega)⟩) hw hA (fun r19 S18 H locs hpost hw => ?_)
        obtain ⟨tn, htn, hr_, hS_⟩ := hpost
        subst hr_
        subst hS_
        refine lv_istore (lv' := [(5, .int (nI tn)), (4, .int (nI mo)), (3, .ref mq), (0, .ref (G 0)), (1, .ref ed), (2, .int (nI many))]) hx hb dL_message_53 hl (by decide) rfl (fun ls hl => ?_)
        refine lv_iload hx hb dL_message_55 (lv_at hl 0 rfl) ?_
        refine lv_iload hx hb dL_message_57 (lv_at hl 1 rfl) ?_
        refine p_callq (va_runS (As := [.int (nI tn), .int (nI mo)]) (rest := []) C.fix (g_L_bits l D cy Sx8 H.size tn mo (by omega) (by omega)) (va_cwS 2 C.2.2.2.2.1 (gU_S mw_90 mw_91 mw_79 (subU mw_92)) rfl rfl rfl hdg_L_message_S_2 ⟨Nat.le_of_ble_eq_true rfl, Nat.le_of_ble_eq_true rfl⟩) (p_preS C hw) rfl rfl hl.1 rfl (lv_room (Nat.le_of_ble_eq_true rfl)) dL_message_59 ⟨(show (1 + 2 * len) + 0 + 0 + 0 + 0 + 1 ≤ 17 from by omega), (show (617 * len) + 0 + 0 + 0 + 0 + 16 ≤ 4936 from by omega)⟩) hw hA (fun r21 S20 H locs hpost hw => ?_)
        obtain ⟨qa22, ga23, hr_, hq26, hs24, hA25, hX27⟩ := hpost
        subst hr_
        have hk28 := Pic.gne hP10 hq26
        have hA29 := hA_mqx.grw hs24
        have hP30 := Pic.ext hP10 hs24.1 hs24.2
        have hF31 : Frm G S S20 := hF11.trans hs24.frm
        have hbits := hX27
        refine lv_astore (lv' := [(6, .ref qa22), (5, .int (nI tn)), (4, .int (nI mo)), (3, .ref mq), (0, .ref (G 0)), (1, .ref ed), (2, .int (nI many))]) hx hb dL_message_62 hl (by decide) rfl (fun ls hl => ?_)
        refine lv_aload hx hb dL_message_64 (lv_at hl 0 rfl) ?_
        refine n_len C hw 0 rfl hA25.1 hA25.2 (n := mo) rfl dL_message_66 ?_
        refine lv_istore (lv' := [(7, .int (nI mo)), (6, .ref qa22), (5, .int (nI tn)), (4, .int (nI mo)), (3, .ref mq), (0, .ref (G 0)), (1, .ref ed), (2, .int (nI many))]) hx hb dL_message_67 hl (by decide) rfl (fun ls hl => ?_)
        refine lv_iconst (v := nI 0) hx hb dL_message_69 (by decide) ?_
        refine lv_istore (lv' := [(8, .int (nI 0)), (7, .int (nI mo)), (6, .ref qa22), (5, .int (nI tn)), (4, .int (nI mo)), (3, .ref mq), (0, .ref (G 0)), (1, .ref ed), (2, .int (nI many))]) hx hb dL_message_70 hl (by decide) rfl (fun ls hl => ?_)
        have loop72_32 : ∀ (kf : Nat) (i : Nat), mo - i < kf → ∀ (Sx33 : pS)  (nq : Nat) (ng : Nat → Int32) (H : Heap) (locs : List Loc) (ls : Array Slot), Pic cy Sx33 G T 0 ws (.inr (5, [.int (nI k0), .int (nI a0), .int (nI b0), .int (nI c0)])) l2 Vx9 → Frm G S Sx33 → Arr cy Sx33 nq (len + i) ng → (∀ k9, k9 < 53 → nq ≠ G k9) → Arr cy Sx33 qa22 mo ga23 → (i ≤ mo) → ((∀ j, j < len → ng j = nI (Vx9.2 0 j))) → (∀ j, j < i → ng (len + j) = nI (tn / 2 ^ (mo - 1 - j) % 2)) → pW D (pA S s.heap.size) s.heap Sx33 H locs → lv_has ls 10 [(8, .int (nI i)), (7, .int (nI mo)), (6, .ref qa22), (5, .int (nI tn)), (4, .int (nI mo)), (3, .ref nq), (0, .ref (G 0)), (1, .ref ed), (2, .int (nI many))] → W p l e (headSpec (Cond.code yL_message cL_message 10 (some (.array .int)) :: lwU) ({ frames := 7, cells := 17, slots := 4936, locals := 169 } : Room)).room s m ([.ref (G 0), .ref ed, .int (nI many)]).toArray below meth c H locs (1 + 2 * len + 1 + i) (617 * len + 16 + 601 * i) (MQ below (pQq D cy S s.heap.size (fun r S' => ∃ (q : Nat) (g : Nat → Int32) (V' : RV), r = some q ∧ (∀ k, k < 53 → q ≠ G k) ∧ Pic cy S' G T 0 ws (.inr (5, [.int (nI k0), .int (nI a0), .int (nI b0), .int (nI c0)])) l2 V' ∧ Frm G S S' ∧ Stl 0 ws k0 a0 b0 c0 V' ∧ V'.1 0 = many ∧ Arr cy S' q many g ∧ (∀ j, j < many → g j = nI (V'.2 0 j)) ∧ (∀ j, j < many → V'.2 0 j ≤ 1) ∧ V'.2 15 = V.2 15)) ([.ref (G 0), .ref ed, .int (nI many)]).toArray s 17 4936 (pA S s.heap.size)) (F0 m 72 ls []) := by
          intro kf
          induction kf with
          | zero => intro i hm; exact absurd hm (Nat.not_lt_zero _)
          | succ kf ihloop72_32 =>
            intro i hm Sx33  nq ng H locs ls hP35 hF36 hA_nqx hk_nqx hA_qa22x hi hsmi hnew hw hl
            refine lv_iload hx hb dL_message_72 (lv_at hl 0 rfl) ?_
            refine lv_iload hx hb dL_message_74 (lv_at hl 1 rfl) ?_
            refine n_icmp_ge (tgt := 99) hx hb (by omega) (by omega) dL_message_76 (by decide) (fun h_76 => ?_) (fun h_76 => ?_)
            · skip
              have hiq : i = mo := by omega
              refine lv_aload_n hx hb dL_message_99 rfl (lv_at hl 6 rfl) ?_
              refine lv_iload hx hb dL_message_100 (lv_at hl 3 rfl) ?_
              refine lv_iload hx hb dL_message_102 (lv_at hl 4 rfl) ?_
              refine p_calli (va_runV (As := [.int (nI tn), .int (nI mo)]) (rest := []) C.fix (g_X11_write l D cy Sx33 H.size hP35 hk hla hlb hlc tn mo hmo1 (by omega) (by omega) (by omega)) (cwV 2 C.2.2.2.2.1 (gU_V mw_100 mw_101 mw_102 mw_2 (subU mw_103)) rfl rfl rfl hdg_L_message_V_3 ⟨Nat.le_of_ble_eq_true rfl, Nat.le_of_ble_eq_true rfl⟩) (p_preV C hw (hP35.mem (k := 0) (by omega)) hP35.c0 rfl) rfl rfl hl.1 rfl (lv_room (Nat.le_of_ble_eq_true rfl)) dL_message_104 ⟨(show (1 + 2 * len + 1 + i) + 0 ≤ 17 from by omega), (show (617 * len + 16 + 601 * i) + 0 ≤ 4936 from by omega)⟩) hw hA (fun r38 S37 H locs hpost hw => ?_)
              obtain ⟨V41, hr_, hP39, hF40, hK42⟩ := hpost
              subst hr_
              have hA43 := hA_nqx.frm hF40 hk_nqx
              have hA44 := hA_qa22x.frm hF40 hk28
              have hT45 := hF36.trans hF40
              refine lv_aload_n hx hb dL_message_107 rfl (lv_at hl 5 rfl) ?_
              refine n_len C hw 0 rfl hA43.1 hA43.2 (n := len + i) rfl dL_message_108 ?_
              refine n_icmp_eq (tgt := 114) hx hb (by omega) (by omega) dL_message_109 (by decide) (fun h_109 => ?_) (fun h_109 => ?_)
              · skip
                refine lv_goto (tgt := 4) hx hb dL_message_114 (by decide) ?_
                refine W.widen (k := (1 + 2 * (len + mo))) (n := (617 * (len + mo))) (by omega) (by omega) ?_
                exact ihloop4_7  (len + mo) (by omega) S37 V41 nq ng H locs ls hP39 hT45 (hA43.cast (by omega)) hk_nqx (by omega) (hK42.2.1.trans (by omega)) hK42.1 (fun j hj => by rw [hK42.2.2.1]; exact msg_s hv0 hsmi (fun j h => hnew j (by omega)) hj) (fun j hj => by rw [hK42.2.2.1]; exact msg_1 hv0 hs1 hj) (hK42.2.2.2.trans h15) hw (lv_sub hl [5, 6, 7, 8] rfl)
              · omega
            · skip
              refine lv_aload hx hb dL_message_79 (lv_at hl 2 rfl) ?_
              refine lv_iload hx hb dL_message_81 (lv_at hl 0 rfl) ?_
              refine p_ald C hw 0 rfl hA_qa22x.1 hA_qa22x.2 (by omega) (by omega) dL_message_83 ?_
              refine lv_istore (lv' := [(9, .int (ga23 i)), (8, .int (nI i)), (7, .int (nI mo)), (6, .ref qa22), (5, .int (nI tn)), (4, .int (nI mo)), (3, .ref nq), (0, .ref (G 0)), (1, .ref ed), (2, .int (nI many))]) hx hb dL_message_84 hl (by decide) rfl (fun ls hl => ?_)
              refine lv_aload_n hx hb dL_message_86 rfl (lv_at hl 6 rfl) ?_
              refine lv_iload hx hb dL_message_87 (lv_at hl 0 rfl) ?_
              refine p_callq (va_runS (As := [.ref nq, .int (ga23 i)]) (rest := []) C.fix (g_L_with l D cy Sx33 H.size hA_nqx (ga23 i) (by omega)) (va_cwS 2 C.2.2.2.2.1 (gU_S mw_93 mw_94 mw_79 (subU mw_95)) rfl rfl rfl hdg_L_message_S_4 ⟨Nat.le_of_ble_eq_true rfl, Nat.le_of_ble_eq_true rfl⟩) (p_preS C hw) rfl rfl hl.1 rfl (lv_room (Nat.le_of_ble_eq_true rfl)) dL_message_89 ⟨(show (1 + 2 * len + 1 + i) + 1 ≤ 17 from by omega), (show (617 * len + 16 + 601 * i) + 601 ≤ 4936 from by omega)⟩) hw hA (fun r47 S46 H locs hpost hw => ?_)
              obtain ⟨qa48, hr_, hq52, hs50, hA51⟩ := hpost
              subst hr_
              have hk54 := Pic.gne hP35 hq52
              have hA55 := hA_nqx.grw hs50
              have hA56 := hA_qa22x.grw hs50
              have hP57 := Pic.ext hP35 hs50.1 hs50.2
              have hF58 : Frm G S S46 := hF36.trans hs50.frm
              refine lv_astore_n (lv' := [(3, .ref qa48), (9, .int (ga23 i)), (8, .int (nI i)), (7, .int (nI mo)), (6, .ref qa22), (5, .int (nI tn)), (4, .int (nI mo)), (0, .ref (G 0)), (1, .ref ed), (2, .int (nI many))]) hx hb dL_message_92 rfl hl (by decide) rfl (fun ls hl => ?_)
              refine lv_iinc (v := (nI (i + 1))) (lv' := [(8, .int (nI (i + 1))), (3, .ref qa48), (9, .int (ga23 i)), (7, .int (nI mo)), (6, .ref qa22), (5, .int (nI tn)), (4, .int (nI mo)), (0, .ref (G 0)), (1, .ref ed), (2, .int (nI many))]) hx hb dL_message_93 hl (k := 2) rfl (by rw [show Int32.ofInt 1 = nI 1 from by decide, nI_add]) (by decide) rfl (fun ls hl => ?_)
              refine lv_goto (tgt := 72) hx hb dL_message_96 (by decide) ?_
              refine W.widen (k := (1 + 2 * len + 1 + (i + 1))) (n := (617 * len + 16 + 601 * (i + 1))) (by omega) (by omega) ?_
              exact ihloop72_32  (i + 1) (by omega) S46  qa48 (wth ng (len + i) (ga23 i)) H locs ls hP57 hF58 (hA51.cast (by omega)) hk54 hA56 (by omega) (fun j hj => by rw [wth_lt (by omega)]; exact hsmi j hj) (fun j hj => dite (j = i) (fun e => by rw [e, wth_at]; exact hbits i (by omega)) (fun e => by rw [wth_lt (by omega)]; exact hnew j (by omega))) hw (lv_sub hl [0, 3, 4, 5, 6, 1, 7, 8, 9] rfl)
        refine W.widen (k := (1 + 2 * len + 1 + 0)) (n := (617 * len + 16 + 601 * 0)) (by omega) (by omega) ?_
        exact loop72_32 (mo - 0 + 1) 0 (by omega) S20  mq mg H locs ls hP30 hF31 (hA29.cast (by omega)) hk_mqx hA25 (by omega) hsm (fun j hj => absurd hj (Nat.not_lt_zero _)) hw (lv_sub hl [0, 1, 2, 3, 4, 5, 6, 7, 8] rfl)
  refine W.widen (k := (1 + 2 * 0)) (n := (617 * 0)) (by omega) (by omega) ?_
  exact loop4_7 (many - 0 + 1) 0 (by omega) S1 V q2 (fun _ => 0) H [] ls hP5 hF6 (hA4.cast (by omega)) hk2 (by omega) h00 hs0 (fun j hj => absurd hj (Nat.not_lt_zero _)) (fun j hj => absurd hj (Nat.not_lt_zero _)) rfl hw (lv_sub hl [0, 1, 2, 3] rfl)
