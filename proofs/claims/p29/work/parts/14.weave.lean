theorem hdwvS_yX8_init : yX8_init.cls ≠ "java/lang/invoke/MethodHandle" ∧ yX8_init.cls ≠ "java/lang/invoke/VarHandle" ∧ (parseMethodDescriptor yX8_init.desc).map (fun d => d.parameters.length) = some 0 := by decide +kernel
set_option maxHeartbeats 4000000 in
set_option maxRecDepth 100000 in
/-- Weave(int, int) -/
theorem c_X10_init (l : Launch) (D : va_G) (cy : Nat → ClassId) (S : pS) (sz : Nat) (h x0 y0 wa wc : Nat) (hL_h : h ∈ S.1) (hf_h : S.2 h = .inr (9, [.int (nI x0), .int (nI y0)]))  : Met l yX10_init wsX10_init ({ frames := 2, cells := 0, slots := 0, locals := 32 }) (pPc D cy S sz [.ref h, .int (nI wa), .int (nI wc)]) (pQv D cy S sz (fun S' => S' = pup S h (.inr (9, [.int (nI wa), .int (nI wc)])))) 0 0 (pA S sz) := by
  refine Met.ofW (cc := cX10_init) (maxL := 3) (ret := none) (by decide) rfl ?_
  intro p e s m args below meth c s₁ B hml hv
  have hin : meth.name = "<init>" := (name_of_methodNamed B.named B.method).1
  obtain ⟨rfl, rfl, C, hw, hA, hr, hlocks⟩ := p_start B hml hv
  have hx := C.1
  have hb := C.2.1
  have hl := lv_entry ([.ref h, .int (nI wa), .int (nI wc)]) (n := 3) (Nat.le_of_ble_eq_true rfl)
  rw [lg_entry_eq]
  generalize (lg_sl ([.ref h, .int (nI wa), .int (nI wc)]) ++ List.replicate (3 - (lg_sl ([.ref h, .int (nI wa), .int (nI wc)])).length) Slot.unset).toArray = ls at hl ⊢
  have hl : lv_has ls 3 [(0, .ref h), (1, .int (nI wa)), (2, .int (nI wc))] := hl
  have hin_RX10 : ∀ w ∈ u_ws RX10 TX10 2, w ∈ wsX10_init := by decide +kernel
  refine lv_aload_n hx hb dX10_init_0 rfl (lv_at hl 0 rfl) ?_
  refine p_callv (va_runIN (As := []) (rest := []) C.fix (c_X8_init l D cy S s.heap.size h) ⟨va_cnB 0 C.2.2.2.2.1 gX10_init_X8_init_n3 rfl rfl rfl (show va_Nw (.methodLinkNest RX10 3 yX8_init "SoundingLine") s from C.2.2.2.2.2.2.1 13 (RX10, 3, yX8_init) rfl) (C.2.2.2.2.1 (.initialized RX8) (List.mem_of_getElem? (i := 4) rfl)) hdwvS_yX8_init ⟨Nat.le_of_ble_eq_true rfl, Nat.le_of_ble_eq_true rfl⟩, rfl, C.2.2.2.2.1 (.instanceMethod yX8_init) (List.mem_of_getElem? (i := 3) rfl)⟩ (p_preS C hw) rfl rfl hl.1 rfl (lv_room (Nat.le_of_ble_eq_true rfl)) dX10_init_1 ⟨Nat.le_of_ble_eq_true rfl, Nat.le_of_ble_eq_true rfl⟩) hw hA (fun S1 H locs hpost hw => ?_)
  subst hpost
  refine lv_aload_n hx hb dX10_init_4 rfl (lv_at hl 0 rfl) ?_
  refine lv_iload_n hx hb dX10_init_5 rfl (lv_at hl 1 rfl) ?_
  refine p_putF C hw (ci := 9) (Cn := RX10) (T := TX10) (N := 2) tyX10 tyX10_ok nmX10 hL_h hf_h rfl hin_RX10 0 (by decide) (List.mem_of_getElem? (i := 1) rfl) rfl rfl hin rfl rfl rfl rfl (by simp) dX10_init_6 rfl (fun H locs hw => ?_)
  obtain ⟨S3, hS3⟩ : ∃ z, z = pup S h (.inr (9, [.int (nI wa), .int (nI y0)])) := ⟨_, rfl⟩
  replace hw : pW D (pA S s.heap.size) s.heap S3 H locs := by rw [hS3]; exact hw
  have hL4 : h ∈ S3.1 := by rw [hS3]; exact hL_h
  have hf5 : S3.2 h = .inr (9, [.int (nI wa), .int (nI y0)]) := by rw [hS3]; exact pup_s
  refine lv_aload_n hx hb dX10_init_9 rfl (lv_at hl 0 rfl) ?_
  refine lv_iload_n hx hb dX10_init_10 rfl (lv_at hl 2 rfl) ?_
  refine p_putF C hw (ci := 9) (Cn := RX10) (T := TX10) (N := 2) tyX10 tyX10_ok nmX10 hL4 hf5 rfl hin_RX10 1 (by decide) (List.mem_of_getElem? (i := 2) rfl) rfl rfl hin rfl rfl rfl rfl (by simp) dX10_init_11 rfl (fun H locs hw => ?_)
  obtain ⟨S6, hS6⟩ : ∃ z, z = pup S3 h (.inr (9, [.int (nI wa), .int (nI wc)])) := ⟨_, rfl⟩
  replace hw : pW D (pA S s.heap.size) s.heap S6 H locs := by rw [hS6]; exact hw
  have hL7 : h ∈ S6.1 := by rw [hS6]; exact hL4
  have hf8 : S6.2 h = .inr (9, [.int (nI wa), .int (nI wc)]) := by rw [hS6]; exact pup_s
  exact p_vret C hw (by rw [hS6, hS3]; simp only [pup_pup]) hr hlocks dX10_init_14

set_option maxHeartbeats 4000000 in
set_option maxRecDepth 100000 in
/-- Weave.kind -/
theorem c_X10_kind (l : Launch) (D : va_G) (cy : Nat → ClassId) (S : pS) (sz : Nat) (h : Nat)   : Met l yX10_kind wsX10_kind ({ frames := 0, cells := 0, slots := 0, locals := 0 }) (pPc D cy S sz [.ref h]) (pQi D cy S sz (fun r S' => r = nI 4 ∧ S = S')) 0 0 (pA S sz) := by
  refine Met.ofW (cc := cX10_kind) (maxL := 1) (ret := (some .int)) (by decide) rfl ?_
  intro p e s m args below meth c s₁ B hml hv
  obtain ⟨rfl, rfl, C, hw, hA, hr, hlocks⟩ := p_start B hml hv
  have hx := C.1
  have hb := C.2.1
  have hl := lv_entry ([.ref h]) (n := 1) (Nat.le_of_ble_eq_true rfl)
  rw [lg_entry_eq]
  generalize (lg_sl ([.ref h]) ++ List.replicate (1 - (lg_sl ([.ref h])).length) Slot.unset).toArray = ls at hl ⊢
  have hl : lv_has ls 1 [(0, .ref h)] := hl
  refine lv_iconst (v := nI 4) hx hb dX10_kind_0 (by decide) ?_
  exact p_iret C hw ⟨rfl, rfl⟩ hr hlocks dX10_kind_1

theorem hdwvS_yX11_blocksOf : yX11_blocksOf.cls ≠ "java/lang/invoke/MethodHandle" ∧ yX11_blocksOf.cls ≠ "java/lang/invoke/VarHandle" ∧ (parseMethodDescriptor yX11_blocksOf.desc).map (fun d => d.parameters.length) = some 2 := by decide +kernel
set_option maxHeartbeats 4000000 in
set_option maxRecDepth 100000 in
/-- Weave.sizeOf -/
theorem c_X10_sizeOf (l : Launch) (D : va_G) (cy : Nat → ClassId) (S : pS) (sz : Nat) (h wa wc n : Nat) (hL_h : h ∈ S.1) (hf_h : S.2 h = .inr (9, [.int (nI wa), .int (nI wc)])) (hn : n < 2 ^ 29) (hwa0 : 1 ≤ wa) (hwa : wa ≤ 10) (hwc0 : 1 ≤ wc) (hwc : wc ≤ 10) : Met l yX10_sizeOf wsX10_sizeOf ({ frames := 1, cells := 0, slots := 0, locals := 21 }) (pPc D cy S sz [.ref h, .int (nI n)]) (pQi D cy S sz (fun r S' => r = nI (blk n (wa * wc) * wa * wc) ∧ S = S')) 0 0 (pA S sz) := by
  refine Met.ofW (cc := cX10_sizeOf) (maxL := 2) (ret := (some .int)) (by decide) rfl ?_
  intro p e s m args below meth c s₁ B hml hv
  obtain ⟨rfl, rfl, C, hw, hA, hr, hlocks⟩ := p_start B hml hv
  have hx := C.1
  have hb := C.2.1
  have hl := lv_entry ([.ref h, .int (nI n)]) (n := 2) (Nat.le_of_ble_eq_true rfl)
  rw [lg_entry_eq]
  generalize (lg_sl ([.ref h, .int (nI n)]) ++ List.replicate (2 - (lg_sl ([.ref h, .int (nI n)])).length) Slot.unset).toArray = ls at hl ⊢
  have hl : lv_has ls 2 [(0, .ref h), (1, .int (nI n))] := hl
  have hin_RX10 : ∀ w ∈ u_ws RX10 TX10 2, w ∈ wsX10_sizeOf := by decide +kernel
  have hac0 : 0 < wa * wc := Nat.mul_pos hwa0 hwc0
  have hac : wa * wc ≤ 10 * 10 := Nat.mul_le_mul hwa hwc
  refine lv_iload_n hx hb dX10_sizeOf_0 rfl (lv_at hl 1 rfl) ?_
  refine lv_aload_n hx hb dX10_sizeOf_1 rfl (lv_at hl 0 rfl) ?_
  refine p_get C hw (ci := 9) (Cn := RX10) (T := TX10) (N := 2) hL_h hf_h rfl hin_RX10 0 (by decide) (List.mem_of_getElem? (i := 1) rfl) rfl rfl dX10_sizeOf_2 ?_
  refine lv_aload_n hx hb dX10_sizeOf_5 rfl (lv_at hl 0 rfl) ?_
  refine p_get C hw (ci := 9) (Cn := RX10) (T := TX10) (N := 2) hL_h hf_h rfl hin_RX10 1 (by decide) (List.mem_of_getElem? (i := 2) rfl) rfl rfl dX10_sizeOf_6 ?_
  refine n_imul hx hb dX10_sizeOf_9 ?_
  refine p_calli (va_runSN (As := [.int (nI n), .int (nI (wa * wc))]) (rest := []) C.fix (c_X11_blocksOf l D cy S s.heap.size n (wa * wc) (by omega) (by omega)) ⟨va_cnB 2 C.2.2.2.2.1 gX10_sizeOf_X11_blocksOf_n18 rfl rfl rfl (show va_Nw (.methodLinkNest RX10 18 yX11_blocksOf "SoundingLine") s from C.2.2.2.2.2.2.1 5 (RX10, 18, yX11_blocksOf) rfl) (C.2.2.2.2.1 (.initialized RX11) (List.mem_of_getElem? (i := 4) rfl)) hdwvS_yX11_blocksOf ⟨Nat.le_of_ble_eq_true rfl, Nat.le_of_ble_eq_true rfl⟩, C.2.2.2.2.1 (.static yX11_blocksOf) (List.mem_of_getElem? (i := 3) rfl), trivial⟩ (p_preS C hw) rfl rfl hl.1 rfl (lv_room (Nat.le_of_ble_eq_true rfl)) dX10_sizeOf_10 ⟨Nat.le_of_ble_eq_true rfl, Nat.le_of_ble_eq_true rfl⟩) hw hA (fun r2 S1 H locs hpost hw => ?_)
  obtain ⟨hr_, hS_⟩ := hpost
  subst hr_
  subst hS_
  refine lv_aload_n hx hb dX10_sizeOf_13 rfl (lv_at hl 0 rfl) ?_
  refine p_get C hw (ci := 9) (Cn := RX10) (T := TX10) (N := 2) hL_h hf_h rfl hin_RX10 0 (by decide) (List.mem_of_getElem? (i := 1) rfl) rfl rfl dX10_sizeOf_14 ?_
  refine n_imul hx hb dX10_sizeOf_17 ?_
  refine lv_aload_n hx hb dX10_sizeOf_18 rfl (lv_at hl 0 rfl) ?_
  refine p_get C hw (ci := 9) (Cn := RX10) (T := TX10) (N := 2) hL_h hf_h rfl hin_RX10 1 (by decide) (List.mem_of_getElem? (i := 2) rfl) rfl rfl dX10_sizeOf_19 ?_
  refine n_imul hx hb dX10_sizeOf_22 ?_
  exact p_iret C hw ⟨rfl, rfl⟩ hr hlocks dX10_sizeOf_23

set_option maxHeartbeats 4000000 in
set_option maxRecDepth 100000 in
/-- Weave.placeBefore -/
theorem c_X10_placeBefore (l : Launch) (D : va_G) (cy : Nat → ClassId) (S : pS) (sz : Nat) (h wa wc q : Nat) (hL_h : h ∈ S.1) (hf_h : S.2 h = .inr (9, [.int (nI wa), .int (nI wc)])) (hq : q < 2 ^ 20) (hwa0 : 1 ≤ wa) (hwa : wa ≤ 10) (hwc0 : 1 ≤ wc) (hwc : wc ≤ 10) : Met l yX10_placeBefore wsX10_placeBefore ({ frames := 0, cells := 0, slots := 0, locals := 0 }) (pPc D cy S sz [.ref h, .int (nI q)]) (pQi D cy S sz (fun r S' => r = nI (wvN wa wc q) ∧ S = S')) 0 0 (pA S sz) := by
  refine Met.ofW (cc := cX10_placeBefore) (maxL := 4) (ret := (some .int)) (by decide) rfl ?_
  intro p e s m args below meth c s₁ B hml hv
  obtain ⟨rfl, rfl, C, hw, hA, hr, hlocks⟩ := p_start B hml hv
  have hx := C.1
  have hb := C.2.1
  have hl := lv_entry ([.ref h, .int (nI q)]) (n := 4) (Nat.le_of_ble_eq_true rfl)
  rw [lg_entry_eq]
  generalize (lg_sl ([.ref h, .int (nI q)]) ++ List.replicate (4 - (lg_sl ([.ref h, .int (nI q)])).length) Slot.unset).toArray = ls at hl ⊢
  have hl : lv_has ls 4 [(0, .ref h), (1, .int (nI q))] := hl
  have hin_RX10 : ∀ w ∈ u_ws RX10 TX10 2, w ∈ wsX10_placeBefore := by decide +kernel
  have hac0 : 0 < wa * wc := Nat.mul_pos hwa0 hwc0
  have hac : wa * wc ≤ 10 * 10 := Nat.mul_le_mul hwa hwc
  have hml1 := Nat.mod_le q (wa * wc)
  refine lv_aload_n hx hb dX10_placeBefore_0 rfl (lv_at hl 0 rfl) ?_
  refine p_get C hw (ci := 9) (Cn := RX10) (T := TX10) (N := 2) hL_h hf_h rfl hin_RX10 0 (by decide) (List.mem_of_getElem? (i := 1) rfl) rfl rfl dX10_placeBefore_1 ?_
  refine lv_aload_n hx hb dX10_placeBefore_4 rfl (lv_at hl 0 rfl) ?_
  refine p_get C hw (ci := 9) (Cn := RX10) (T := TX10) (N := 2) hL_h hf_h rfl hin_RX10 1 (by decide) (List.mem_of_getElem? (i := 2) rfl) rfl rfl dX10_placeBefore_5 ?_
  refine n_imul hx hb dX10_placeBefore_8 ?_
  refine lv_istore_n (lv' := [(2, .int (nI (wa * wc))), (0, .ref h), (1, .int (nI q))]) hx hb dX10_placeBefore_9 rfl hl (by decide) rfl (fun ls hl => ?_)
  refine lv_iload_n hx hb dX10_placeBefore_10 rfl (lv_at hl 0 rfl) ?_
  refine n_if_le (tgt := 21) hx hb (by omega) dX10_placeBefore_11 (by decide) (fun h_11 => ?_) (fun h_11 => ?_)
  · exact absurd h_11 (by omega)
  · skip
    refine lv_aload_n hx hb dX10_placeBefore_14 rfl (lv_at hl 1 rfl) ?_
    refine p_get C hw (ci := 9) (Cn := RX10) (T := TX10) (N := 2) hL_h hf_h rfl hin_RX10 0 (by decide) (List.mem_of_getElem? (i := 1) rfl) rfl rfl dX10_placeBefore_15 ?_
    refine n_if_gt (tgt := 23) hx hb (by omega) dX10_placeBefore_18 (by decide) (fun h_18 => ?_) (fun h_18 => ?_)
    · skip
      refine lv_iload_n hx hb dX10_placeBefore_23 rfl (lv_at hl 2 rfl) ?_
      refine lv_iload_n hx hb dX10_placeBefore_24 rfl (lv_at hl 0 rfl) ?_
      refine n_irem hx hb (by omega) (by omega) (by omega) dX10_placeBefore_25 ?_
      refine lv_istore_n (lv' := [(3, .int (nI (q % (wa * wc)))), (2, .int (nI (wa * wc))), (0, .ref h), (1, .int (nI q))]) hx hb dX10_placeBefore_26 rfl hl (by decide) rfl (fun ls hl => ?_)
      refine lv_iload_n hx hb dX10_placeBefore_27 rfl (lv_at hl 3 rfl) ?_
      refine lv_iload_n hx hb dX10_placeBefore_28 rfl (lv_at hl 0 rfl) ?_
      refine n_isub hx hb (Nat.mod_le _ _) dX10_placeBefore_29 ?_
      refine lv_iload_n hx hb dX10_placeBefore_30 rfl (lv_at hl 0 rfl) ?_
      refine lv_aload_n hx hb dX10_placeBefore_31 rfl (lv_at hl 2 rfl) ?_
      refine p_get C hw (ci := 9) (Cn := RX10) (T := TX10) (N := 2) hL_h hf_h rfl hin_RX10 0 (by decide) (List.mem_of_getElem? (i := 1) rfl) rfl rfl dX10_placeBefore_32 ?_
      refine n_irem hx hb (by omega) (by omega) (by omega) dX10_placeBefore_35 ?_
      refine lv_aload_n hx hb dX10_placeBefore_36 rfl (lv_at hl 2 rfl) ?_
      refine p_get C hw (ci := 9) (Cn := RX10) (T := TX10) (N := 2) hL_h hf_h rfl hin_RX10 1 (by decide) (List.mem_of_getElem? (i := 2) rfl) rfl rfl dX10_placeBefore_37 ?_
      refine n_imul hx hb dX10_placeBefore_40 ?_
      refine n_iadd hx hb dX10_placeBefore_41 ?_
      refine lv_iload_n hx hb dX10_placeBefore_42 rfl (lv_at hl 0 rfl) ?_
      refine lv_aload_n hx hb dX10_placeBefore_43 rfl (lv_at hl 2 rfl) ?_
      refine p_get C hw (ci := 9) (Cn := RX10) (T := TX10) (N := 2) hL_h hf_h rfl hin_RX10 0 (by decide) (List.mem_of_getElem? (i := 1) rfl) rfl rfl dX10_placeBefore_44 ?_
      refine n_idiv hx hb (by omega) (by omega) (by omega) dX10_placeBefore_47 ?_
      refine n_iadd hx hb dX10_placeBefore_48 ?_
      exact p_iret C hw ⟨rfl, rfl⟩ hr hlocks dX10_placeBefore_49
    · omega

theorem hdwvV_yX7_size_RX7 : yX7_size.cls = RX7 ∧ yX7_size.cls ≠ "java/lang/invoke/MethodHandle" ∧ yX7_size.cls ≠ "java/lang/invoke/VarHandle" ∧ (parseMethodDescriptor yX7_size.desc).map (fun d => d.parameters.length) = some 0 := by decide +kernel
theorem hdwvV_yX10_placeBefore_RX10 : yX10_placeBefore.cls = RX10 ∧ yX10_placeBefore.cls ≠ "java/lang/invoke/MethodHandle" ∧ yX10_placeBefore.cls ≠ "java/lang/invoke/VarHandle" ∧ (parseMethodDescriptor yX10_placeBefore.desc).map (fun d => d.parameters.length) = some 1 := by decide +kernel
theorem hdwvV_yX7_numberAt_RX7 : yX7_numberAt.cls = RX7 ∧ yX7_numberAt.cls ≠ "java/lang/invoke/MethodHandle" ∧ yX7_numberAt.cls ≠ "java/lang/invoke/VarHandle" ∧ (parseMethodDescriptor yX7_numberAt.desc).map (fun d => d.parameters.length) = some 2 := by decide +kernel
theorem hdwvV_yX7_put_RX7 : yX7_put.cls = RX7 ∧ yX7_put.cls ≠ "java/lang/invoke/MethodHandle" ∧ yX7_put.cls ≠ "java/lang/invoke/VarHandle" ∧ (parseMethodDescriptor yX7_put.desc).map (fun d => d.parameters.length) = some 2 := by decide +kernel
set_option maxHeartbeats 4000000 in
set_option maxRecDepth 100000 in
/-- Weave.code -/
theorem c_X10_code (l : Launch) (D : va_G) (cy : Nat → ClassId) (S : pS) (sz : Nat) (h wa wc : Nat) (a a1 Na na b b1 Nb nb : Nat) (ga gb : Nat → Nat) (hL_h : h ∈ S.1) (hf_h : S.2 h = .inr (9, [.int (nI wa), .int (nI wc)])) (hL_a : a ∈ S.1) (hf_a : S.2 a = .inr (7, [.ref a1, .int (nI na)])) (hL_a1 : a1 ∈ S.1) (hf_a1 : S.2 a1 = aN (cy 0) Na ga) (hL_b : b ∈ S.1) (hf_b : S.2 b = .inr (7, [.ref b1, .int (nI nb)])) (hL_b1 : b1 ∈ S.1) (hf_b1 : S.2 b1 = aN (cy 0) Nb gb) (hwa0 : 1 ≤ wa) (hwa : wa ≤ 10) (hwc0 : 1 ≤ wc) (hwc : wc ≤ 10) (hn4 : nb ≤ 400) (hNa : Na < 2 ^ 27) (hna : na ≤ Na) (hga : ∀ q, ga q ≤ 2) (hNb : Nb < 2 ^ 27) (hnb : nb ≤ Nb) (hgb : ∀ q, gb q ≤ 2) (hne : a1 ≠ b1) : Met l yX10_code wsX10_code ({ frames := 2, cells := 0, slots := 0, locals := 45 }) (pPc D cy S sz [.ref h, .ref a, .ref b]) (pQv D cy S sz (fun S' => S' = pup S b1 (aN (cy 0) Nb (rpos (wvF ga na wa wc) gb nb (nb))))) 0 0 (pA S sz) := by
  refine Met.ofW (cc := cX10_code) (maxL := 4) (ret := none) (by decide) rfl ?_
  intro p e s m args below meth c s₁ B hml hv
  obtain ⟨rfl, rfl, C, hw, hA, hr, hlocks⟩ := p_start B hml hv
  have hx := C.1
  have hb := C.2.1
  have hl := lv_entry ([.ref h, .ref a, .ref b]) (n := 4) (Nat.le_of_ble_eq_true rfl)
  rw [lg_entry_eq]
  generalize (lg_sl ([.ref h, .ref a, .ref b]) ++ List.replicate (4 - (lg_sl ([.ref h, .ref a, .ref b])).length) Slot.unset).toArray = ls at hl ⊢
  have hl : lv_has ls 4 [(0, .ref h), (1, .ref a), (2, .ref b)] := hl
  have hin_RX10 : ∀ w ∈ u_ws RX10 TX10 2, w ∈ wsX10_code := by decide +kernel
  refine lv_iconst (v := nI 0) hx hb dX10_code_0 (by decide) ?_
  refine lv_istore_n (lv' := [(3, .int (nI 0)), (0, .ref h), (1, .ref a), (2, .ref b)]) hx hb dX10_code_1 rfl hl (by decide) rfl (fun ls hl => ?_)
  have loop2 : ∀ (kf : Nat) (q : Nat), nb - q < kf → ∀ (SA : pS), ∀ (H : Heap) (locs : List Loc) (ls : Array Slot), (h ∈ SA.1) → (SA.2 h = .inr (9, [.int (nI wa), .int (nI wc)])) → (a ∈ SA.1) → (SA.2 a = .inr (7, [.ref a1, .int (nI na)])) → (a1 ∈ SA.1) → (SA.2 a1 = aN (cy 0) Na ga) → (b ∈ SA.1) → (SA.2 b = .inr (7, [.ref b1, .int (nI nb)])) → (b1 ∈ SA.1) → (SA.2 b1 = aN (cy 0) Nb (rpos (wvF ga na wa wc) gb nb (q))) → (q ≤ nb) → (SA = pup S b1 (aN (cy 0) Nb (rpos (wvF ga na wa wc) gb nb (q)))) → pW D (pA S s.heap.size) s.heap SA H locs → lv_has ls 4 [(3, .int (nI q)), (0, .ref h), (1, .ref a), (2, .ref b)] → W p l e (headSpec wsX10_code ({ frames := 2, cells := 0, slots := 0, locals := 45 } : Room)).room s m ([.ref h, .ref a, .ref b]).toArray below meth c H locs 0 0 (MQ below (pQv D cy S s.heap.size (fun S' => S' = pup S b1 (aN (cy 0) Nb (rpos (wvF ga na wa wc) gb nb (nb))))) ([.ref h, .ref a, .ref b]).toArray s 0 0 (pA S s.heap.size)) (F0 m 2 ls []) := by
    intro kf
    induction kf with
    | zero => intro q hm; exact absurd hm (Nat.not_lt_zero _)
    | succ kf ih2 =>
      intro q hm SA H locs ls hL1 hf2 hL3 hf4 hL5 hf6 hL7 hf8 hL9 hf10 hq hSA hw hl
      have hwl := wvN_le (a := wa) (c := wc) (q := q) hwa0 hwa hwc
      refine lv_iload_n hx hb dX10_code_2 rfl (lv_at hl 0 rfl) ?_
      refine lv_aload_n hx hb dX10_code_3 rfl (lv_at hl 3 rfl) ?_
      refine p_calli (va_runV (As := []) (rest := [.int (nI q)]) C.fix (c_X7_size l D cy SA H.size b b1 nb hL7 hf8) (cwV 0 C.2.2.2.2.1 gX10_code_X7_size rfl rfl rfl hdwvV_yX7_size_RX7 ⟨Nat.le_of_ble_eq_true rfl, Nat.le_of_ble_eq_true rfl⟩) (p_preV C hw hL7 hf8 rfl) rfl rfl hl.1 rfl (lv_room (Nat.le_of_ble_eq_true rfl)) dX10_code_4 ⟨Nat.le_of_ble_eq_true rfl, Nat.le_of_ble_eq_true rfl⟩) hw hA (fun r12 S11 H locs hpost hw => ?_)
      obtain ⟨hr_, hS_⟩ := hpost
      subst hr_
      subst hS_
      refine n_icmp_ge (tgt := 31) hx hb (by omega) (by omega) dX10_code_7 (by decide) (fun h_7 => ?_) (fun h_7 => ?_)
      · skip
        exact p_vret C hw (by rw [hSA, show nb = q from by omega]) hr hlocks dX10_code_31
      · skip
        refine lv_aload_n hx hb dX10_code_10 rfl (lv_at hl 3 rfl) ?_
        refine lv_iload_n hx hb dX10_code_11 rfl (lv_at hl 0 rfl) ?_
        refine lv_aload_n hx hb dX10_code_12 rfl (lv_at hl 2 rfl) ?_
        refine lv_aload_n hx hb dX10_code_13 rfl (lv_at hl 1 rfl) ?_
        refine lv_iload_n hx hb dX10_code_14 rfl (lv_at hl 0 rfl) ?_
        refine p_calli (va_runV (As := [.int (nI q)]) (rest := [.ref a, .int (nI q), .ref b]) C.fix (c_X10_placeBefore l D cy SA H.size h wa wc q hL1 hf2 (by omega) hwa0 hwa hwc0 hwc) (cwV 1 C.2.2.2.2.1 gX10_code_X10_placeBefore rfl rfl rfl hdwvV_yX10_placeBefore_RX10 ⟨Nat.le_of_ble_eq_true rfl, Nat.le_of_ble_eq_true rfl⟩) (p_preV C hw hL1 hf2 rfl) rfl rfl hl.1 rfl (lv_room (Nat.le_of_ble_eq_true rfl)) dX10_code_15 ⟨Nat.le_of_ble_eq_true rfl, Nat.le_of_ble_eq_true rfl⟩) hw hA (fun r14 S13 H locs hpost hw => ?_)
        obtain ⟨hr_, hS_⟩ := hpost
        subst hr_
        subst hS_
        refine lv_iconst (v := nI 1) hx hb dX10_code_18 (by decide) ?_
        refine p_calli (va_runV (As := [.int (nI (wvN wa wc q)), .int (nI 1)]) (rest := [.int (nI q), .ref b]) C.fix (c_X7_numberAt l D cy SA H.size a a1 Na na (wvN wa wc q) 1 ga hL3 hf4 hL5 hf6 hNa hna (by omega) (by omega) hga) (cwV 2 C.2.2.2.2.1 gX10_code_X7_numberAt rfl rfl rfl hdwvV_yX7_numberAt_RX7 ⟨Nat.le_of_ble_eq_true rfl, Nat.le_of_ble_eq_true rfl⟩) (p_preV C hw hL3 hf4 rfl) rfl rfl hl.1 rfl (lv_room (Nat.le_of_ble_eq_true rfl)) dX10_code_19 ⟨Nat.le_of_ble_eq_true rfl, Nat.le_of_ble_eq_true rfl⟩) hw hA (fun r16 S15 H locs hpost hw => ?_)
        obtain ⟨hr_, hS_⟩ := hpost
        subst hr_
        subst hS_
        refine p_callv (va_runV (As := [.int (nI q), .int (nI (numAt ga na (wvN wa wc q) 1))]) (rest := []) C.fix (c_X7_put l D cy SA H.size b b1 Nb nb q (numAt ga na (wvN wa wc q) 1) (rpos (wvF ga na wa wc) gb nb (q)) hL7 hf8 hL9 hf10 hNb hnb (by omega)) (cwV 2 C.2.2.2.2.1 gX10_code_X7_put rfl rfl rfl hdwvV_yX7_put_RX7 ⟨Nat.le_of_ble_eq_true rfl, Nat.le_of_ble_eq_true rfl⟩) (p_preV C hw hL7 hf8 rfl) rfl rfl hl.1 rfl (lv_room (Nat.le_of_ble_eq_true rfl)) dX10_code_22 ⟨Nat.le_of_ble_eq_true rfl, Nat.le_of_ble_eq_true rfl⟩) hw hA (fun S17 H locs hpost hw => ?_)
        have hL19 : h ∈ S17.1 := by rw [hpost]; exact hL1
        have hf20 : S17.2 h = .inr (9, [.int (nI wa), .int (nI wc)]) := by rw [hpost]; exact (pup_n (ne_cells hf2 hf10 (by nofun))).trans hf2
        have hL21 : a ∈ S17.1 := by rw [hpost]; exact hL3
        have hf22 : S17.2 a = .inr (7, [.ref a1, .int (nI na)]) := by rw [hpost]; exact (pup_n (ne_cells hf4 hf10 (by nofun))).trans hf4
        have hL23 : a1 ∈ S17.1 := by rw [hpost]; exact hL5
        have hf24 : S17.2 a1 = aN (cy 0) Na ga := by rw [hpost]; exact (pup_n (by first | assumption | exact Ne.symm (by assumption))).trans hf6
        have hL25 : b ∈ S17.1 := by rw [hpost]; exact hL7
        have hf26 : S17.2 b = .inr (7, [.ref b1, .int (nI nb)]) := by rw [hpost]; exact (pup_n (ne_cells hf8 hf10 (by nofun))).trans hf8
        have hL27 : b1 ∈ S17.1 := by rw [hpost]; exact hL9
        have hf28 : S17.2 b1 = aN (cy 0) Nb (rput (rpos (wvF ga na wa wc) gb nb (q)) nb q (numAt ga na (wvN wa wc q) 1)) := by rw [hpost]; exact pup_s
        refine lv_iinc (v := (nI (q + 1))) (lv' := [(3, .int (nI (q + 1))), (0, .ref h), (1, .ref a), (2, .ref b)]) hx hb dX10_code_25 hl (k := 0) rfl (by rw [show Int32.ofInt 1 = nI 1 from by decide, nI_add]) (by decide) rfl (fun ls hl => ?_)
        refine lv_goto (tgt := 2) hx hb dX10_code_28 (by decide) ?_
        exact ih2 (q + 1) (by omega) S17 H locs ls hL19 hf20 hL21 hf22 hL23 hf24 hL25 hf26 hL27 (by rw [hpost, rpos_put (F := wvF ga na wa wc) (m := q) (v := numAt ga na (wvN wa wc q) 1) rfl]; exact pup_s) (by omega) (by rw [hpost, hSA, pup_pup, rpos_put (F := wvF ga na wa wc) (m := q) (v := numAt ga na (wvN wa wc q) 1) rfl]) hw (lv_sub hl [0, 1, 2, 3] rfl)
  exact loop2 (nb - 0 + 1) 0 (by omega) S s.heap [] ls hL_h hf_h hL_a hf_a hL_a1 hf_a1 hL_b hf_b hL_b1 (by rw [rpos_0]; exact hf_b1) (Nat.zero_le _) (by rw [rpos_0]; exact (pup_self hf_b1).symm) hw (lv_sub hl [0, 1, 2, 3] rfl)

theorem hdwvV_yX7_get_RX7 : yX7_get.cls = RX7 ∧ yX7_get.cls ≠ "java/lang/invoke/MethodHandle" ∧ yX7_get.cls ≠ "java/lang/invoke/VarHandle" ∧ (parseMethodDescriptor yX7_get.desc).map (fun d => d.parameters.length) = some 1 := by decide +kernel
set_option maxHeartbeats 4000000 in
set_option maxRecDepth 100000 in
/-- Weave.decode -/
theorem c_X10_decode (l : Launch) (D : va_G) (cy : Nat → ClassId) (S : pS) (sz : Nat) (h wa wc : Nat) (a a1 Na na b b1 Nb nb : Nat) (ga gb : Nat → Nat) (hL_h : h ∈ S.1) (hf_h : S.2 h = .inr (9, [.int (nI wa), .int (nI wc)])) (hL_a : a ∈ S.1) (hf_a : S.2 a = .inr (7, [.ref a1, .int (nI na)])) (hL_a1 : a1 ∈ S.1) (hf_a1 : S.2 a1 = aN (cy 0) Na ga) (hL_b : b ∈ S.1) (hf_b : S.2 b = .inr (7, [.ref b1, .int (nI nb)])) (hL_b1 : b1 ∈ S.1) (hf_b1 : S.2 b1 = aN (cy 0) Nb gb) (hwa0 : 1 ≤ wa) (hwa : wa ≤ 10) (hwc0 : 1 ≤ wc) (hwc : wc ≤ 10) (hn4 : na ≤ 400) (hNa : Na < 2 ^ 27) (hna : na ≤ Na) (hga : ∀ q, ga q ≤ 2) (hNb : Nb < 2 ^ 27) (hnb : nb ≤ Nb) (hgb : ∀ q, gb q ≤ 2) (hne : a1 ≠ b1) : Met l yX10_decode wsX10_decode ({ frames := 1, cells := 0, slots := 0, locals := 23 }) (pPc D cy S sz [.ref h, .ref a, .ref b]) (pQv D cy S sz (fun S' => S' = pup S b1 (aN (cy 0) Nb (rwd gb nb ga na wa wc na)))) 0 0 (pA S sz) := by
  refine Met.ofW (cc := cX10_decode) (maxL := 4) (ret := none) (by decide) rfl ?_
  intro p e s m args below meth c s₁ B hml hv
  obtain ⟨rfl, rfl, C, hw, hA, hr, hlocks⟩ := p_start B hml hv
  have hx := C.1
  have hb := C.2.1
  have hl := lv_entry ([.ref h, .ref a, .ref b]) (n := 4) (Nat.le_of_ble_eq_true rfl)
  rw [lg_entry_eq]
  generalize (lg_sl ([.ref h, .ref a, .ref b]) ++ List.replicate (4 - (lg_sl ([.ref h, .ref a, .ref b])).length) Slot.unset).toArray = ls at hl ⊢
  have hl : lv_has ls 4 [(0, .ref h), (1, .ref a), (2, .ref b)] := hl
  have hin_RX10 : ∀ w ∈ u_ws RX10 TX10 2, w ∈ wsX10_decode := by decide +kernel
  refine lv_iconst (v := nI 0) hx hb dX10_decode_0 (by decide) ?_
  refine lv_istore_n (lv' := [(3, .int (nI 0)), (0, .ref h), (1, .ref a), (2, .ref b)]) hx hb dX10_decode_1 rfl hl (by decide) rfl (fun ls hl => ?_)
  have loop2 : ∀ (kf : Nat) (q : Nat), na - q < kf → ∀ (SA : pS), ∀ (H : Heap) (locs : List Loc) (ls : Array Slot), (h ∈ SA.1) → (SA.2 h = .inr (9, [.int (nI wa), .int (nI wc)])) → (a ∈ SA.1) → (SA.2 a = .inr (7, [.ref a1, .int (nI na)])) → (a1 ∈ SA.1) → (SA.2 a1 = aN (cy 0) Na ga) → (b ∈ SA.1) → (SA.2 b = .inr (7, [.ref b1, .int (nI nb)])) → (b1 ∈ SA.1) → (SA.2 b1 = aN (cy 0) Nb (rwd gb nb ga na wa wc q)) → (q ≤ na) → (SA = pup S b1 (aN (cy 0) Nb (rwd gb nb ga na wa wc q))) → pW D (pA S s.heap.size) s.heap SA H locs → lv_has ls 4 [(3, .int (nI q)), (0, .ref h), (1, .ref a), (2, .ref b)] → W p l e (headSpec wsX10_decode ({ frames := 1, cells := 0, slots := 0, locals := 23 } : Room)).room s m ([.ref h, .ref a, .ref b]).toArray below meth c H locs 0 0 (MQ below (pQv D cy S s.heap.size (fun S' => S' = pup S b1 (aN (cy 0) Nb (rwd gb nb ga na wa wc na)))) ([.ref h, .ref a, .ref b]).toArray s 0 0 (pA S s.heap.size)) (F0 m 2 ls []) := by
    intro kf
    induction kf with
    | zero => intro q hm; exact absurd hm (Nat.not_lt_zero _)
    | succ kf ih2 =>
      intro q hm SA H locs ls hL1 hf2 hL3 hf4 hL5 hf6 hL7 hf8 hL9 hf10 hq hSA hw hl
      have hwl := wvN_le (a := wa) (c := wc) (q := q) hwa0 hwa hwc
      refine lv_iload_n hx hb dX10_decode_2 rfl (lv_at hl 0 rfl) ?_
      refine lv_aload_n hx hb dX10_decode_3 rfl (lv_at hl 2 rfl) ?_
      refine p_calli (va_runV (As := []) (rest := [.int (nI q)]) C.fix (c_X7_size l D cy SA H.size a a1 na hL3 hf4) (cwV 0 C.2.2.2.2.1 gX10_decode_X7_size rfl rfl rfl hdwvV_yX7_size_RX7 ⟨Nat.le_of_ble_eq_true rfl, Nat.le_of_ble_eq_true rfl⟩) (p_preV C hw hL3 hf4 rfl) rfl rfl hl.1 rfl (lv_room (Nat.le_of_ble_eq_true rfl)) dX10_decode_4 ⟨Nat.le_of_ble_eq_true rfl, Nat.le_of_ble_eq_true rfl⟩) hw hA (fun r12 S11 H locs hpost hw => ?_)
      obtain ⟨hr_, hS_⟩ := hpost
      subst hr_
      subst hS_
      refine n_icmp_ge (tgt := 30) hx hb (by omega) (by omega) dX10_decode_7 (by decide) (fun h_7 => ?_) (fun h_7 => ?_)
      · skip
        exact p_vret C hw (by rw [hSA, show na = q from by omega]) hr hlocks dX10_decode_30
      · skip
        refine lv_aload_n hx hb dX10_decode_10 rfl (lv_at hl 3 rfl) ?_
        refine lv_aload_n hx hb dX10_decode_11 rfl (lv_at hl 1 rfl) ?_
        refine lv_iload_n hx hb dX10_decode_12 rfl (lv_at hl 0 rfl) ?_
        refine p_calli (va_runV (As := [.int (nI q)]) (rest := [.ref b]) C.fix (c_X10_placeBefore l D cy SA H.size h wa wc q hL1 hf2 (by omega) hwa0 hwa hwc0 hwc) (cwV 1 C.2.2.2.2.1 gX10_decode_X10_placeBefore rfl rfl rfl hdwvV_yX10_placeBefore_RX10 ⟨Nat.le_of_ble_eq_true rfl, Nat.le_of_ble_eq_true rfl⟩) (p_preV C hw hL1 hf2 rfl) rfl rfl hl.1 rfl (lv_room (Nat.le_of_ble_eq_true rfl)) dX10_decode_13 ⟨Nat.le_of_ble_eq_true rfl, Nat.le_of_ble_eq_true rfl⟩) hw hA (fun r14 S13 H locs hpost hw => ?_)
        obtain ⟨hr_, hS_⟩ := hpost
        subst hr_
        subst hS_
        refine lv_aload_n hx hb dX10_decode_16 rfl (lv_at hl 2 rfl) ?_
        refine lv_iload_n hx hb dX10_decode_17 rfl (lv_at hl 0 rfl) ?_
        refine p_calli (va_runV (As := [.int (nI q)]) (rest := [.int (nI (wvN wa wc q)), .ref b]) C.fix (c_X7_get l D cy SA H.size a a1 Na na q ga hL3 hf4 hL5 hf6 hNa hna (by omega)) (cwV 1 C.2.2.2.2.1 gX10_decode_X7_get rfl rfl rfl hdwvV_yX7_get_RX7 ⟨Nat.le_of_ble_eq_true rfl, Nat.le_of_ble_eq_true rfl⟩) (p_preV C hw hL3 hf4 rfl) rfl rfl hl.1 rfl (lv_room (Nat.le_of_ble_eq_true rfl)) dX10_decode_18 ⟨Nat.le_of_ble_eq_true rfl, Nat.le_of_ble_eq_true rfl⟩) hw hA (fun r16 S15 H locs hpost hw => ?_)
        obtain ⟨hr_, hS_⟩ := hpost
        subst hr_
        subst hS_
        refine p_callv (va_runV (As := [.int (nI (wvN wa wc q)), .int (nI (rg ga na q))]) (rest := []) C.fix (c_X7_put l D cy SA H.size b b1 Nb nb (wvN wa wc q) (rg ga na q) (rwd gb nb ga na wa wc q) hL7 hf8 hL9 hf10 hNb hnb (by omega)) (cwV 2 C.2.2.2.2.1 gX10_decode_X7_put rfl rfl rfl hdwvV_yX7_put_RX7 ⟨Nat.le_of_ble_eq_true rfl, Nat.le_of_ble_eq_true rfl⟩) (p_preV C hw hL7 hf8 rfl) rfl rfl hl.1 rfl (lv_room (Nat.le_of_ble_eq_true rfl)) dX10_decode_21 ⟨Nat.le_of_ble_eq_true rfl, Nat.le_of_ble_eq_true rfl⟩) hw hA (fun S17 H locs hpost hw => ?_)
        have hL19 : h ∈ S17.1 := by rw [hpost]; exact hL1
        have hf20 : S17.2 h = .inr (9, [.int (nI wa), .int (nI wc)]) := by rw [hpost]; exact (pup_n (ne_cells hf2 hf10 (by nofun))).trans hf2
        have hL21 : a ∈ S17.1 := by rw [hpost]; exact hL3
        have hf22 : S17.2 a = .inr (7, [.ref a1, .int (nI na)]) := by rw [hpost]; exact (pup_n (ne_cells hf4 hf10 (by nofun))).trans hf4
        have hL23 : a1 ∈ S17.1 := by rw [hpost]; exact hL5
        have hf24 : S17.2 a1 = aN (cy 0) Na ga := by rw [hpost]; exact (pup_n (by first | assumption | exact Ne.symm (by assumption))).trans hf6
        have hL25 : b ∈ S17.1 := by rw [hpost]; exact hL7
        have hf26 : S17.2 b = .inr (7, [.ref b1, .int (nI nb)]) := by rw [hpost]; exact (pup_n (ne_cells hf8 hf10 (by nofun))).trans hf8
        have hL27 : b1 ∈ S17.1 := by rw [hpost]; exact hL9
        have hf28 : S17.2 b1 = aN (cy 0) Nb (rput (rwd gb nb ga na wa wc q) nb (wvN wa wc q) (rg ga na q)) := by rw [hpost]; exact pup_s
        refine lv_iinc (v := (nI (q + 1))) (lv' := [(3, .int (nI (q + 1))), (0, .ref h), (1, .ref a), (2, .ref b)]) hx hb dX10_decode_24 hl (k := 0) rfl (by rw [show Int32.ofInt 1 = nI 1 from by decide, nI_add]) (by decide) rfl (fun ls hl => ?_)
        refine lv_goto (tgt := 2) hx hb dX10_decode_27 (by decide) ?_
        exact ih2 (q + 1) (by omega) S17 H locs ls hL19 hf20 hL21 hf22 hL23 hf24 hL25 hf26 hL27 (by rw [hpost]; exact pup_s) (by omega) (by rw [hpost, hSA, pup_pup]; rfl) hw (lv_sub hl [0, 1, 2, 3] rfl)
  exact loop2 (na - 0 + 1) 0 (by omega) S s.heap [] ls hL_h hf_h hL_a hf_a hL_a1 hf_a1 hL_b hf_b hL_b1 hf_b1 (Nat.zero_le _) ((pup_self hf_b1).symm) hw (lv_sub hl [0, 1, 2, 3] rfl)
