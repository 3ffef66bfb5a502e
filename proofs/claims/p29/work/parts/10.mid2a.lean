set_option maxHeartbeats 4000000 in
set_option maxRecDepth 100000 in
/-- Integer.bitCount of a small number -/
theorem c_J6_bitCount_0f7a4 (l : Launch) (D : va_G) (cy : Nat → ClassId) (S : pS) (sz : Nat) (a : Nat)  (ha : a < 4096) : Met l yJ6_bitCount_0f7a4 wsJ6_bitCount_0f7a4 ({ frames := 0, cells := 0, slots := 0, locals := 0 }) (pPc D cy S sz [.int (nI a)]) (pQi D cy S sz (fun r S' => r = nI (bc a) ∧ S = S')) 0 0 (pA S sz) := by
  refine Met.ofW (cc := cJ6_bitCount_0f7a4) (maxL := 1) (ret := (some .int)) (by decide) rfl ?_
  intro p e s m args below meth c s₁ B hml hv
  obtain ⟨rfl, rfl, C, hw, hA, hr, hlocks⟩ := p_start B hml hv
  have hx := C.1
  have hb := C.2.1
  have hl := lv_entry ([.int (nI a)]) (n := 1) (Nat.le_of_ble_eq_true rfl)
  rw [lg_entry_eq]
  generalize (lg_sl ([.int (nI a)]) ++ List.replicate (1 - (lg_sl ([.int (nI a)])).length) Slot.unset).toArray = ls at hl ⊢
  have hl : lv_has ls 1 [(0, .int (nI a))] := hl
  refine lv_iload_n hx hb dJ6_bitCount_0f7a4_0 rfl (lv_at hl 0 rfl) ?_
  refine lv_iload_n hx hb dJ6_bitCount_0f7a4_1 rfl (lv_at hl 0 rfl) ?_
  refine lv_iconst (v := nI 1) hx hb dJ6_bitCount_0f7a4_2 (by decide) ?_
  refine n_iushr hx hb (by omega) (by omega) dJ6_bitCount_0f7a4_3 ?_
  refine lv_ldcw (v := nI 1431655765) hx hb C.2.2.2.1 (C.2.2.2.2.1 (.constant RJ6 265 (1431655765)) (List.mem_of_getElem? (i := 1) rfl)) dJ6_bitCount_0f7a4_4 ?_
  refine n_iand hx hb dJ6_bitCount_0f7a4_7 ?_
  refine n_isub hx hb (Nat.le_trans Nat.and_le_left (Nat.div_le_self _ _)) dJ6_bitCount_0f7a4_8 ?_
  obtain ⟨i1, e_i1⟩ : ∃ z : Nat, z = a - ((a / 2 ^ 1) &&& 1431655765) := ⟨_, rfl⟩
  refine n_ren (b := i1) e_i1.symm ?_
  have hi1 : i1 ≤ a := by omega
  refine lv_istore_n (lv' := [(0, .int (nI i1))]) hx hb dJ6_bitCount_0f7a4_9 rfl hl (by decide) rfl (fun ls hl => ?_)
  refine lv_iload_n hx hb dJ6_bitCount_0f7a4_10 rfl (lv_at hl 0 rfl) ?_
  refine lv_ldcw (v := nI 858993459) hx hb C.2.2.2.1 (C.2.2.2.2.1 (.constant RJ6 266 (858993459)) (List.mem_of_getElem? (i := 2) rfl)) dJ6_bitCount_0f7a4_11 ?_
  refine n_iand hx hb dJ6_bitCount_0f7a4_14 ?_
  refine lv_iload_n hx hb dJ6_bitCount_0f7a4_15 rfl (lv_at hl 0 rfl) ?_
  refine lv_iconst (v := nI 2) hx hb dJ6_bitCount_0f7a4_16 (by decide) ?_
  refine n_iushr hx hb (by omega) (by omega) dJ6_bitCount_0f7a4_17 ?_
  refine lv_ldcw (v := nI 858993459) hx hb C.2.2.2.1 (C.2.2.2.2.1 (.constant RJ6 266 (858993459)) (List.mem_of_getElem? (i := 2) rfl)) dJ6_bitCount_0f7a4_18 ?_
  refine n_iand hx hb dJ6_bitCount_0f7a4_21 ?_
  refine n_iadd hx hb dJ6_bitCount_0f7a4_22 ?_
  obtain ⟨i2, e_i2⟩ : ∃ z : Nat, z = (i1 &&& 858993459) + ((i1 / 2 ^ 2) &&& 858993459) := ⟨_, rfl⟩
  refine n_ren (b := i2) e_i2.symm ?_
  have hq1 : i1 &&& 858993459 ≤ i1 := Nat.and_le_left
  have hq2 : i1 / 2 ^ 2 &&& 858993459 ≤ i1 / 2 ^ 2 := Nat.and_le_left
  have hi2 : i2 ≤ 2 * i1 := by omega
  refine lv_istore_n (lv' := [(0, .int (nI i2))]) hx hb dJ6_bitCount_0f7a4_23 rfl hl (by decide) rfl (fun ls hl => ?_)
  refine lv_iload_n hx hb dJ6_bitCount_0f7a4_24 rfl (lv_at hl 0 rfl) ?_
  refine lv_iload_n hx hb dJ6_bitCount_0f7a4_25 rfl (lv_at hl 0 rfl) ?_
  refine lv_iconst (v := nI 4) hx hb dJ6_bitCount_0f7a4_26 (by decide) ?_
  refine n_iushr hx hb (by omega) (by omega) dJ6_bitCount_0f7a4_27 ?_
  refine n_iadd hx hb dJ6_bitCount_0f7a4_28 ?_
  refine lv_ldcw (v := nI 252645135) hx hb C.2.2.2.1 (C.2.2.2.2.1 (.constant RJ6 267 (252645135)) (List.mem_of_getElem? (i := 3) rfl)) dJ6_bitCount_0f7a4_29 ?_
  refine n_iand hx hb dJ6_bitCount_0f7a4_32 ?_
  obtain ⟨i3, e_i3⟩ : ∃ z : Nat, z = (i2 + (i2 / 2 ^ 4)) &&& 252645135 := ⟨_, rfl⟩
  refine n_ren (b := i3) e_i3.symm ?_
  have hq3 : (i2 + i2 / 2 ^ 4) &&& 252645135 ≤ i2 + i2 / 2 ^ 4 := Nat.and_le_left
  have hi3 : i3 ≤ 2 * i2 := by omega
  refine lv_istore_n (lv' := [(0, .int (nI i3))]) hx hb dJ6_bitCount_0f7a4_33 rfl hl (by decide) rfl (fun ls hl => ?_)
  refine lv_iload_n hx hb dJ6_bitCount_0f7a4_34 rfl (lv_at hl 0 rfl) ?_
  refine lv_iload_n hx hb dJ6_bitCount_0f7a4_35 rfl (lv_at hl 0 rfl) ?_
  refine lv_bipush (v := nI 8) hx hb dJ6_bitCount_0f7a4_36 (by decide) ?_
  refine n_iushr hx hb (by omega) (by omega) dJ6_bitCount_0f7a4_38 ?_
  refine n_iadd hx hb dJ6_bitCount_0f7a4_39 ?_
  obtain ⟨i4, e_i4⟩ : ∃ z : Nat, z = i3 + (i3 / 2 ^ 8) := ⟨_, rfl⟩
  refine n_ren (b := i4) e_i4.symm ?_
  have hi4 : i4 ≤ 2 * i3 := by omega
  refine lv_istore_n (lv' := [(0, .int (nI i4))]) hx hb dJ6_bitCount_0f7a4_40 rfl hl (by decide) rfl (fun ls hl => ?_)
  refine lv_iload_n hx hb dJ6_bitCount_0f7a4_41 rfl (lv_at hl 0 rfl) ?_
  refine lv_iload_n hx hb dJ6_bitCount_0f7a4_42 rfl (lv_at hl 0 rfl) ?_
  refine lv_bipush (v := nI 16) hx hb dJ6_bitCount_0f7a4_43 (by decide) ?_
  refine n_iushr hx hb (by omega) (by omega) dJ6_bitCount_0f7a4_45 ?_
  refine n_iadd hx hb dJ6_bitCount_0f7a4_46 ?_
  obtain ⟨i5, e_i5⟩ : ∃ z : Nat, z = i4 + (i4 / 2 ^ 16) := ⟨_, rfl⟩
  refine n_ren (b := i5) e_i5.symm ?_
  refine lv_istore_n (lv' := [(0, .int (nI i5))]) hx hb dJ6_bitCount_0f7a4_47 rfl hl (by decide) rfl (fun ls hl => ?_)
  refine lv_iload_n hx hb dJ6_bitCount_0f7a4_48 rfl (lv_at hl 0 rfl) ?_
  refine lv_bipush (v := nI 63) hx hb dJ6_bitCount_0f7a4_49 (by decide) ?_
  refine n_iand hx hb dJ6_bitCount_0f7a4_51 ?_
  exact p_iret C hw ⟨by rw [e_i5, e_i4, e_i3, e_i2, e_i1]; exact congrArg nI (bc_E ha), rfl⟩ hr hlocks dJ6_bitCount_0f7a4_52

set_option maxHeartbeats 4000000 in
set_option maxRecDepth 100000 in
/-- Stage() -/
theorem c_X8_init (l : Launch) (D : va_G) (cy : Nat → ClassId) (S : pS) (sz : Nat) (h : Nat)   : Met l yX8_init wsX8_init ({ frames := 1, cells := 0, slots := 0, locals := 12 }) (pPc D cy S sz [.ref h]) (pQv D cy S sz (fun S' => S = S')) 0 0 (pA S sz) := by
  refine Met.ofW (cc := cX8_init) (maxL := 1) (ret := none) (by decide) rfl ?_
  intro p e s m args below meth c s₁ B hml hv
  have hin : meth.name = "<init>" := (name_of_methodNamed B.named B.method).1
  obtain ⟨rfl, rfl, C, hw, hA, hr, hlocks⟩ := p_start B hml hv
  have hx := C.1
  have hb := C.2.1
  have hl := lv_entry ([.ref h]) (n := 1) (Nat.le_of_ble_eq_true rfl)
  rw [lg_entry_eq]
  generalize (lg_sl ([.ref h]) ++ List.replicate (1 - (lg_sl ([.ref h])).length) Slot.unset).toArray = ls at hl ⊢
  have hl : lv_has ls 1 [(0, .ref h)] := hl
  refine lv_aload_n hx hb dX8_init_0 rfl (lv_at hl 0 rfl) ?_
  refine W.objInit hx hb C.2.2.2.1 (C.2.2.2.2.1 (.methodLink RX8 1 objectInit) (by decide +kernel)) (C.2.2.2.2.1 (.instanceMethod objectInit) (by decide +kernel)) (C.2.2.2.2.1 _ (List.mem_of_getElem? (i := 3) rfl)) rfl (by rw [hml]; exact hl.1) rfl dX8_init_1 (Nat.le_of_ble_eq_true rfl) (Nat.le_of_ble_eq_true rfl) ?_
  refine W.eq (g2 := F0 m 4 ls []) rfl ?_
  exact p_vret C hw rfl hr hlocks dX8_init_4

theorem hdS_yX8_init : yX8_init.cls ≠ "java/lang/invoke/MethodHandle" ∧ yX8_init.cls ≠ "java/lang/invoke/VarHandle" ∧ (parseMethodDescriptor yX8_init.desc).map (fun d => d.parameters.length) = some 0 := by decide +kernel
set_option maxHeartbeats 4000000 in
set_option maxRecDepth 100000 in
/-- Repeat(int) -/
theorem c_X6_init (l : Launch) (D : va_G) (cy : Nat → ClassId) (S : pS) (sz : Nat) (h t0 t : Nat) (hL_h : h ∈ S.1) (hf_h : S.2 h = .inr (6, [.int (nI t0)]))  : Met l yX6_init wsX6_init ({ frames := 2, cells := 0, slots := 0, locals := 32 }) (pPc D cy S sz [.ref h, .int (nI t)]) (pQv D cy S sz (fun S' => S' = pup S h (.inr (6, [.int (nI t)])))) 0 0 (pA S sz) := by
  refine Met.ofW (cc := cX6_init) (maxL := 2) (ret := none) (by decide) rfl ?_
  intro p e s m args below meth c s₁ B hml hv
  have hin : meth.name = "<init>" := (name_of_methodNamed B.named B.method).1
  obtain ⟨rfl, rfl, C, hw, hA, hr, hlocks⟩ := p_start B hml hv
  have hx := C.1
  have hb := C.2.1
  have hl := lv_entry ([.ref h, .int (nI t)]) (n := 2) (Nat.le_of_ble_eq_true rfl)
  rw [lg_entry_eq]
  generalize (lg_sl ([.ref h, .int (nI t)]) ++ List.replicate (2 - (lg_sl ([.ref h, .int (nI t)])).length) Slot.unset).toArray = ls at hl ⊢
  have hl : lv_has ls 2 [(0, .ref h), (1, .int (nI t))] := hl
  have hin_RX6 : ∀ w ∈ u_ws RX6 TX6 1, w ∈ wsX6_init := by decide +kernel
  refine lv_aload_n hx hb dX6_init_0 rfl (lv_at hl 0 rfl) ?_
  refine p_callv (va_runIN (As := []) (rest := []) C.fix (c_X8_init l D cy S s.heap.size h) ⟨va_cnB 0 C.2.2.2.2.1 gX6_init_X8_init_n3 rfl rfl rfl (show va_Nw (.methodLinkNest RX6 3 yX8_init "SoundingLine") s from C.2.2.2.2.2.2.1 9 (RX6, 3, yX8_init) rfl) (C.2.2.2.2.1 (.initialized RX8) (List.mem_of_getElem? (i := 3) rfl)) hdS_yX8_init ⟨Nat.le_of_ble_eq_true rfl, Nat.le_of_ble_eq_true rfl⟩, rfl, C.2.2.2.2.1 (.instanceMethod yX8_init) (List.mem_of_getElem? (i := 2) rfl)⟩ (p_preS C hw) rfl rfl hl.1 rfl (lv_room (Nat.le_of_ble_eq_true rfl)) dX6_init_1 ⟨Nat.le_of_ble_eq_true rfl, Nat.le_of_ble_eq_true rfl⟩) hw hA (fun S1 H locs hpost hw => ?_)
  subst hpost
  refine lv_aload_n hx hb dX6_init_4 rfl (lv_at hl 0 rfl) ?_
  refine lv_iload_n hx hb dX6_init_5 rfl (lv_at hl 1 rfl) ?_
  refine p_putF C hw (ci := 6) (Cn := RX6) (T := TX6) (N := 1) tyX6 tyX6_ok nmX6 hL_h hf_h rfl hin_RX6 0 (by decide) (List.mem_of_getElem? (i := 1) rfl) rfl rfl hin rfl rfl rfl rfl (by simp) dX6_init_6 rfl (fun H locs hw => ?_)
  obtain ⟨S3, hS3⟩ : ∃ z, z = pup S h (.inr (6, [.int (nI t)])) := ⟨_, rfl⟩
  replace hw : pW D (pA S s.heap.size) s.heap S3 H locs := by rw [hS3]; exact hw
  have hL4 : h ∈ S3.1 := by rw [hS3]; exact hL_h
  have hf5 : S3.2 h = .inr (6, [.int (nI t)]) := by rw [hS3]; exact pup_s
  exact p_vret C hw (by assumption) hr hlocks dX6_init_9

set_option maxHeartbeats 4000000 in
set_option maxRecDepth 100000 in
/-- Repeat.kind -/
theorem c_X6_kind (l : Launch) (D : va_G) (cy : Nat → ClassId) (S : pS) (sz : Nat) (h : Nat)   : Met l yX6_kind wsX6_kind ({ frames := 0, cells := 0, slots := 0, locals := 0 }) (pPc D cy S sz [.ref h]) (pQi D cy S sz (fun r S' => r = nI 0 ∧ S = S')) 0 0 (pA S sz) := by
  refine Met.ofW (cc := cX6_kind) (maxL := 1) (ret := (some .int)) (by decide) rfl ?_
  intro p e s m args below meth c s₁ B hml hv
  obtain ⟨rfl, rfl, C, hw, hA, hr, hlocks⟩ := p_start B hml hv
  have hx := C.1
  have hb := C.2.1
  have hl := lv_entry ([.ref h]) (n := 1) (Nat.le_of_ble_eq_true rfl)
  rw [lg_entry_eq]
  generalize (lg_sl ([.ref h]) ++ List.replicate (1 - (lg_sl ([.ref h])).length) Slot.unset).toArray = ls at hl ⊢
  have hl : lv_has ls 1 [(0, .ref h)] := hl
  refine lv_iconst (v := nI 0) hx hb dX6_kind_0 (by decide) ?_
  exact p_iret C hw ⟨rfl, rfl⟩ hr hlocks dX6_kind_1

set_option maxHeartbeats 4000000 in
set_option maxRecDepth 100000 in
/-- Repeat.sizeOf -/
theorem c_X6_sizeOf (l : Launch) (D : va_G) (cy : Nat → ClassId) (S : pS) (sz : Nat) (h t n : Nat) (hL_h : h ∈ S.1) (hf_h : S.2 h = .inr (6, [.int (nI t)]))  : Met l yX6_sizeOf wsX6_sizeOf ({ frames := 0, cells := 0, slots := 0, locals := 0 }) (pPc D cy S sz [.ref h, .int (nI n)]) (pQi D cy S sz (fun r S' => r = nI (n * t) ∧ S = S')) 0 0 (pA S sz) := by
  refine Met.ofW (cc := cX6_sizeOf) (maxL := 2) (ret := (some .int)) (by decide) rfl ?_
  intro p e s m args below meth c s₁ B hml hv
  obtain ⟨rfl, rfl, C, hw, hA, hr, hlocks⟩ := p_start B hml hv
  have hx := C.1
  have hb := C.2.1
  have hl := lv_entry ([.ref h, .int (nI n)]) (n := 2) (Nat.le_of_ble_eq_true rfl)
  rw [lg_entry_eq]
  generalize (lg_sl ([.ref h, .int (nI n)]) ++ List.replicate (2 - (lg_sl ([.ref h, .int (nI n)])).length) Slot.unset).toArray = ls at hl ⊢
  have hl : lv_has ls 2 [(0, .ref h), (1, .int (nI n))] := hl
  have hin_RX6 : ∀ w ∈ u_ws RX6 TX6 1, w ∈ wsX6_sizeOf := by decide +kernel
  refine lv_iload_n hx hb dX6_sizeOf_0 rfl (lv_at hl 1 rfl) ?_
  refine lv_aload_n hx hb dX6_sizeOf_1 rfl (lv_at hl 0 rfl) ?_
  refine p_get C hw (ci := 6) (Cn := RX6) (T := TX6) (N := 1) hL_h hf_h rfl hin_RX6 0 (by decide) (List.mem_of_getElem? (i := 1) rfl) rfl rfl dX6_sizeOf_2 ?_
  refine n_imul hx hb dX6_sizeOf_5 ?_
  exact p_iret C hw ⟨rfl, rfl⟩ hr hlocks dX6_sizeOf_6

set_option maxHeartbeats 4000000 in
set_option maxRecDepth 100000 in
/-- Repeat.apart -/
theorem c_X6_apart (l : Launch) (D : va_G) (cy : Nat → ClassId) (S : pS) (sz : Nat) (h t : Nat) (hL_h : h ∈ S.1) (hf_h : S.2 h = .inr (6, [.int (nI t)]))  : Met l yX6_apart wsX6_apart ({ frames := 0, cells := 0, slots := 0, locals := 0 }) (pPc D cy S sz [.ref h]) (pQi D cy S sz (fun r S' => r = nI t ∧ S = S')) 0 0 (pA S sz) := by
  refine Met.ofW (cc := cX6_apart) (maxL := 1) (ret := (some .int)) (by decide) rfl ?_
  intro p e s m args below meth c s₁ B hml hv
  obtain ⟨rfl, rfl, C, hw, hA, hr, hlocks⟩ := p_start B hml hv
  have hx := C.1
  have hb := C.2.1
  have hl := lv_entry ([.ref h]) (n := 1) (Nat.le_of_ble_eq_true rfl)
  rw [lg_entry_eq]
  generalize (lg_sl ([.ref h]) ++ List.replicate (1 - (lg_sl ([.ref h])).length) Slot.unset).toArray = ls at hl ⊢
  have hl : lv_has ls 1 [(0, .ref h)] := hl
  have hin_RX6 : ∀ w ∈ u_ws RX6 TX6 1, w ∈ wsX6_apart := by decide +kernel
  refine lv_aload_n hx hb dX6_apart_0 rfl (lv_at hl 0 rfl) ?_
  refine p_get C hw (ci := 6) (Cn := RX6) (T := TX6) (N := 1) hL_h hf_h rfl hin_RX6 0 (by decide) (List.mem_of_getElem? (i := 1) rfl) rfl rfl dX6_apart_1 ?_
  exact p_iret C hw ⟨rfl, rfl⟩ hr hlocks dX6_apart_4

theorem hdV_yX7_numberAt_RX7 : yX7_numberAt.cls = RX7 ∧ yX7_numberAt.cls ≠ "java/lang/invoke/MethodHandle" ∧ yX7_numberAt.cls ≠ "java/lang/invoke/VarHandle" ∧ (parseMethodDescriptor yX7_numberAt.desc).map (fun d => d.parameters.length) = some 2 := by decide +kernel
set_option maxHeartbeats 4000000 in
set_option maxRecDepth 100000 in
/-- Repeat.code -/
theorem c_X6_code (l : Launch) (D : va_G) (cy : Nat → ClassId) (S : pS) (sz : Nat) (h t : Nat) (a a1 Na na b b1 Nb nb : Nat) (ga gb : Nat → Nat) (hL_h : h ∈ S.1) (hf_h : S.2 h = .inr (6, [.int (nI t)])) (hL_a : a ∈ S.1) (hf_a : S.2 a = .inr (7, [.ref a1, .int (nI na)])) (hL_a1 : a1 ∈ S.1) (hf_a1 : S.2 a1 = aN (cy 0) Na ga) (hL_b : b ∈ S.1) (hf_b : S.2 b = .inr (7, [.ref b1, .int (nI nb)])) (hL_b1 : b1 ∈ S.1) (hf_b1 : S.2 b1 = aN (cy 0) Nb gb) (ht : t ≤ 5) (hn4 : na ≤ 400) (hNa : Na < 2 ^ 27) (hna : na ≤ Na) (hga : ∀ q, ga q ≤ 2) (hNb : Nb < 2 ^ 27) (hnb : nb ≤ Nb) (hgb : ∀ q, gb q ≤ 2) (hne : a1 ≠ b1) : Met l yX6_code wsX6_code ({ frames := 2, cells := 0, slots := 0, locals := 45 }) (pPc D cy S sz [.ref h, .ref a, .ref b]) (pQv D cy S sz (fun S' => S' = pup S b1 (aN (cy 0) Nb (repl gb nb ga na t (na * t))))) 0 0 (pA S sz) := by
  refine Met.ofW (cc := cX6_code) (maxL := 6) (ret := none) (by decide) rfl ?_
  intro p e s m args below meth c s₁ B hml hv
  obtain ⟨rfl, rfl, C, hw, hA, hr, hlocks⟩ := p_start B hml hv
  have hx := C.1
  have hb := C.2.1
  have hl := lv_entry ([.ref h, .ref a, .ref b]) (n := 6) (Nat.le_of_ble_eq_true rfl)
  rw [lg_entry_eq]
  generalize (lg_sl ([.ref h, .ref a, .ref b]) ++ List.replicate (6 - (lg_sl ([.ref h, .ref a, .ref b])).length) Slot.unset).toArray = ls at hl ⊢
  have hl : lv_has ls 6 [(0, .ref h), (1, .ref a), (2, .ref b)] := hl
  have hin_RX6 : ∀ w ∈ u_ws RX6 TX6 1, w ∈ wsX6_code := by decide +kernel
  refine lv_iconst (v := nI 0) hx hb dX6_code_0 (by decide) ?_
  refine lv_istore_n (lv' := [(3, .int (nI 0)), (0, .ref h), (1, .ref a), (2, .ref b)]) hx hb dX6_code_1 rfl hl (by decide) rfl (fun ls hl => ?_)
  have loop2 : ∀ (kf : Nat) (pp : Nat), na - pp < kf → ∀ (SA : pS), ∀ (H : Heap) (locs : List Loc) (ls : Array Slot), (h ∈ SA.1) → (SA.2 h = .inr (6, [.int (nI t)])) → (a ∈ SA.1) → (SA.2 a = .inr (7, [.ref a1, .int (nI na)])) → (a1 ∈ SA.1) → (SA.2 a1 = aN (cy 0) Na ga) → (b ∈ SA.1) → (SA.2 b = .inr (7, [.ref b1, .int (nI nb)])) → (b1 ∈ SA.1) → (SA.2 b1 = aN (cy 0) Nb (repl gb nb ga na t (pp * t))) → (pp ≤ na) → (SA = pup S b1 (aN (cy 0) Nb (repl gb nb ga na t (pp * t)))) → pW D (pA S s.heap.size) s.heap SA H locs → lv_has ls 6 [(3, .int (nI pp)), (0, .ref h), (1, .ref a), (2, .ref b)] → W p l e (headSpec wsX6_code ({ frames := 2, cells := 0, slots := 0, locals := 45 } : Room)).room s m ([.ref h, .ref a, .ref b]).toArray below meth c H locs 0 0 (MQ below (pQv D cy S s.heap.size (fun S' => S' = pup S b1 (aN (cy 0) Nb (repl gb nb ga na t (na * t))))) ([.ref h, .ref a, .ref b]).toArray s 0 0 (pA S s.heap.size)) (F0 m 2 ls []) := by
    intro kf
    induction kf with
    | zero => intro pp hm; exact absurd hm (Nat.not_lt_zero _)
    | succ kf ih2 =>
      intro pp hm SA H locs ls hL1 hf2 hL3 hf4 hL5 hf6 hL7 hf8 hL9 hf10 hp hSA hw hl
      refine lv_iload_n hx hb dX6_code_2 rfl (lv_at hl 0 rfl) ?_
      refine lv_aload_n hx hb dX6_code_3 rfl (lv_at hl 2 rfl) ?_
      refine p_calli (va_runV (As := []) (rest := [.int (nI pp)]) C.fix (c_X7_size l D cy SA H.size a a1 na hL3 hf4) (cwV 0 C.2.2.2.2.1 gX6_code_X7_size rfl rfl rfl hdV_yX7_size_RX7 ⟨Nat.le_of_ble_eq_true rfl, Nat.le_of_ble_eq_true rfl⟩) (p_preV C hw hL3 hf4 rfl) rfl rfl hl.1 rfl (lv_room (Nat.le_of_ble_eq_true rfl)) dX6_code_4 ⟨Nat.le_of_ble_eq_true rfl, Nat.le_of_ble_eq_true rfl⟩) hw hA (fun r12 S11 H locs hpost hw => ?_)
      obtain ⟨hr_, hS_⟩ := hpost
      subst hr_
      subst hS_
      refine n_icmp_ge (tgt := 57) hx hb (by omega) (by omega) dX6_code_7 (by decide) (fun h_7 => ?_) (fun h_7 => ?_)
      · skip
        exact p_vret C hw (by rw [hSA, show na = pp from by omega]) hr hlocks dX6_code_57
      · skip
        refine lv_aload_n hx hb dX6_code_10 rfl (lv_at hl 2 rfl) ?_
        refine lv_iload_n hx hb dX6_code_11 rfl (lv_at hl 0 rfl) ?_
        refine lv_iconst (v := nI 1) hx hb dX6_code_12 (by decide) ?_
        refine p_calli (va_runV (As := [.int (nI pp), .int (nI 1)]) (rest := []) C.fix (c_X7_numberAt l D cy SA H.size a a1 Na na pp 1 ga hL3 hf4 hL5 hf6 hNa hna (by omega) (by omega) hga) (cwV 2 C.2.2.2.2.1 gX6_code_X7_numberAt rfl rfl rfl hdV_yX7_numberAt_RX7 ⟨Nat.le_of_ble_eq_true rfl, Nat.le_of_ble_eq_true rfl⟩) (p_preV C hw hL3 hf4 rfl) rfl rfl hl.1 rfl (lv_room (Nat.le_of_ble_eq_true rfl)) dX6_code_13 ⟨Nat.le_of_ble_eq_true rfl, Nat.le_of_ble_eq_true rfl⟩) hw hA (fun r14 S13 H locs hpost hw => ?_)
        obtain ⟨hr_, hS_⟩ := hpost
        subst hr_
        subst hS_
        have hpt : pp * t ≤ 400 * 5 := Nat.mul_le_mul (by omega) (by omega)
        refine lv_istore (lv' := [(4, .int (nI (numAt ga na pp 1))), (3, .int (nI pp)), (0, .ref h), (1, .ref a), (2, .ref b)]) hx hb dX6_code_16 hl (by decide) rfl (fun ls hl => ?_)
        refine lv_iconst (v := nI 0) hx hb dX6_code_18 (by decide) ?_
        refine lv_istore (lv' := [(5, .int (nI 0)), (4, .int (nI (numAt ga na pp 1))), (3, .int (nI pp)), (0, .ref h), (1, .ref a), (2, .ref b)]) hx hb dX6_code_19 hl (by decide) rfl (fun ls hl => ?_)
        have loop21 : ∀ (kf : Nat) (i : Nat), t - i < kf → ∀ (SB : pS), ∀ (H : Heap) (locs : List Loc) (ls : Array Slot), (h ∈ SB.1) → (SB.2 h = .inr (6, [.int (nI t)])) → (a ∈ SB.1) → (SB.2 a = .inr (7, [.ref a1, .int (nI na)])) → (a1 ∈ SB.1) → (SB.2 a1 = aN (cy 0) Na ga) → (b ∈ SB.1) → (SB.2 b = .inr (7, [.ref b1, .int (nI nb)])) → (b1 ∈ SB.1) → (SB.2 b1 = aN (cy 0) Nb (repl gb nb ga na t (pp * t + i))) → (i ≤ t) → (SB = pup S b1 (aN (cy 0) Nb (repl gb nb ga na t (pp * t + i)))) → pW D (pA S s.heap.size) s.heap SB H locs → lv_has ls 6 [(5, .int (nI i)), (4, .int (nI (numAt ga na pp 1))), (3, .int (nI pp)), (0, .ref h), (1, .ref a), (2, .ref b)] → W p l e (headSpec wsX6_code ({ frames := 2, cells := 0, slots := 0, locals := 45 } : Room)).room s m ([.ref h, .ref a, .ref b]).toArray below meth c H locs 0 0 (MQ below (pQv D cy S s.heap.size (fun S' => S' = pup S b1 (aN (cy 0) Nb (repl gb nb ga na t (na * t))))) ([.ref h, .ref a, .ref b]).toArray s 0 0 (pA S s.heap.size)) (F0 m 21 ls []) := by
          intro kf
          induction kf with
          | zero => intro i hm; exact absurd hm (Nat.not_lt_zero _)
          | succ kf ih21 =>
            intro i hm SB H locs ls hL15 hf16 hL17 hf18 hL19 hf20 hL21 hf22 hL23 hf24 hi hSB hw hl
            refine lv_iload hx hb dX6_code_21 (lv_at hl 0 rfl) ?_
            refine lv_aload_n hx hb dX6_code_23 rfl (lv_at hl 3 rfl) ?_
            refine p_get C hw (ci := 6) (Cn := RX6) (T := TX6) (N := 1) hL15 hf16 rfl hin_RX6 0 (by decide) (List.mem_of_getElem? (i := 1) rfl) rfl rfl dX6_code_24 ?_
            refine n_icmp_ge (tgt := 51) hx hb (by omega) (by omega) dX6_code_27 (by decide) (fun h_27 => ?_) (fun h_27 => ?_)
            · skip
              refine lv_iinc (v := (nI (pp + 1))) (lv' := [(3, .int (nI (pp + 1))), (5, .int (nI i)), (4, .int (nI (numAt ga na pp 1))), (0, .ref h), (1, .ref a), (2, .ref b)]) hx hb dX6_code_51 hl (k := 2) rfl (by rw [show Int32.ofInt 1 = nI 1 from by decide, nI_add]) (by decide) rfl (fun ls hl => ?_)
              refine lv_goto (tgt := 2) hx hb dX6_code_54 (by decide) ?_
              exact ih2 (pp + 1) (by omega) SB H locs ls hL15 hf16 hL17 hf18 hL19 hf20 hL21 hf22 hL23 (by rw [show (pp + 1) * t = pp * t + i from by rw [Nat.succ_mul]; omega]; assumption) (by omega) (by rw [hSB, show (pp + 1) * t = pp * t + i from by rw [Nat.succ_mul]; omega]) hw (lv_sub hl [0, 3, 4, 5] rfl)
            · skip
              refine lv_aload_n hx hb dX6_code_30 rfl (lv_at hl 5 rfl) ?_
              refine lv_iload_n hx hb dX6_code_31 rfl (lv_at hl 2 rfl) ?_
              refine lv_aload_n hx hb dX6_code_32 rfl (lv_at hl 3 rfl) ?_
              refine p_get C hw (ci := 6) (Cn := RX6) (T := TX6) (N := 1) hL15 hf16 rfl hin_RX6 0 (by decide) (List.mem_of_getElem? (i := 1) rfl) rfl rfl dX6_code_33 ?_
              refine n_imul hx hb dX6_code_36 ?_
              refine lv_iload hx hb dX6_code_37 (lv_at hl 0 rfl) ?_
              refine n_iadd hx hb dX6_code_39 ?_
              refine lv_iload hx hb dX6_code_40 (lv_at hl 1 rfl) ?_
              refine p_callv (va_runV (As := [.int (nI ((pp * t) + i)), .int (nI (numAt ga na pp 1))]) (rest := []) C.fix (c_X7_put l D cy SB H.size b b1 Nb nb ((pp * t) + i) (numAt ga na pp 1) (repl gb nb ga na t (pp * t + i)) hL21 hf22 hL23 hf24 hNb hnb (by omega)) (cwV 2 C.2.2.2.2.1 gX6_code_X7_put rfl rfl rfl hdV_yX7_put_RX7 ⟨Nat.le_of_ble_eq_true rfl, Nat.le_of_ble_eq_true rfl⟩) (p_preV C hw hL21 hf22 rfl) rfl rfl hl.1 rfl (lv_room (Nat.le_of_ble_eq_true rfl)) dX6_code_42 ⟨Nat.le_of_ble_eq_true rfl, Nat.le_of_ble_eq_true rfl⟩) hw hA (fun S25 H locs hpost hw => ?_)
              have hL27 : h ∈ S25.1 := by rw [hpost]; exact hL15
              have hf28 : S25.2 h = .inr (6, [.int (nI t)]) := by rw [hpost]; exact (pup_n (ne_cells hf16 hf24 (by nofun))).trans hf16
              have hL29 : a ∈ S25.1 := by rw [hpost]; exact hL17
              have hf30 : S25.2 a = .inr (7, [.ref a1, .int (nI na)]) := by rw [hpost]; exact (pup_n (ne_cells hf18 hf24 (by nofun))).trans hf18
              have hL31 : a1 ∈ S25.1 := by rw [hpost]; exact hL19
              have hf32 : S25.2 a1 = aN (cy 0) Na ga := by rw [hpost]; exact (pup_n (by first | assumption | exact Ne.symm (by assumption))).trans hf20
              have hL33 : b ∈ S25.1 := by rw [hpost]; exact hL21
              have hf34 : S25.2 b = .inr (7, [.ref b1, .int (nI nb)]) := by rw [hpost]; exact (pup_n (ne_cells hf22 hf24 (by nofun))).trans hf22
              have hL35 : b1 ∈ S25.1 := by rw [hpost]; exact hL23
              have hf36 : S25.2 b1 = aN (cy 0) Nb (rput (repl gb nb ga na t (pp * t + i)) nb (pp * t + i) (numAt ga na pp 1)) := by rw [hpost]; exact pup_s
              refine lv_iinc (v := (nI (i + 1))) (lv' := [(5, .int (nI (i + 1))), (4, .int (nI (numAt ga na pp 1))), (3, .int (nI pp)), (0, .ref h), (1, .ref a), (2, .ref b)]) hx hb dX6_code_45 hl (k := 0) rfl (by rw [show Int32.ofInt 1 = nI 1 from by decide, nI_add]) (by decide) rfl (fun ls hl => ?_)
              refine lv_goto (tgt := 21) hx hb dX6_code_48 (by decide) ?_
              exact ih21 (i + 1) (by omega) S25 H locs ls hL27 hf28 hL29 hf30 hL31 hf32 hL33 hf34 hL35 (by rw [hpost, repl_s (by omega)]; exact pup_s) (by omega) (by rw [hpost, hSB, pup_pup, repl_s (by omega)]) hw (lv_sub hl [0, 1, 2, 3, 4, 5] rfl)
        exact loop21 (t - 0 + 1) 0 (by omega) SA H locs ls hL1 hf2 hL3 hf4 hL5 hf6 hL7 hf8 hL9 hf10 (Nat.zero_le _) (by exact hSA) hw (lv_sub hl [0, 1, 2, 3, 4, 5] rfl)
  exact loop2 (na - 0 + 1) 0 (by omega) S s.heap [] ls hL_h hf_h hL_a hf_a hL_a1 hf_a1 hL_b hf_b hL_b1 (by rw [Nat.zero_mul, repl_0]; exact hf_b1) (Nat.zero_le _) (by rw [Nat.zero_mul, repl_0]; exact (pup_self hf_b1).symm) hw (lv_sub hl [0, 1, 2, 3] rfl)

theorem hdS_yJ6_bitCount_0f7a4 : yJ6_bitCount_0f7a4.cls ≠ "java/lang/invoke/MethodHandle" ∧ yJ6_bitCount_0f7a4.cls ≠ "java/lang/invoke/VarHandle" ∧ (parseMethodDescriptor yJ6_bitCount_0f7a4.desc).map (fun d => d.parameters.length) = some 1 := by decide +kernel
theorem hdV_yX7_knownAt_RX7 : yX7_knownAt.cls = RX7 ∧ yX7_knownAt.cls ≠ "java/lang/invoke/MethodHandle" ∧ yX7_knownAt.cls ≠ "java/lang/invoke/VarHandle" ∧ (parseMethodDescriptor yX7_knownAt.desc).map (fun d => d.parameters.length) = some 2 := by decide +kernel
set_option maxHeartbeats 4000000 in
set_option maxRecDepth 100000 in
/-- Repeat.decode -/
theorem c_X6_decode (l : Launch) (D : va_G) (cy : Nat → ClassId) (S : pS) (sz : Nat) (h t : Nat) (a a1 Na na b b1 Nb nb : Nat) (ga gb : Nat → Nat) (hL_h : h ∈ S.1) (hf_h : S.2 h = .inr (6, [.int (nI t)])) (hL_a : a ∈ S.1) (hf_a : S.2 a = .inr (7, [.ref a1, .int (nI na)])) (hL_a1 : a1 ∈ S.1) (hf_a1 : S.2 a1 = aN (cy 0) Na ga) (hL_b : b ∈ S.1) (hf_b : S.2 b = .inr (7, [.ref b1, .int (nI nb)])) (hL_b1 : b1 ∈ S.1) (hf_b1 : S.2 b1 = aN (cy 0) Nb gb) (ht : t ≤ 5) (hn4 : nb ≤ 400) (hNa : Na < 2 ^ 27) (hna : na ≤ Na) (hga : ∀ q, ga q ≤ 2) (hNb : Nb < 2 ^ 27) (hnb : nb ≤ Nb) (hgb : ∀ q, gb q ≤ 2) (hne : a1 ≠ b1) : Met l yX6_decode wsX6_decode ({ frames := 2, cells := 0, slots := 0, locals := 45 }) (pPc D cy S sz [.ref h, .ref a, .ref b]) (pQv D cy S sz (fun S' => S' = pup S b1 (aN (cy 0) Nb (rvot gb ga na t nb)))) 0 0 (pA S sz) := by
  refine Met.ofW (cc := cX6_decode) (maxL := 6) (ret := none) (by decide) rfl ?_
  intro p e s m args below meth c s₁ B hml hv
  obtain ⟨rfl, rfl, C, hw, hA, hr, hlocks⟩ := p_start B hml hv
  have hx := C.1
  have hb := C.2.1
  have hl := lv_entry ([.ref h, .ref a, .ref b]) (n := 6) (Nat.le_of_ble_eq_true rfl)
  rw [lg_entry_eq]
  generalize (lg_sl ([.ref h, .ref a, .ref b]) ++ List.replicate (6 - (lg_sl ([.ref h, .ref a, .ref b])).length) Slot.unset).toArray = ls at hl ⊢
  have hl : lv_has ls 6 [(0, .ref h), (1, .ref a), (2, .ref b)] := hl
  have hin_RX6 : ∀ w ∈ u_ws RX6 TX6 1, w ∈ wsX6_decode := by decide +kernel
  refine lv_iconst (v := nI 0) hx hb dX6_decode_0 (by decide) ?_
  refine lv_istore_n (lv' := [(3, .int (nI 0)), (0, .ref h), (1, .ref a), (2, .ref b)]) hx hb dX6_decode_1 rfl hl (by decide) rfl (fun ls hl => ?_)
  have loop2 : ∀ (kf : Nat) (pp : Nat), nb - pp < kf → ∀ (SA : pS), ∀ (H : Heap) (locs : List Loc) (ls : Array Slot), (h ∈ SA.1) → (SA.2 h = .inr (6, [.int (nI t)])) → (a ∈ SA.1) → (SA.2 a = .inr (7, [.ref a1, .int (nI na)])) → (a1 ∈ SA.1) → (SA.2 a1 = aN (cy 0) Na ga) → (b ∈ SA.1) → (SA.2 b = .inr (7, [.ref b1, .int (nI nb)])) → (b1 ∈ SA.1) → (SA.2 b1 = aN (cy 0) Nb (rvot gb ga na t pp)) → (pp ≤ nb) → (SA = pup S b1 (aN (cy 0) Nb (rvot gb ga na t pp))) → pW D (pA S s.heap.size) s.heap SA H locs → lv_has ls 6 [(3, .int (nI pp)), (0, .ref h), (1, .ref a), (2, .ref b)] → W p l e (headSpec wsX6_decode ({ frames := 2, cells := 0, slots := 0, locals := 45 } : Room)).room s m ([.ref h, .ref a, .ref b]).toArray below meth c H locs 0 0 (MQ below (pQv D cy S s.heap.size (fun S' => S' = pup S b1 (aN (cy 0) Nb (rvot gb ga na t nb)))) ([.ref h, .ref a, .ref b]).toArray s 0 0 (pA S s.heap.size)) (F0 m 2 ls []) := by
    intro kf
    induction kf with
    | zero => intro pp hm; exact absurd hm (Nat.not_lt_zero _)
    | succ kf ih2 =>
      intro pp hm SA H locs ls hL1 hf2 hL3 hf4 hL5 hf6 hL7 hf8 hL9 hf10 hp hSA hw hl
      refine lv_iload_n hx hb dX6_decode_2 rfl (lv_at hl 0 rfl) ?_
      refine lv_aload_n hx hb dX6_decode_3 rfl (lv_at hl 3 rfl) ?_
      refine p_calli (va_runV (As := []) (rest := [.int (nI pp)]) C.fix (c_X7_size l D cy SA H.size b b1 nb hL7 hf8) (cwV 0 C.2.2.2.2.1 gX6_decode_X7_size rfl rfl rfl hdV_yX7_size_RX7 ⟨Nat.le_of_ble_eq_true rfl, Nat.le_of_ble_eq_true rfl⟩) (p_preV C hw hL7 hf8 rfl) rfl rfl hl.1 rfl (lv_room (Nat.le_of_ble_eq_true rfl)) dX6_decode_4 ⟨Nat.le_of_ble_eq_true rfl, Nat.le_of_ble_eq_true rfl⟩) hw hA (fun r12 S11 H locs hpost hw => ?_)
      obtain ⟨hr_, hS_⟩ := hpost
      subst hr_
      subst hS_
      refine n_icmp_ge (tgt := 85) hx hb (by omega) (by omega) dX6_decode_7 (by decide) (fun h_7 => ?_) (fun h_7 => ?_)
      · skip
        exact p_vret C hw (by rw [hSA, show nb = pp from by omega]) hr hlocks dX6_decode_85
      · skip
        have hpt : pp * t ≤ 400 * 5 := Nat.mul_le_mul (by omega) (by omega)
        refine lv_aload_n hx hb dX6_decode_10 rfl (lv_at hl 2 rfl) ?_
        refine lv_iload_n hx hb dX6_decode_11 rfl (lv_at hl 0 rfl) ?_
        refine lv_aload_n hx hb dX6_decode_12 rfl (lv_at hl 1 rfl) ?_
        refine p_get C hw (ci := 6) (Cn := RX6) (T := TX6) (N := 1) hL1 hf2 rfl hin_RX6 0 (by decide) (List.mem_of_getElem? (i := 1) rfl) rfl rfl dX6_decode_13 ?_
        refine n_imul hx hb dX6_decode_16 ?_
        refine lv_aload_n hx hb dX6_decode_17 rfl (lv_at hl 1 rfl) ?_
        refine p_get C hw (ci := 6) (Cn := RX6) (T := TX6) (N := 1) hL1 hf2 rfl hin_RX6 0 (by decide) (List.mem_of_getElem? (i := 1) rfl) rfl rfl dX6_decode_18 ?_
        refine p_calli (va_runV (As := [.int (nI (pp * t)), .int (nI t)]) (rest := []) C.fix (c_X7_numberAt l D cy SA H.size a a1 Na na (pp * t) t ga hL3 hf4 hL5 hf6 hNa hna (by omega) (by omega) hga) (cwV 2 C.2.2.2.2.1 gX6_decode_X7_numberAt rfl rfl rfl hdV_yX7_numberAt_RX7 ⟨Nat.le_of_ble_eq_true rfl, Nat.le_of_ble_eq_true rfl⟩) (p_preV C hw hL3 hf4 rfl) rfl rfl hl.1 rfl (lv_room (Nat.le_of_ble_eq_true rfl)) dX6_decode_21 ⟨Nat.le_of_ble_eq_true rfl, Nat.le_of_ble_eq_true rfl⟩) hw hA (fun r14 S13 H locs hpost hw => ?_)
        obtain ⟨hr_, hS_⟩ := hpost
        subst hr_
        subst hS_
        have hb1 := numAt_b (g := ga) (n := na) (j := pp * t) (k := t) (by omega)
        refine p_calli (va_runS (As := [.int (nI (numAt ga na (pp * t) t))]) (rest := []) C.fix (c_J6_bitCount_0f7a4 l D cy SA H.size (numAt ga na (pp * t) t) (by omega)) (va_cwS 1 C.2.2.2.2.1 gX6_decode_J6_bitCount_0f7a4 rfl rfl rfl hdS_yJ6_bitCount_0f7a4 ⟨Nat.le_of_ble_eq_true rfl, Nat.le_of_ble_eq_true rfl⟩) (p_preS C hw) rfl rfl hl.1 rfl (lv_room (Nat.le_of_ble_eq_true rfl)) dX6_decode_24 ⟨Nat.le_of_ble_eq_true rfl, Nat.le_of_ble_eq_true rfl⟩) hw hA (fun r16 S15 H locs hpost hw => ?_)
        obtain ⟨hr_, hS_⟩ := hpost
        subst hr_
        subst hS_
        refine lv_istore (lv' := [(4, .int (nI (bc (numAt ga na (pp * t) t)))), (3, .int (nI pp)), (0, .ref h), (1, .ref a), (2, .ref b)]) hx hb dX6_decode_27 hl (by decide) rfl (fun ls hl => ?_)
        refine lv_aload_n hx hb dX6_decode_29 rfl (lv_at hl 3 rfl) ?_
        refine lv_iload_n hx hb dX6_decode_30 rfl (lv_at hl 1 rfl) ?_
        refine lv_aload_n hx hb dX6_decode_31 rfl (lv_at hl 2 rfl) ?_
        refine p_get C hw (ci := 6) (Cn := RX6) (T := TX6) (N := 1) hL1 hf2 rfl hin_RX6 0 (by decide) (List.mem_of_getElem? (i := 1) rfl) rfl rfl dX6_decode_32 ?_
        refine n_imul hx hb dX6_decode_35 ?_
        refine lv_aload_n hx hb dX6_decode_36 rfl (lv_at hl 2 rfl) ?_
        refine p_get C hw (ci := 6) (Cn := RX6) (T := TX6) (N := 1) hL1 hf2 rfl hin_RX6 0 (by decide) (List.mem_of_getElem? (i := 1) rfl) rfl rfl dX6_decode_37 ?_
        refine p_calli (va_runV (As := [.int (nI (pp * t)), .int (nI t)]) (rest := []) C.fix (c_X7_knownAt l D cy SA H.size a a1 Na na (pp * t) t ga hL3 hf4 hL5 hf6 hNa hna (by omega) (by omega) hga) (cwV 2 C.2.2.2.2.1 gX6_decode_X7_knownAt rfl rfl rfl hdV_yX7_knownAt_RX7 ⟨Nat.le_of_ble_eq_true rfl, Nat.le_of_ble_eq_true rfl⟩) (p_preV C hw hL3 hf4 rfl) rfl rfl hl.1 rfl (lv_room (Nat.le_of_ble_eq_true rfl)) dX6_decode_40 ⟨Nat.le_of_ble_eq_true rfl, Nat.le_of_ble_eq_true rfl⟩) hw hA (fun r18 S17 H locs hpost hw => ?_)
        obtain ⟨hr_, hS_⟩ := hpost
        subst hr_
        subst hS_
        have hb2 := knoAt_b (g := ga) (n := na) (j := pp * t) (k := t) (by omega)
        refine p_calli (va_runS (As := [.int (nI (knoAt ga na (pp * t) t))]) (rest := []) C.fix (c_J6_bitCount_0f7a4 l D cy SA H.size (knoAt ga na (pp * t) t) (by omega)) (va_cwS 1 C.2.2.2.2.1 gX6_decode_J6_bitCount_0f7a4 rfl rfl rfl hdS_yJ6_bitCount_0f7a4 ⟨Nat.le_of_ble_eq_true rfl, Nat.le_of_ble_eq_true rfl⟩) (p_preS C hw) rfl rfl hl.1 rfl (lv_room (Nat.le_of_ble_eq_true rfl)) dX6_decode_43 ⟨Nat.le_of_ble_eq_true rfl, Nat.le_of_ble_eq_true rfl⟩) hw hA (fun r20 S19 H locs hpost hw => ?_)
        obtain ⟨hr_, hS_⟩ := hpost
        subst hr_
        subst hS_
        have hb3 := bc_num_kno (g := ga) (n := na) (j := pp * t) (w := t) (by omega)
        have hb4 := bc_le12 (knoAt ga na (pp * t) t)
        have hb5 := bc_le12 (numAt ga na (pp * t) t)
        refine lv_iload hx hb dX6_decode_46 (lv_at hl 0 rfl) ?_
        refine n_isub hx hb (by omega) dX6_decode_48 ?_
        refine lv_istore (lv' := [(5, .int (nI ((bc (knoAt ga na (pp * t) t)) - (bc (numAt ga na (pp * t) t))))), (4, .int (nI (bc (numAt ga na (pp * t) t)))), (3, .int (nI pp)), (0, .ref h), (1, .ref a), (2, .ref b)]) hx hb dX6_decode_49 hl (by decide) rfl (fun ls hl => ?_)
        refine lv_aload_n hx hb dX6_decode_51 rfl (lv_at hl 5 rfl) ?_
        refine lv_iload_n hx hb dX6_decode_52 rfl (lv_at hl 2 rfl) ?_
        refine lv_iload hx hb dX6_decode_53 (lv_at hl 1 rfl) ?_
        refine lv_iload hx hb dX6_decode_55 (lv_at hl 0 rfl) ?_
        refine n_icmp_le (tgt := 64) hx hb (by omega) (by omega) dX6_decode_57 (by decide) (fun h_57 => ?_) (fun h_57 => ?_)
        · skip
          refine lv_iload hx hb dX6_decode_64 (lv_at hl 1 rfl) ?_
          refine lv_iload hx hb dX6_decode_66 (lv_at hl 0 rfl) ?_
          refine n_icmp_ge (tgt := 75) hx hb (by omega) (by omega) dX6_decode_68 (by decide) (fun h_68 => ?_) (fun h_68 => ?_)
          · skip
            refine lv_iconst (v := nI 2) hx hb dX6_decode_75 (by decide) ?_
            refine p_callv (va_runV (As := [.int (nI pp), .int (nI 2)]) (rest := []) C.fix (c_X7_put l D cy SA H.size b b1 Nb nb pp 2 (rvot gb ga na t pp) hL7 hf8 hL9 hf10 hNb hnb (by omega)) (cwV 2 C.2.2.2.2.1 gX6_decode_X7_put rfl rfl rfl hdV_yX7_put_RX7 ⟨Nat.le_of_ble_eq_true rfl, Nat.le_of_ble_eq_true rfl⟩) (p_preV C hw hL7 hf8 rfl) rfl rfl hl.1 rfl (lv_room (Nat.le_of_ble_eq_true rfl)) dX6_decode_76 ⟨Nat.le_of_ble_eq_true rfl, Nat.le_of_ble_eq_true rfl⟩) hw hA (fun S21 H locs hpost hw => ?_)
            have hL23 : h ∈ S21.1 := by rw [hpost]; exact hL1
            have hf24 : S21.2 h = .inr (6, [.int (nI t)]) := by rw [hpost]; exact (pup_n (ne_cells hf2 hf10 (by nofun))).trans hf2
            have hL25 : a ∈ S21.1 := by rw [hpost]; exact hL3
            have hf26 : S21.2 a = .inr (7, [.ref a1, .int (nI na)]) := by rw [hpost]; exact (pup_n (ne_cells hf4 hf10 (by nofun))).trans hf4
            have hL27 : a1 ∈ S21.1 := by rw [hpost]; exact hL5
            have hf28 : S21.2 a1 = aN (cy 0) Na ga := by rw [hpost]; exact (pup_n (by first | assumption | exact Ne.symm (by assumption))).trans hf6
            have hL29 : b ∈ S21.1 := by rw [hpost]; exact hL7
            have hf30 : S21.2 b = .inr (7, [.ref b1, .int (nI nb)]) := by rw [hpost]; exact (pup_n (ne_cells hf8 hf10 (by nofun))).trans hf8
            have hL31 : b1 ∈ S21.1 := by rw [hpost]; exact hL9
            have hf32 : S21.2 b1 = aN (cy 0) Nb (rput (rvot gb ga na t pp) nb pp 2) := by rw [hpost]; exact pup_s
            refine lv_iinc (v := (nI (pp + 1))) (lv' := [(3, .int (nI (pp + 1))), (5, .int (nI ((bc (knoAt ga na (pp * t) t)) - (bc (numAt ga na (pp * t) t))))), (4, .int (nI (bc (numAt ga na (pp * t) t)))), (0, .ref h), (1, .ref a), (2, .ref b)]) hx hb dX6_decode_79 hl (k := 2) rfl (by rw [show Int32.ofInt 1 = nI 1 from by decide, nI_add]) (by decide) rfl (fun ls hl => ?_)
            refine lv_goto (tgt := 2) hx hb dX6_decode_82 (by decide) ?_
            exact ih2 (pp + 1) (by omega) S21 H locs ls hL23 hf24 hL25 hf26 hL27 hf28 hL29 hf30 hL31 (by rw [← rvot_s (gb := gb) (ga := ga) (na := na) (t := t) (p := pp) (nb := nb) (by omega) (by unfold vote; first | rw [if_pos h_57] | rw [if_neg (by omega), if_pos h_68] | rw [if_neg (by omega), if_neg (by omega)]), hpost]; exact pup_s) (by omega) (by rw [hpost, hSA, pup_pup]; exact congrArg (fun z => pup S b1 (aN (cy 0) Nb z)) (rvot_s (by omega) (by unfold vote; first | rw [if_pos h_57] | rw [if_neg (by omega), if_pos h_68] | rw [if_neg (by omega), if_neg (by omega)]))) hw (lv_sub hl [0, 3, 4, 5] rfl)
          · skip
            refine lv_iconst (v := nI 0) hx hb dX6_decode_71 (by decide) ?_
            refine lv_goto (tgt := 76) hx hb dX6_decode_72 (by decide) ?_
            refine p_callv (va_runV (As := [.int (nI pp), .int (nI 0)]) (rest := []) C.fix (c_X7_put l D cy SA H.size b b1 Nb nb pp 0 (rvot gb ga na t pp) hL7 hf8 hL9 hf10 hNb hnb (by omega)) (cwV 2 C.2.2.2.2.1 gX6_decode_X7_put rfl rfl rfl hdV_yX7_put_RX7 ⟨Nat.le_of_ble_eq_true rfl, Nat.le_of_ble_eq_true rfl⟩) (p_preV C hw hL7 hf8 rfl) rfl rfl hl.1 rfl (lv_room (Nat.le_of_ble_eq_true rfl)) dX6_decode_76 ⟨Nat.le_of_ble_eq_true rfl, Nat.le_of_ble_eq_true rfl⟩) hw hA (fun S33 H locs hpost hw => ?_)
            have hL35 : h ∈ S33.1 := by rw [hpost]; exact hL1
            have hf36 : S33.2 h = .inr (6, [.int (nI t)]) := by rw [hpost]; exact (pup_n (ne_cells hf2 hf10 (by nofun))).trans hf2
            have hL37 : a ∈ S33.1 := by rw [hpost]; exact hL3
            have hf38 : S33.2 a = .inr (7, [.ref a1, .int (nI na)]) := by rw [hpost]; exact (pup_n (ne_cells hf4 hf10 (by nofun))).trans hf4
            have hL39 : a1 ∈ S33.1 := by rw [hpost]; exact hL5
            have hf40 : S33.2 a1 = aN (cy 0) Na ga := by rw [hpost]; exact (pup_n (by first | assumption | exact Ne.symm (by assumption))).trans hf6
            have hL41 : b ∈ S33.1 := by rw [hpost]; exact hL7
            have hf42 : S33.2 b = .inr (7, [.ref b1, .int (nI nb)]) := by rw [hpost]; exact (pup_n (ne_cells hf8 hf10 (by nofun))).trans hf8
            have hL43 : b1 ∈ S33.1 := by rw [hpost]; exact hL9
            have hf44 : S33.2 b1 = aN (cy 0) Nb (rput (rvot gb ga na t pp) nb pp 0) := by rw [hpost]; exact pup_s
            refine lv_iinc (v := (nI (pp + 1))) (lv' := [(3, .int (nI (pp + 1))), (5, .int (nI ((bc (knoAt ga na (pp * t) t)) - (bc (numAt ga na (pp * t) t))))), (4, .int (nI (bc (numAt ga na (pp * t) t)))), (0, .ref h), (1, .ref a), (2, .ref b)]) hx hb dX6_decode_79 hl (k := 2) rfl (by rw [show Int32.ofInt 1 = nI 1 from by decide, nI_add]) (by decide) rfl (fun ls hl => ?_)
            refine lv_goto (tgt := 2) hx hb dX6_decode_82 (by decide) ?_
            exact ih2 (pp + 1) (by omega) S33 H locs ls hL35 hf36 hL37 hf38 hL39 hf40 hL41 hf42 hL43 (by rw [← rvot_s (gb := gb) (ga := ga) (na := na) (t := t) (p := pp) (nb := nb) (by omega) (by unfold vote; first | rw [if_pos h_57] | rw [if_neg (by omega), if_pos h_68] | rw [if_neg (by omega), if_neg (by omega)]), hpost]; exact pup_s) (by omega) (by rw [hpost, hSA, pup_pup]; exact congrArg (fun z => pup S b1 (aN (cy 0) Nb z)) (rvot_s (by omega) (by unfold vote; first | rw [if_pos h_57] | rw [if_neg (by omega), if_pos h_68] | rw [if_neg (by omega), if_neg (by omega)]))) hw (lv_sub hl [0, 3, 4, 5] rfl)
        · skip
          refine lv_iconst (v := nI 1) hx hb dX6_decode_60 (by decide) ?_
          refine lv_goto (tgt := 76) hx hb dX6_decode_61 (by decide) ?_
          refine p_callv (va_runV (As := [.int (nI pp), .int (nI 1)]) (rest := []) C.fix (c_X7_put l D cy SA H.size b b1 Nb nb pp 1 (rvot gb ga na t pp) hL7 hf8 hL9 hf10 hNb hnb (by omega)) (cwV 2 C.2.2.2.2.1 gX6_decode_X7_put rfl rfl rfl hdV_yX7_put_RX7 ⟨Nat.le_of_ble_eq_true rfl, Nat.le_of_ble_eq_true rfl⟩) (p_preV C hw hL7 hf8 rfl) rfl rfl hl.1 rfl (lv_room (Nat.le_of_ble_eq_true rfl)) dX6_decode_76 ⟨Nat.le_of_ble_eq_true rfl, Nat.le_of_ble_eq_true rfl⟩) hw hA (fun S45 H locs hpost hw => ?_)
          have hL47 : h ∈ S45.1 := by rw [hpost]; exact hL1
          have hf48 : S45.2 h = .inr (6, [.int (nI t)]) := by rw [hpost]; exact (pup_n (ne_cells hf2 hf10 (by nofun))).trans hf2
          have hL49 : a ∈ S45.1 := by rw [hpost]; exact hL3
          have hf50 : S45.2 a = .inr (7, [.ref a1, .int (nI na)]) := by rw [hpost]; exact (pup_n (ne_cells hf4 hf10 (by nofun))).trans hf4
          have hL51 : a1 ∈ S45.1 := by rw [hpost]; exact hL5
          have hf52 : S45.2 a1 = aN (cy 0) Na ga := by rw [hpost]; exact (pup_n (by first | assumption | exact Ne.symm (by assumption))).trans hf6
          have hL53 : b ∈ S45.1 := by rw [hpost]; exact hL7
          have hf54 : S45.2 b = .inr (7, [.ref b1, .int (nI nb)]) := by rw [hpost]; exact (pup_n (ne_cells hf8 hf10 (by nofun))).trans hf8
          have hL55 : b1 ∈ S45.1 := by rw [hpost]; exact hL9
          have hf56 : S45.2 b1 = aN (cy 0) Nb (rput (rvot gb ga na t pp) nb pp 1) := by rw [hpost]; exact pup_s
          refine lv_iinc (v := (nI (pp + 1))) (lv' := [(3, .int (nI (pp + 1))), (5, .int (nI ((bc (knoAt ga na (pp * t) t)) - (bc (numAt ga na (pp * t) t))))), (4, .int (nI (bc (numAt ga na (pp * t) t)))), (0, .ref h), (1, .ref a), (2, .ref b)]) hx hb dX6_decode_79 hl (k := 2) rfl (by rw [show Int32.ofInt 1 = nI 1 from by decide, nI_add]) (by decide) rfl (fun ls hl => ?_)
          refine lv_goto (tgt := 2) hx hb dX6_decode_82 (by decide) ?_
          exact ih2 (pp + 1) (by omega) S45 H locs ls hL47 hf48 hL49 hf50 hL51 hf52 hL53 hf54 hL55 (by rw [← rvot_s (gb := gb) (ga := ga) (na := na) (t := t) (p := pp) (nb := nb) (by omega) (by unfold vote; first | rw [if_pos h_57] | rw [if_neg (by omega), if_pos h_68] | rw [if_neg (by omega), if_neg (by omega)]), hpost]; exact pup_s) (by omega) (by rw [hpost, hSA, pup_pup]; exact congrArg (fun z => pup S b1 (aN (cy 0) Nb z)) (rvot_s (by omega) (by unfold vote; first | rw [if_pos h_57] | rw [if_neg (by omega), if_pos h_68] | rw [if_neg (by omega), if_neg (by omega)]))) hw (lv_sub hl [0, 3, 4, 5] rfl)
  exact loop2 (nb - 0 + 1) 0 (by omega) S s.heap [] ls hL_h hf_h hL_a hf_a hL_a1 hf_a1 hL_b hf_b hL_b1 (by rw [rvot_0]; exact hf_b1) (Nat.zero_le _) (by rw [rvot_0]; exact (pup_self hf_b1).symm) hw (lv_sub hl [0, 1, 2, 3] rfl)
