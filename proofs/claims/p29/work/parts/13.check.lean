set_option maxHeartbeats 4000000 in
set_option maxRecDepth 100000 in
/-- Check.degreeOf -/
theorem c_X2_degreeOf (l : Launch) (D : va_G) (cy : Nat → ClassId) (S : pS) (sz : Nat) (dv : Nat)  (hdv : dv < 512) : Met l yX2_degreeOf wsX2_degreeOf ({ frames := 0, cells := 0, slots := 0, locals := 0 }) (pPc D cy S sz [.int (nI dv)]) (pQi D cy S sz (fun r S' => r = nI (degN dv 9) ∧ S = S')) 0 0 (pA S sz) := by
  refine Met.ofW (cc := cX2_degreeOf) (maxL := 3) (ret := (some .int)) (by decide) rfl ?_
  intro p e s m args below meth c s₁ B hml hv
  obtain ⟨rfl, rfl, C, hw, hA, hr, hlocks⟩ := p_start B hml hv
  have hx := C.1
  have hb := C.2.1
  have hl := lv_entry ([.int (nI dv)]) (n := 3) (Nat.le_of_ble_eq_true rfl)
  rw [lg_entry_eq]
  generalize (lg_sl ([.int (nI dv)]) ++ List.replicate (3 - (lg_sl ([.int (nI dv)])).length) Slot.unset).toArray = ls at hl ⊢
  have hl : lv_has ls 3 [(0, .int (nI dv))] := hl
  refine lv_iconst (v := nI 0) hx hb dX2_degreeOf_0 (by decide) ?_
  refine lv_istore_n (lv' := [(1, .int (nI 0)), (0, .int (nI dv))]) hx hb dX2_degreeOf_1 rfl hl (by decide) rfl (fun ls hl => ?_)
  refine lv_iconst (v := nI 1) hx hb dX2_degreeOf_2 (by decide) ?_
  refine lv_istore_n (lv' := [(2, .int (nI 1)), (1, .int (nI 0)), (0, .int (nI dv))]) hx hb dX2_degreeOf_3 rfl hl (by decide) rfl (fun ls hl => ?_)
  have loop4 : ∀ (kf : Nat) (v : Nat), 9 - v < kf → ∀ (H : Heap) (locs : List Loc) (ls : Array Slot),  (1 ≤ v) → (v ≤ 9) → pW D (pA S s.heap.size) s.heap S H locs → lv_has ls 3 [(2, .int (nI v)), (1, .int (nI (degN dv v))), (0, .int (nI dv))] → W p l e (headSpec wsX2_degreeOf ({ frames := 0, cells := 0, slots := 0, locals := 0 } : Room)).room s m ([.int (nI dv)]).toArray below meth c H locs 0 0 (MQ below (pQi D cy S s.heap.size (fun r S' => r = nI (degN dv 9) ∧ S = S')) ([.int (nI dv)]).toArray s 0 0 (pA S s.heap.size)) (F0 m 4 ls []) := by
    intro kf
    induction kf with
    | zero => intro v hm; exact absurd hm (Nat.not_lt_zero _)
    | succ kf ih4 =>
      intro v hm  H locs ls  hv1 hv hw hl
      refine lv_iload_n hx hb dX2_degreeOf_4 rfl (lv_at hl 0 rfl) ?_
      refine lv_bipush (v := nI 8) hx hb dX2_degreeOf_5 (by decide) ?_
      refine n_icmp_gt (tgt := 24) hx hb (by omega) (by omega) dX2_degreeOf_7 (by decide) (fun h_7 => ?_) (fun h_7 => ?_)
      · skip
        refine lv_iload_n hx hb dX2_degreeOf_24 rfl (lv_at hl 1 rfl) ?_
        exact p_iret C hw ⟨by rw [show v = 9 from by omega], rfl⟩ hr hlocks dX2_degreeOf_25
      · skip
        refine lv_iload_n hx hb dX2_degreeOf_10 rfl (lv_at hl 2 rfl) ?_
        refine lv_iload_n hx hb dX2_degreeOf_11 rfl (lv_at hl 0 rfl) ?_
        refine n_iushr hx hb (by omega) (by omega) dX2_degreeOf_12 ?_
        have hdl := Nat.div_le_self dv (2 ^ v)
        refine n_if_eq (tgt := 18) hx hb (by omega) dX2_degreeOf_13 (by decide) (fun h_13 => ?_) (fun h_13 => ?_)
        · skip
          rw [← degN_t h_13] at hl
          refine lv_iinc (v := (nI (v + 1))) (lv' := [(2, .int (nI (v + 1))), (1, .int (nI (degN dv (v + 1)))), (0, .int (nI dv))]) hx hb dX2_degreeOf_18 hl (k := 0) rfl (by rw [show Int32.ofInt 1 = nI 1 from by decide, nI_add]) (by decide) rfl (fun ls hl => ?_)
          refine lv_goto (tgt := 4) hx hb dX2_degreeOf_21 (by decide) ?_
          exact ih4 (v + 1) (by omega)  H locs ls  (by omega) (by omega) hw (lv_sub hl [0, 1, 2] rfl)
        · skip
          refine lv_iload_n hx hb dX2_degreeOf_16 rfl (lv_at hl 0 rfl) ?_
          refine lv_istore_n (lv' := [(1, .int (nI v)), (2, .int (nI v)), (0, .int (nI dv))]) hx hb dX2_degreeOf_17 rfl hl (by decide) rfl (fun ls hl => ?_)
          replace hl : lv_has ls 3 [(1, .int (nI (degN dv (v + 1)))), (2, .int (nI v)), (0, .int (nI dv))] := (by rw [degN_f (by omega) h_13]; exact hl)
          refine lv_iinc (v := (nI (v + 1))) (lv' := [(2, .int (nI (v + 1))), (1, .int (nI (degN dv (v + 1)))), (0, .int (nI dv))]) hx hb dX2_degreeOf_18 hl (k := 1) rfl (by rw [show Int32.ofInt 1 = nI 1 from by decide, nI_add]) (by decide) rfl (fun ls hl => ?_)
          refine lv_goto (tgt := 4) hx hb dX2_degreeOf_21 (by decide) ?_
          exact ih4 (v + 1) (by omega)  H locs ls  (by omega) (by omega) hw (lv_sub hl [0, 1, 2] rfl)
  exact loop4 (9 - 1 + 1) 1 (by omega)  s.heap [] ls  (Nat.le_refl _) (by omega) hw (lv_sub hl [0, 1, 2] rfl)

theorem hdckS_yX8_init : yX8_init.cls ≠ "java/lang/invoke/MethodHandle" ∧ yX8_init.cls ≠ "java/lang/invoke/VarHandle" ∧ (parseMethodDescriptor yX8_init.desc).map (fun d => d.parameters.length) = some 0 := by decide +kernel
theorem hdckS_yX2_degreeOf : yX2_degreeOf.cls ≠ "java/lang/invoke/MethodHandle" ∧ yX2_degreeOf.cls ≠ "java/lang/invoke/VarHandle" ∧ (parseMethodDescriptor yX2_degreeOf.desc).map (fun d => d.parameters.length) = some 1 := by decide +kernel
set_option maxHeartbeats 4000000 in
set_option maxRecDepth 100000 in
/-- Check(int, int) -/
theorem c_X2_init (l : Launch) (D : va_G) (cy : Nat → ClassId) (S : pS) (sz : Nat) (h d0 t0 r0 dv t : Nat) (hL_h : h ∈ S.1) (hf_h : S.2 h = .inr (2, [.int (nI d0), .int (nI t0), .int (nI r0)])) (hdv : dv < 512) : Met l yX2_init wsX2_init ({ frames := 2, cells := 0, slots := 0, locals := 32 }) (pPc D cy S sz [.ref h, .int (nI dv), .int (nI t)]) (pQv D cy S sz (fun S' => S' = pup S h (.inr (2, [.int (nI dv), .int (nI t), .int (nI (degN dv 9))])))) 0 0 (pA S sz) := by
  refine Met.ofW (cc := cX2_init) (maxL := 3) (ret := none) (by decide) rfl ?_
  intro p e s m args below meth c s₁ B hml hv
  have hin : meth.name = "<init>" := (name_of_methodNamed B.named B.method).1
  obtain ⟨rfl, rfl, C, hw, hA, hr, hlocks⟩ := p_start B hml hv
  have hx := C.1
  have hb := C.2.1
  have hl := lv_entry ([.ref h, .int (nI dv), .int (nI t)]) (n := 3) (Nat.le_of_ble_eq_true rfl)
  rw [lg_entry_eq]
  generalize (lg_sl ([.ref h, .int (nI dv), .int (nI t)]) ++ List.replicate (3 - (lg_sl ([.ref h, .int (nI dv), .int (nI t)])).length) Slot.unset).toArray = ls at hl ⊢
  have hl : lv_has ls 3 [(0, .ref h), (1, .int (nI dv)), (2, .int (nI t))] := hl
  have hin_RX2 : ∀ w ∈ u_ws RX2 TX2 3, w ∈ wsX2_init := by decide +kernel
  refine lv_aload_n hx hb dX2_init_0 rfl (lv_at hl 0 rfl) ?_
  refine p_callv (va_runIN (As := []) (rest := []) C.fix (c_X8_init l D cy S s.heap.size h) ⟨va_cnB 0 C.2.2.2.2.1 gX2_init_X8_init_n3 rfl rfl rfl (show va_Nw (.methodLinkNest RX2 3 yX8_init "SoundingLine") s from C.2.2.2.2.2.2.1 11 (RX2, 3, yX8_init) rfl) (C.2.2.2.2.1 (.initialized RX8) (List.mem_of_getElem? (i := 5) rfl)) hdckS_yX8_init ⟨Nat.le_of_ble_eq_true rfl, Nat.le_of_ble_eq_true rfl⟩, rfl, C.2.2.2.2.1 (.instanceMethod yX8_init) (List.mem_of_getElem? (i := 4) rfl)⟩ (p_preS C hw) rfl rfl hl.1 rfl (lv_room (Nat.le_of_ble_eq_true rfl)) dX2_init_1 ⟨Nat.le_of_ble_eq_true rfl, Nat.le_of_ble_eq_true rfl⟩) hw hA (fun S1 H locs hpost hw => ?_)
  subst hpost
  refine lv_aload_n hx hb dX2_init_4 rfl (lv_at hl 0 rfl) ?_
  refine lv_iload_n hx hb dX2_init_5 rfl (lv_at hl 1 rfl) ?_
  refine p_putF C hw (ci := 2) (Cn := RX2) (T := TX2) (N := 3) tyX2 tyX2_ok nmX2 hL_h hf_h rfl hin_RX2 0 (by decide) (List.mem_of_getElem? (i := 1) rfl) rfl rfl hin rfl rfl rfl rfl (by simp) dX2_init_6 rfl (fun H locs hw => ?_)
  obtain ⟨S3, hS3⟩ : ∃ z, z = pup S h (.inr (2, [.int (nI dv), .int (nI t0), .int (nI r0)])) := ⟨_, rfl⟩
  replace hw : pW D (pA S s.heap.size) s.heap S3 H locs := by rw [hS3]; exact hw
  have hL4 : h ∈ S3.1 := by rw [hS3]; exact hL_h
  have hf5 : S3.2 h = .inr (2, [.int (nI dv), .int (nI t0), .int (nI r0)]) := by rw [hS3]; exact pup_s
  refine lv_aload_n hx hb dX2_init_9 rfl (lv_at hl 0 rfl) ?_
  refine lv_iload_n hx hb dX2_init_10 rfl (lv_at hl 2 rfl) ?_
  refine p_putF C hw (ci := 2) (Cn := RX2) (T := TX2) (N := 3) tyX2 tyX2_ok nmX2 hL4 hf5 rfl hin_RX2 1 (by decide) (List.mem_of_getElem? (i := 2) rfl) rfl rfl hin rfl rfl rfl rfl (by simp) dX2_init_11 rfl (fun H locs hw => ?_)
  obtain ⟨S6, hS6⟩ : ∃ z, z = pup S3 h (.inr (2, [.int (nI dv), .int (nI t), .int (nI r0)])) := ⟨_, rfl⟩
  replace hw : pW D (pA S s.heap.size) s.heap S6 H locs := by rw [hS6]; exact hw
  have hL7 : h ∈ S6.1 := by rw [hS6]; exact hL4
  have hf8 : S6.2 h = .inr (2, [.int (nI dv), .int (nI t), .int (nI r0)]) := by rw [hS6]; exact pup_s
  refine lv_aload_n hx hb dX2_init_14 rfl (lv_at hl 0 rfl) ?_
  refine lv_iload_n hx hb dX2_init_15 rfl (lv_at hl 1 rfl) ?_
  refine p_calli (va_runS (As := [.int (nI dv)]) (rest := [.ref h]) C.fix (c_X2_degreeOf l D cy S6 H.size dv hdv) (va_cwS 1 C.2.2.2.2.1 gX2_init_X2_degreeOf rfl rfl rfl hdckS_yX2_degreeOf ⟨Nat.le_of_ble_eq_true rfl, Nat.le_of_ble_eq_true rfl⟩) (p_preS C hw) rfl rfl hl.1 rfl (lv_room (Nat.le_of_ble_eq_true rfl)) dX2_init_16 ⟨Nat.le_of_ble_eq_true rfl, Nat.le_of_ble_eq_true rfl⟩) hw hA (fun r10 S9 H locs hpost hw => ?_)
  obtain ⟨hr_, hS_⟩ := hpost
  subst hr_
  subst hS_
  refine p_putF C hw (ci := 2) (Cn := RX2) (T := TX2) (N := 3) tyX2 tyX2_ok nmX2 hL7 hf8 rfl hin_RX2 2 (by decide) (List.mem_of_getElem? (i := 3) rfl) rfl rfl hin rfl rfl rfl rfl (by simp) dX2_init_19 rfl (fun H locs hw => ?_)
  obtain ⟨S11, hS11⟩ : ∃ z, z = pup S6 h (.inr (2, [.int (nI dv), .int (nI t), .int (nI (degN dv 9))])) := ⟨_, rfl⟩
  replace hw : pW D (pA S s.heap.size) s.heap S11 H locs := by rw [hS11]; exact hw
  have hL12 : h ∈ S11.1 := by rw [hS11]; exact hL7
  have hf13 : S11.2 h = .inr (2, [.int (nI dv), .int (nI t), .int (nI (degN dv 9))]) := by rw [hS11]; exact pup_s
  exact p_vret C hw (by rw [hS11, hS6, hS3]; simp only [pup_pup]) hr hlocks dX2_init_22

set_option maxHeartbeats 4000000 in
set_option maxRecDepth 100000 in
/-- Check.kind -/
theorem c_X2_kind (l : Launch) (D : va_G) (cy : Nat → ClassId) (S : pS) (sz : Nat) (h : Nat)   : Met l yX2_kind wsX2_kind ({ frames := 0, cells := 0, slots := 0, locals := 0 }) (pPc D cy S sz [.ref h]) (pQi D cy S sz (fun r S' => r = nI 2 ∧ S = S')) 0 0 (pA S sz) := by
  refine Met.ofW (cc := cX2_kind) (maxL := 1) (ret := (some .int)) (by decide) rfl ?_
  intro p e s m args below meth c s₁ B hml hv
  obtain ⟨rfl, rfl, C, hw, hA, hr, hlocks⟩ := p_start B hml hv
  have hx := C.1
  have hb := C.2.1
  have hl := lv_entry ([.ref h]) (n := 1) (Nat.le_of_ble_eq_true rfl)
  rw [lg_entry_eq]
  generalize (lg_sl ([.ref h]) ++ List.replicate (1 - (lg_sl ([.ref h])).length) Slot.unset).toArray = ls at hl ⊢
  have hl : lv_has ls 1 [(0, .ref h)] := hl
  refine lv_iconst (v := nI 2) hx hb dX2_kind_0 (by decide) ?_
  exact p_iret C hw ⟨rfl, rfl⟩ hr hlocks dX2_kind_1

theorem hdckS_yX11_blocksOf : yX11_blocksOf.cls ≠ "java/lang/invoke/MethodHandle" ∧ yX11_blocksOf.cls ≠ "java/lang/invoke/VarHandle" ∧ (parseMethodDescriptor yX11_blocksOf.desc).map (fun d => d.parameters.length) = some 2 := by decide +kernel
set_option maxHeartbeats 4000000 in
set_option maxRecDepth 100000 in
/-- Check.sizeOf -/
theorem c_X2_sizeOf (l : Launch) (D : va_G) (cy : Nat → ClassId) (S : pS) (sz : Nat) (h dv t rr : Nat) (n : Nat) (hL_h : h ∈ S.1) (hf_h : S.2 h = .inr (2, [.int (nI dv), .int (nI t), .int (nI rr)])) (hn : n < 2 ^ 29) (ht : t ≤ 32) : Met l yX2_sizeOf wsX2_sizeOf ({ frames := 1, cells := 0, slots := 0, locals := 21 }) (pPc D cy S sz [.ref h, .int (nI n)]) (pQi D cy S sz (fun r S' => r = nI (blk n t * (t + rr)) ∧ S = S')) 0 0 (pA S sz) := by
  refine Met.ofW (cc := cX2_sizeOf) (maxL := 2) (ret := (some .int)) (by decide) rfl ?_
  intro p e s m args below meth c s₁ B hml hv
  obtain ⟨rfl, rfl, C, hw, hA, hr, hlocks⟩ := p_start B hml hv
  have hx := C.1
  have hb := C.2.1
  have hl := lv_entry ([.ref h, .int (nI n)]) (n := 2) (Nat.le_of_ble_eq_true rfl)
  rw [lg_entry_eq]
  generalize (lg_sl ([.ref h, .int (nI n)]) ++ List.replicate (2 - (lg_sl ([.ref h, .int (nI n)])).length) Slot.unset).toArray = ls at hl ⊢
  have hl : lv_has ls 2 [(0, .ref h), (1, .int (nI n))] := hl
  have hin_RX2 : ∀ w ∈ u_ws RX2 TX2 3, w ∈ wsX2_sizeOf := by decide +kernel
  refine lv_iload_n hx hb dX2_sizeOf_0 rfl (lv_at hl 1 rfl) ?_
  refine lv_aload_n hx hb dX2_sizeOf_1 rfl (lv_at hl 0 rfl) ?_
  refine p_get C hw (ci := 2) (Cn := RX2) (T := TX2) (N := 3) hL_h hf_h rfl hin_RX2 1 (by decide) (List.mem_of_getElem? (i := 1) rfl) rfl rfl dX2_sizeOf_2 ?_
  refine p_calli (va_runSN (As := [.int (nI n), .int (nI t)]) (rest := []) C.fix (c_X11_blocksOf l D cy S s.heap.size n t (by omega) (by omega)) ⟨va_cnB 2 C.2.2.2.2.1 gX2_sizeOf_X11_blocksOf_n25 rfl rfl rfl (show va_Nw (.methodLinkNest RX2 25 yX11_blocksOf "SoundingLine") s from C.2.2.2.2.2.2.1 4 (RX2, 25, yX11_blocksOf) rfl) (C.2.2.2.2.1 (.initialized RX11) (List.mem_of_getElem? (i := 4) rfl)) hdckS_yX11_blocksOf ⟨Nat.le_of_ble_eq_true rfl, Nat.le_of_ble_eq_true rfl⟩, C.2.2.2.2.1 (.static yX11_blocksOf) (List.mem_of_getElem? (i := 3) rfl), trivial⟩ (p_preS C hw) rfl rfl hl.1 rfl (lv_room (Nat.le_of_ble_eq_true rfl)) dX2_sizeOf_5 ⟨Nat.le_of_ble_eq_true rfl, Nat.le_of_ble_eq_true rfl⟩) hw hA (fun r2 S1 H locs hpost hw => ?_)
  obtain ⟨hr_, hS_⟩ := hpost
  subst hr_
  subst hS_
  refine lv_aload_n hx hb dX2_sizeOf_8 rfl (lv_at hl 0 rfl) ?_
  refine p_get C hw (ci := 2) (Cn := RX2) (T := TX2) (N := 3) hL_h hf_h rfl hin_RX2 1 (by decide) (List.mem_of_getElem? (i := 1) rfl) rfl rfl dX2_sizeOf_9 ?_
  refine lv_aload_n hx hb dX2_sizeOf_12 rfl (lv_at hl 0 rfl) ?_
  refine p_get C hw (ci := 2) (Cn := RX2) (T := TX2) (N := 3) hL_h hf_h rfl hin_RX2 2 (by decide) (List.mem_of_getElem? (i := 2) rfl) rfl rfl dX2_sizeOf_13 ?_
  refine n_iadd hx hb dX2_sizeOf_16 ?_
  refine n_imul hx hb dX2_sizeOf_17 ?_
  exact p_iret C hw ⟨rfl, rfl⟩ hr hlocks dX2_sizeOf_18

theorem hdckV_yX7_get_RX7 : yX7_get.cls = RX7 ∧ yX7_get.cls ≠ "java/lang/invoke/MethodHandle" ∧ yX7_get.cls ≠ "java/lang/invoke/VarHandle" ∧ (parseMethodDescriptor yX7_get.desc).map (fun d => d.parameters.length) = some 1 := by decide +kernel
set_option maxHeartbeats 4000000 in
set_option maxRecDepth 100000 in
/-- Check.restOf -/
theorem c_X2_restOf (l : Launch) (D : va_G) (cy : Nat → ClassId) (S : pS) (sz : Nat) (h dv t rr : Nat) (a a1 Na na sa : Nat) (ga : Nat → Nat) (hL_h : h ∈ S.1) (hf_h : S.2 h = .inr (2, [.int (nI dv), .int (nI t), .int (nI rr)])) (hL_a : a ∈ S.1) (hf_a : S.2 a = .inr (7, [.ref a1, .int (nI na)])) (hL_a1 : a1 ∈ S.1) (hf_a1 : S.2 a1 = aN (cy 0) Na ga) (hd1 : 2 ^ rr ≤ dv) (hd2 : dv < 2 ^ (rr + 1)) (hr8 : rr ≤ 8) (ht0 : 1 ≤ t) (ht : t ≤ 32) (hs : sa < 2 ^ 20) (hNa : Na < 2 ^ 27) (hna : na ≤ Na) (hga : ∀ q, ga q ≤ 2) : Met l yX2_restOf wsX2_restOf ({ frames := 1, cells := 0, slots := 0, locals := 21 }) (pPc D cy S sz [.ref h, .ref a, .int (nI sa)]) (pQi D cy S sz (fun r S' => r = nI (rsN ga na dv t rr sa (t + rr)) ∧ S = S')) 0 0 (pA S sz) := by
  refine Met.ofW (cc := cX2_restOf) (maxL := 6) (ret := (some .int)) (by decide) rfl ?_
  intro p e s m args below meth c s₁ B hml hv
  obtain ⟨rfl, rfl, C, hw, hA, hr, hlocks⟩ := p_start B hml hv
  have hx := C.1
  have hb := C.2.1
  have hl := lv_entry ([.ref h, .ref a, .int (nI sa)]) (n := 6) (Nat.le_of_ble_eq_true rfl)
  rw [lg_entry_eq]
  generalize (lg_sl ([.ref h, .ref a, .int (nI sa)]) ++ List.replicate (6 - (lg_sl ([.ref h, .ref a, .int (nI sa)])).length) Slot.unset).toArray = ls at hl ⊢
  have hl : lv_has ls 6 [(0, .ref h), (1, .ref a), (2, .int (nI sa))] := hl
  have hin_RX2 : ∀ w ∈ u_ws RX2 TX2 3, w ∈ wsX2_restOf := by decide +kernel
  have h2r := two_pow_8 hr8
  refine lv_iconst (v := nI 1) hx hb dX2_restOf_0 (by decide) ?_
  refine lv_aload_n hx hb dX2_restOf_1 rfl (lv_at hl 0 rfl) ?_
  refine p_get C hw (ci := 2) (Cn := RX2) (T := TX2) (N := 3) hL_h hf_h rfl hin_RX2 2 (by decide) (List.mem_of_getElem? (i := 1) rfl) rfl rfl dX2_restOf_2 ?_
  refine n_ishl hx hb (by omega) (by omega) dX2_restOf_5 ?_
  refine lv_istore_n (lv' := [(3, .int (nI (1 * 2 ^ rr))), (0, .ref h), (1, .ref a), (2, .int (nI sa))]) hx hb dX2_restOf_6 rfl hl (by decide) rfl (fun ls hl => ?_)
  refine lv_iconst (v := nI 0) hx hb dX2_restOf_7 (by decide) ?_
  refine lv_istore (lv' := [(4, .int (nI 0)), (3, .int (nI (1 * 2 ^ rr))), (0, .ref h), (1, .ref a), (2, .int (nI sa))]) hx hb dX2_restOf_8 hl (by decide) rfl (fun ls hl => ?_)
  refine lv_iconst (v := nI 0) hx hb dX2_restOf_10 (by decide) ?_
  refine lv_istore (lv' := [(5, .int (nI 0)), (4, .int (nI 0)), (3, .int (nI (1 * 2 ^ rr))), (0, .ref h), (1, .ref a), (2, .int (nI sa))]) hx hb dX2_restOf_11 hl (by decide) rfl (fun ls hl => ?_)
  have loop13 : ∀ (kf : Nat) (i : Nat), (t + rr) - i < kf → ∀ (H : Heap) (locs : List Loc) (ls : Array Slot),  (i ≤ t + rr) → pW D (pA S s.heap.size) s.heap S H locs → lv_has ls 6 [(5, .int (nI i)), (4, .int (nI (rsN ga na dv t rr sa i))), (3, .int (nI (1 * 2 ^ rr))), (0, .ref h), (1, .ref a), (2, .int (nI sa))] → W p l e (headSpec wsX2_restOf ({ frames := 1, cells := 0, slots := 0, locals := 21 } : Room)).room s m ([.ref h, .ref a, .int (nI sa)]).toArray below meth c H locs 0 0 (MQ below (pQi D cy S s.heap.size (fun r S' => r = nI (rsN ga na dv t rr sa (t + rr)) ∧ S = S')) ([.ref h, .ref a, .int (nI sa)]).toArray s 0 0 (pA S s.heap.size)) (F0 m 13 ls []) := by
    intro kf
    induction kf with
    | zero => intro i hm; exact absurd hm (Nat.not_lt_zero _)
    | succ kf ih13 =>
      intro i hm  H locs ls  hi hw hl
      have hrs := rsN_lt (ga := ga) (na := na) (t := t) (st := sa) hd1 hd2 i
      have hc512 := chX_lt (ga := ga) (na := na) (t := t) (st := sa) (x := rsN ga na dv t rr sa i) (i := i) (by omega)
      refine lv_iload hx hb dX2_restOf_13 (lv_at hl 0 rfl) ?_
      refine lv_aload_n hx hb dX2_restOf_15 rfl (lv_at hl 3 rfl) ?_
      refine p_get C hw (ci := 2) (Cn := RX2) (T := TX2) (N := 3) hL_h hf_h rfl hin_RX2 1 (by decide) (List.mem_of_getElem? (i := 2) rfl) rfl rfl dX2_restOf_16 ?_
      refine lv_aload_n hx hb dX2_restOf_19 rfl (lv_at hl 3 rfl) ?_
      refine p_get C hw (ci := 2) (Cn := RX2) (T := TX2) (N := 3) hL_h hf_h rfl hin_RX2 2 (by decide) (List.mem_of_getElem? (i := 1) rfl) rfl rfl dX2_restOf_20 ?_
      refine n_iadd hx hb dX2_restOf_23 ?_
      refine n_icmp_ge (tgt := 82) hx hb (by omega) (by omega) dX2_restOf_24 (by decide) (fun h_24 => ?_) (fun h_24 => ?_)
      · skip
        refine lv_iload hx hb dX2_restOf_82 (lv_at hl 1 rfl) ?_
        exact p_iret C hw ⟨by rw [show t + rr = i from by omega], rfl⟩ hr hlocks dX2_restOf_84
      · skip
        refine lv_iload hx hb dX2_restOf_27 (lv_at hl 1 rfl) ?_
        refine lv_iconst (v := nI 1) hx hb dX2_restOf_29 (by decide) ?_
        refine n_ishl hx hb (by omega) (by omega) dX2_restOf_30 ?_
        refine lv_iload hx hb dX2_restOf_31 (lv_at hl 0 rfl) ?_
        refine lv_aload_n hx hb dX2_restOf_33 rfl (lv_at hl 3 rfl) ?_
        refine p_get C hw (ci := 2) (Cn := RX2) (T := TX2) (N := 3) hL_h hf_h rfl hin_RX2 1 (by decide) (List.mem_of_getElem? (i := 2) rfl) rfl rfl dX2_restOf_34 ?_
        refine n_icmp_ge (tgt := 56) hx hb (by omega) (by omega) dX2_restOf_37 (by decide) (fun h_37 => ?_) (fun h_37 => ?_)
        · skip
          refine lv_iconst (v := nI 0) hx hb dX2_restOf_56 (by decide) ?_
          refine n_ior hx hb dX2_restOf_57 ?_
          refine n_ren (b := chX ga na t sa (rsN ga na dv t rr sa i) i) (by first | exact chX_t (by omega) h_49 | exact chX_f (fun z => h_49 z.2) | exact chX_f (fun z => absurd z.1 (by omega))) ?_
          refine lv_istore (lv' := [(4, .int (nI (chX ga na t sa (rsN ga na dv t rr sa i) i))), (5, .int (nI i)), (3, .int (nI (1 * 2 ^ rr))), (0, .ref h), (1, .ref a), (2, .int (nI sa))]) hx hb dX2_restOf_58 hl (by decide) rfl (fun ls hl => ?_)
          refine lv_iload hx hb dX2_restOf_60 (lv_at hl 0 rfl) ?_
          refine lv_iload_n hx hb dX2_restOf_62 rfl (lv_at hl 2 rfl) ?_
          refine n_iand hx hb dX2_restOf_63 ?_
          have hand : chX ga na t sa (rsN ga na dv t rr sa i) i &&& 1 * 2 ^ rr ≤ chX ga na t sa (rsN ga na dv t rr sa i) i := Nat.and_le_left
          refine n_if_eq (tgt := 76) hx hb (by omega) dX2_restOf_64 (by decide) (fun h_64 => ?_) (fun h_64 => ?_)
          · skip
            rw [← rsN_t h_64] at hl
            refine lv_iinc (v := (nI (i + 1))) (lv' := [(5, .int (nI (i + 1))), (4, .int (nI (rsN ga na dv t rr sa (i + 1)))), (3, .int (nI (1 * 2 ^ rr))), (0, .ref h), (1, .ref a), (2, .int (nI sa))]) hx hb dX2_restOf_76 hl (k := 1) rfl (by rw [show Int32.ofInt 1 = nI 1 from by decide, nI_add]) (by decide) rfl (fun ls hl => ?_)
            refine lv_goto (tgt := 13) hx hb dX2_restOf_79 (by decide) ?_
            exact ih13 (i + 1) (by omega)  H locs ls  (by omega) hw (lv_sub hl [0, 1, 2, 3, 4, 5] rfl)
          · skip
            refine lv_iload hx hb dX2_restOf_67 (lv_at hl 0 rfl) ?_
            refine lv_aload_n hx hb dX2_restOf_69 rfl (lv_at hl 3 rfl) ?_
            refine p_get C hw (ci := 2) (Cn := RX2) (T := TX2) (N := 3) hL_h hf_h rfl hin_RX2 0 (by decide) (List.mem_of_getElem? (i := 3) rfl) rfl rfl dX2_restOf_70 ?_
            refine n_ixor hx hb dX2_restOf_73 ?_
            refine n_ren (b := rsN ga na dv t rr sa (i + 1)) (rsN_f h_64).symm ?_
            refine lv_istore (lv' := [(4, .int (nI (rsN ga na dv t rr sa (i + 1)))), (5, .int (nI i)), (3, .int (nI (1 * 2 ^ rr))), (0, .ref h), (1, .ref a), (2, .int (nI sa))]) hx hb dX2_restOf_74 hl (by decide) rfl (fun ls hl => ?_)
            refine lv_iinc (v := (nI (i + 1))) (lv' := [(5, .int (nI (i + 1))), (4, .int (nI (rsN ga na dv t rr sa (i + 1)))), (3, .int (nI (1 * 2 ^ rr))), (0, .ref h), (1, .ref a), (2, .int (nI sa))]) hx hb dX2_restOf_76 hl (k := 1) rfl (by rw [show Int32.ofInt 1 = nI 1 from by decide, nI_add]) (by decide) rfl (fun ls hl => ?_)
            refine lv_goto (tgt := 13) hx hb dX2_restOf_79 (by decide) ?_
            exact ih13 (i + 1) (by omega)  H locs ls  (by omega) hw (lv_sub hl [0, 1, 2, 3, 4, 5] rfl)
        · skip
          refine lv_aload_n hx hb dX2_restOf_40 rfl (lv_at hl 4 rfl) ?_
          refine lv_iload_n hx hb dX2_restOf_41 rfl (lv_at hl 5 rfl) ?_
          refine lv_iload hx hb dX2_restOf_42 (lv_at hl 0 rfl) ?_
          refine n_iadd hx hb dX2_restOf_44 ?_
          refine p_calli (va_runV (As := [.int (nI (sa + i))]) (rest := [.int (nI ((rsN ga na dv t rr sa i) * 2 ^ 1))]) C.fix (c_X7_get l D cy S H.size a a1 Na na (sa + i) ga hL_a hf_a hL_a1 hf_a1 hNa hna (by omega)) (cwV 1 C.2.2.2.2.1 gX2_restOf_X7_get rfl rfl rfl hdckV_yX7_get_RX7 ⟨Nat.le_of_ble_eq_true rfl, Nat.le_of_ble_eq_true rfl⟩) (p_preV C hw hL_a hf_a rfl) rfl rfl hl.1 rfl (lv_room (Nat.le_of_ble_eq_true rfl)) dX2_restOf_45 ⟨Nat.le_of_ble_eq_true rfl, Nat.le_of_ble_eq_true rfl⟩) hw hA (fun r2 S1 H locs hpost hw => ?_)
          obtain ⟨hr_, hS_⟩ := hpost
          subst hr_
          subst hS_
          refine lv_iconst (v := nI 1) hx hb dX2_restOf_48 (by decide) ?_
          refine n_icmp_ne (tgt := 56) hx hb (by have := rg_le hga na (sa + i); omega) (by omega) dX2_restOf_49 (by decide) (fun h_49 => ?_) (fun h_49 => ?_)
          · skip
            refine lv_iconst (v := nI 0) hx hb dX2_restOf_56 (by decide) ?_
            refine n_ior hx hb dX2_restOf_57 ?_
            refine n_ren (b := chX ga na t sa (rsN ga na dv t rr sa i) i) (by first | exact chX_t (by omega) h_49 | exact chX_f (fun z => h_49 z.2) | exact chX_f (fun z => absurd z.1 (by omega))) ?_
            refine lv_istore (lv' := [(4, .int (nI (chX ga na t sa (rsN ga na dv t rr sa i) i))), (5, .int (nI i)), (3, .int (nI (1 * 2 ^ rr))), (0, .ref h), (1, .ref a), (2, .int (nI sa))]) hx hb dX2_restOf_58 hl (by decide) rfl (fun ls hl => ?_)
            refine lv_iload hx hb dX2_restOf_60 (lv_at hl 0 rfl) ?_
            refine lv_iload_n hx hb dX2_restOf_62 rfl (lv_at hl 2 rfl) ?_
            refine n_iand hx hb dX2_restOf_63 ?_
            have hand : chX ga na t sa (rsN ga na dv t rr sa i) i &&& 1 * 2 ^ rr ≤ chX ga na t sa (rsN ga na dv t rr sa i) i := Nat.and_le_left
            refine n_if_eq (tgt := 76) hx hb (by omega) dX2_restOf_64 (by decide) (fun h_64 => ?_) (fun h_64 => ?_)
            · skip
              rw [← rsN_t h_64] at hl
              refine lv_iinc (v := (nI (i + 1))) (lv' := [(5, .int (nI (i + 1))), (4, .int (nI (rsN ga na dv t rr sa (i + 1)))), (3, .int (nI (1 * 2 ^ rr))), (0, .ref h), (1, .ref a), (2, .int (nI sa))]) hx hb dX2_restOf_76 hl (k := 1) rfl (by rw [show Int32.ofInt 1 = nI 1 from by decide, nI_add]) (by decide) rfl (fun ls hl => ?_)
              refine lv_goto (tgt := 13) hx hb dX2_restOf_79 (by decide) ?_
              exact ih13 (i + 1) (by omega)  H locs ls  (by omega) hw (lv_sub hl [0, 1, 2, 3, 4, 5] rfl)
            · skip
              refine lv_iload hx hb dX2_restOf_67 (lv_at hl 0 rfl) ?_
              refine lv_aload_n hx hb dX2_restOf_69 rfl (lv_at hl 3 rfl) ?_
              refine p_get C hw (ci := 2) (Cn := RX2) (T := TX2) (N := 3) hL_h hf_h rfl hin_RX2 0 (by decide) (List.mem_of_getElem? (i := 3) rfl) rfl rfl dX2_restOf_70 ?_
              refine n_ixor hx hb dX2_restOf_73 ?_
              refine n_ren (b := rsN ga na dv t rr sa (i + 1)) (rsN_f h_64).symm ?_
              refine lv_istore (lv' := [(4, .int (nI (rsN ga na dv t rr sa (i + 1)))), (5, .int (nI i)), (3, .int (nI (1 * 2 ^ rr))), (0, .ref h), (1, .ref a), (2, .int (nI sa))]) hx hb dX2_restOf_74 hl (by decide) rfl (fun ls hl => ?_)
              refine lv_iinc (v := (nI (i + 1))) (lv' := [(5, .int (nI (i + 1))), (4, .int (nI (rsN ga na dv t rr sa (i + 1)))), (3, .int (nI (1 * 2 ^ rr))), (0, .ref h), (1, .ref a), (2, .int (nI sa))]) hx hb dX2_restOf_76 hl (k := 1) rfl (by rw [show Int32.ofInt 1 = nI 1 from by decide, nI_add]) (by decide) rfl (fun ls hl => ?_)
              refine lv_goto (tgt := 13) hx hb dX2_restOf_79 (by decide) ?_
              exact ih13 (i + 1) (by omega)  H locs ls  (by omega) hw (lv_sub hl [0, 1, 2, 3, 4, 5] rfl)
          · skip
            refine lv_iconst (v := nI 1) hx hb dX2_restOf_52 (by decide) ?_
            refine lv_goto (tgt := 57) hx hb dX2_restOf_53 (by decide) ?_
            refine n_ior hx hb dX2_restOf_57 ?_
            refine n_ren (b := chX ga na t sa (rsN ga na dv t rr sa i) i) (by first | exact chX_t (by omega) h_49 | exact chX_f (fun z => h_49 z.2) | exact chX_f (fun z => absurd z.1 (by omega))) ?_
            refine lv_istore (lv' := [(4, .int (nI (chX ga na t sa (rsN ga na dv t rr sa i) i))), (5, .int (nI i)), (3, .int (nI (1 * 2 ^ rr))), (0, .ref h), (1, .ref a), (2, .int (nI sa))]) hx hb dX2_restOf_58 hl (by decide) rfl (fun ls hl => ?_)
            refine lv_iload hx hb dX2_restOf_60 (lv_at hl 0 rfl) ?_
            refine lv_iload_n hx hb dX2_restOf_62 rfl (lv_at hl 2 rfl) ?_
            refine n_iand hx hb dX2_restOf_63 ?_
            have hand : chX ga na t sa (rsN ga na dv t rr sa i) i &&& 1 * 2 ^ rr ≤ chX ga na t sa (rsN ga na dv t rr sa i) i := Nat.and_le_left
            refine n_if_eq (tgt := 76) hx hb (by omega) dX2_restOf_64 (by decide) (fun h_64 => ?_) (fun h_64 => ?_)
            · skip
              rw [← rsN_t h_64] at hl
              refine lv_iinc (v := (nI (i + 1))) (lv' := [(5, .int (nI (i + 1))), (4, .int (nI (rsN ga na dv t rr sa (i + 1)))), (3, .int (nI (1 * 2 ^ rr))), (0, .ref h), (1, .ref a), (2, .int (nI sa))]) hx hb dX2_restOf_76 hl (k := 1) rfl (by rw [show Int32.ofInt 1 = nI 1 from by decide, nI_add]) (by decide) rfl (fun ls hl => ?_)
              refine lv_goto (tgt := 13) hx hb dX2_restOf_79 (by decide) ?_
              exact ih13 (i + 1) (by omega)  H locs ls  (by omega) hw (lv_sub hl [0, 1, 2, 3, 4, 5] rfl)
            · skip
              refine lv_iload hx hb dX2_restOf_67 (lv_at hl 0 rfl) ?_
              refine lv_aload_n hx hb dX2_restOf_69 rfl (lv_at hl 3 rfl) ?_
              refine p_get C hw (ci := 2) (Cn := RX2) (T := TX2) (N := 3) hL_h hf_h rfl hin_RX2 0 (by decide) (List.mem_of_getElem? (i := 3) rfl) rfl rfl dX2_restOf_70 ?_
              refine n_ixor hx hb dX2_restOf_73 ?_
              refine n_ren (b := rsN ga na dv t rr sa (i + 1)) (rsN_f h_64).symm ?_
              refine lv_istore (lv' := [(4, .int (nI (rsN ga na dv t rr sa (i + 1)))), (5, .int (nI i)), (3, .int (nI (1 * 2 ^ rr))), (0, .ref h), (1, .ref a), (2, .int (nI sa))]) hx hb dX2_restOf_74 hl (by decide) rfl (fun ls hl => ?_)
              refine lv_iinc (v := (nI (i + 1))) (lv' := [(5, .int (nI (i + 1))), (4, .int (nI (rsN ga na dv t rr sa (i + 1)))), (3, .int (nI (1 * 2 ^ rr))), (0, .ref h), (1, .ref a), (2, .int (nI sa))]) hx hb dX2_restOf_76 hl (k := 1) rfl (by rw [show Int32.ofInt 1 = nI 1 from by decide, nI_add]) (by decide) rfl (fun ls hl => ?_)
              refine lv_goto (tgt := 13) hx hb dX2_restOf_79 (by decide) ?_
              exact ih13 (i + 1) (by omega)  H locs ls  (by omega) hw (lv_sub hl [0, 1, 2, 3, 4, 5] rfl)
  exact loop13 ((t + rr) - 0 + 1) 0 (by omega)  s.heap [] ls  (Nat.zero_le _) hw (lv_sub hl [0, 1, 2, 3, 4, 5] rfl)

theorem hdckV_yX7_size_RX7 : yX7_size.cls = RX7 ∧ yX7_size.cls ≠ "java/lang/invoke/MethodHandle" ∧ yX7_size.cls ≠ "java/lang/invoke/VarHandle" ∧ (parseMethodDescriptor yX7_size.desc).map (fun d => d.parameters.length) = some 0 := by decide +kernel
theorem hdckV_yX2_restOf_RX2 : yX2_restOf.cls = RX2 ∧ yX2_restOf.cls ≠ "java/lang/invoke/MethodHandle" ∧ yX2_restOf.cls ≠ "java/lang/invoke/VarHandle" ∧ (parseMethodDescriptor yX2_restOf.desc).map (fun d => d.parameters.length) = some 2 := by decide +kernel
theorem hdckV_yX7_putNumber_RX7 : yX7_putNumber.cls = RX7 ∧ yX7_putNumber.cls ≠ "java/lang/invoke/MethodHandle" ∧ yX7_putNumber.cls ≠ "java/lang/invoke/VarHandle" ∧ (parseMethodDescriptor yX7_putNumber.desc).map (fun d => d.parameters.length) = some 3 := by decide +kernel
theorem hdckV_yX7_numberAt_RX7 : yX7_numberAt.cls = RX7 ∧ yX7_numberAt.cls ≠ "java/lang/invoke/MethodHandle" ∧ yX7_numberAt.cls ≠ "java/lang/invoke/VarHandle" ∧ (parseMethodDescriptor yX7_numberAt.desc).map (fun d => d.parameters.length) = some 2 := by decide +kernel
theorem hdckV_yX7_put_RX7 : yX7_put.cls = RX7 ∧ yX7_put.cls ≠ "java/lang/invoke/MethodHandle" ∧ yX7_put.cls ≠ "java/lang/invoke/VarHandle" ∧ (parseMethodDescriptor yX7_put.desc).map (fun d => d.parameters.length) = some 2 := by decide +kernel
set_option maxHeartbeats 4000000 in
set_option maxRecDepth 100000 in
/-- Check.code -/
theorem c_X2_code (l : Launch) (D : va_G) (cy : Nat → ClassId) (S : pS) (sz : Nat) (h dv t rr : Nat) (a a1 Na na b b1 Nb nb : Nat) (ga gb : Nat → Nat) (hL_h : h ∈ S.1) (hf_h : S.2 h = .inr (2, [.int (nI dv), .int (nI t), .int (nI rr)])) (hL_a : a ∈ S.1) (hf_a : S.2 a = .inr (7, [.ref a1, .int (nI na)])) (hL_a1 : a1 ∈ S.1) (hf_a1 : S.2 a1 = aN (cy 0) Na ga) (hL_b : b ∈ S.1) (hf_b : S.2 b = .inr (7, [.ref b1, .int (nI nb)])) (hL_b1 : b1 ∈ S.1) (hf_b1 : S.2 b1 = aN (cy 0) Nb gb) (hd1 : 2 ^ rr ≤ dv) (hd2 : dv < 2 ^ (rr + 1)) (hr8 : rr ≤ 8) (ht0 : 1 ≤ t) (ht : t ≤ 32) (hn4 : na ≤ 400) (hNa : Na < 2 ^ 27) (hna : na ≤ Na) (hga : ∀ q, ga q ≤ 2) (hNb : Nb < 2 ^ 27) (hnb : nb ≤ Nb) (hgb : ∀ q, gb q ≤ 2) (hne : a1 ≠ b1) : Met l yX2_code wsX2_code ({ frames := 2, cells := 0, slots := 0, locals := 46 }) (pPc D cy S sz [.ref h, .ref a, .ref b]) (pQv D cy S sz (fun S' => S' = pup S b1 (aN (cy 0) Nb (rpos (chkF ga na dv t rr) gb nb (blk na t * (t + rr)))))) 0 0 (pA S sz) := by
  refine Met.ofW (cc := cX2_code) (maxL := 7) (ret := none) (by decide) rfl ?_
  intro p e s m args below meth c s₁ B hml hv
  obtain ⟨rfl, rfl, C, hw, hA, hr, hlocks⟩ := p_start B hml hv
  have hx := C.1
  have hb := C.2.1
  have hl := lv_entry ([.ref h, .ref a, .ref b]) (n := 7) (Nat.le_of_ble_eq_true rfl)
  rw [lg_entry_eq]
  generalize (lg_sl ([.ref h, .ref a, .ref b]) ++ List.replicate (7 - (lg_sl ([.ref h, .ref a, .ref b])).length) Slot.unset).toArray = ls at hl ⊢
  have hl : lv_has ls 7 [(0, .ref h), (1, .ref a), (2, .ref b)] := hl
  have hin_RX2 : ∀ w ∈ u_ws RX2 TX2 3, w ∈ wsX2_code := by decide +kernel
  refine lv_aload_n hx hb dX2_code_0 rfl (lv_at hl 1 rfl) ?_
  refine p_calli (va_runV (As := []) (rest := []) C.fix (c_X7_size l D cy S s.heap.size a a1 na hL_a hf_a) (cwV 0 C.2.2.2.2.1 gX2_code_X7_size rfl rfl rfl hdckV_yX7_size_RX7 ⟨Nat.le_of_ble_eq_true rfl, Nat.le_of_ble_eq_true rfl⟩) (p_preV C hw hL_a hf_a rfl) rfl rfl hl.1 rfl (lv_room (Nat.le_of_ble_eq_true rfl)) dX2_code_1 ⟨Nat.le_of_ble_eq_true rfl, Nat.le_of_ble_eq_true rfl⟩) hw hA (fun r2 S1 H locs hpost hw => ?_)
  obtain ⟨hr_, hS_⟩ := hpost
  subst hr_
  subst hS_
  refine lv_aload_n hx hb dX2_code_4 rfl (lv_at hl 0 rfl) ?_
  refine p_get C hw (ci := 2) (Cn := RX2) (T := TX2) (N := 3) hL_h hf_h rfl hin_RX2 1 (by decide) (List.mem_of_getElem? (i := 1) rfl) rfl rfl dX2_code_5 ?_
  refine p_calli (va_runSN (As := [.int (nI na), .int (nI t)]) (rest := []) C.fix (c_X11_blocksOf l D cy S H.size na t (by omega) (by omega)) ⟨va_cnB 2 C.2.2.2.2.1 gX2_code_X11_blocksOf_n25 rfl rfl rfl (show va_Nw (.methodLinkNest RX2 25 yX11_blocksOf "SoundingLine") s from C.2.2.2.2.2.2.1 4 (RX2, 25, yX11_blocksOf) rfl) (C.2.2.2.2.1 (.initialized RX11) (List.mem_of_getElem? (i := 10) rfl)) hdckS_yX11_blocksOf ⟨Nat.le_of_ble_eq_true rfl, Nat.le_of_ble_eq_true rfl⟩, C.2.2.2.2.1 (.static yX11_blocksOf) (List.mem_of_getElem? (i := 9) rfl), trivial⟩ (p_preS C hw) rfl rfl hl.1 rfl (lv_room (Nat.le_of_ble_eq_true rfl)) dX2_code_8 ⟨Nat.le_of_ble_eq_true rfl, Nat.le_of_ble_eq_true rfl⟩) hw hA (fun r4 S3 H locs hpost hw => ?_)
  obtain ⟨hr_, hS_⟩ := hpost
  subst hr_
  subst hS_
  have hbk : blk na t ≤ 432 := Nat.le_trans (Nat.le_mul_of_pos_right _ ht0) (Nat.le_trans (blk_mul_le ht0) (by omega))
  refine lv_istore_n (lv' := [(3, .int (nI (blk na t))), (0, .ref h), (1, .ref a), (2, .ref b)]) hx hb dX2_code_11 rfl hl (by decide) rfl (fun ls hl => ?_)
  refine lv_aload_n hx hb dX2_code_12 rfl (lv_at hl 1 rfl) ?_
  refine p_get C hw (ci := 2) (Cn := RX2) (T := TX2) (N := 3) hL_h hf_h rfl hin_RX2 1 (by decide) (List.mem_of_getElem? (i := 1) rfl) rfl rfl dX2_code_13 ?_
  refine lv_aload_n hx hb dX2_code_16 rfl (lv_at hl 1 rfl) ?_
  refine p_get C hw (ci := 2) (Cn := RX2) (T := TX2) (N := 3) hL_h hf_h rfl hin_RX2 2 (by decide) (List.mem_of_getElem? (i := 2) rfl) rfl rfl dX2_code_17 ?_
  refine n_iadd hx hb dX2_code_20 ?_
  refine lv_istore (lv' := [(4, .int (nI (t + rr))), (3, .int (nI (blk na t))), (0, .ref h), (1, .ref a), (2, .ref b)]) hx hb dX2_code_21 hl (by decide) rfl (fun ls hl => ?_)
  refine lv_iconst (v := nI 0) hx hb dX2_code_23 (by decide) ?_
  refine lv_istore (lv' := [(5, .int (nI 0)), (4, .int (nI (t + rr))), (3, .int (nI (blk na t))), (0, .ref h), (1, .ref a), (2, .ref b)]) hx hb dX2_code_24 hl (by decide) rfl (fun ls hl => ?_)
  have loop26 : ∀ (kf : Nat) (k2 : Nat), (blk na t) - k2 < kf → ∀ (SA : pS), ∀ (H : Heap) (locs : List Loc) (ls : Array Slot), (h ∈ SA.1) → (SA.2 h = .inr (2, [.int (nI dv), .int (nI t), .int (nI rr)])) → (a ∈ SA.1) → (SA.2 a = .inr (7, [.ref a1, .int (nI na)])) → (a1 ∈ SA.1) → (SA.2 a1 = aN (cy 0) Na ga) → (b ∈ SA.1) → (SA.2 b = .inr (7, [.ref b1, .int (nI nb)])) → (b1 ∈ SA.1) → (SA.2 b1 = aN (cy 0) Nb (rpos (chkF ga na dv t rr) gb nb (k2 * (t + rr)))) → (k2 ≤ blk na t) → (SA = pup S b1 (aN (cy 0) Nb (rpos (chkF ga na dv t rr) gb nb (k2 * (t + rr))))) → pW D (pA S s.heap.size) s.heap SA H locs → lv_has ls 7 [(5, .int (nI k2)), (4, .int (nI (t + rr))), (3, .int (nI (blk na t))), (0, .ref h), (1, .ref a), (2, .ref b)] → W p l e (headSpec wsX2_code ({ frames := 2, cells := 0, slots := 0, locals := 46 } : Room)).room s m ([.ref h, .ref a, .ref b]).toArray below meth c H locs 0 0 (MQ below (pQv D cy S s.heap.size (fun S' => S' = pup S b1 (aN (cy 0) Nb (rpos (chkF ga na dv t rr) gb nb (blk na t * (t + rr)))))) ([.ref h, .ref a, .ref b]).toArray s 0 0 (pA S s.heap.size)) (F0 m 26 ls []) := by
    intro kf
    induction kf with
    | zero => intro k2 hm; exact absurd hm (Nat.not_lt_zero _)
    | succ kf ih26 =>
      intro k2 hm SA H locs ls hL5 hf6 hL7 hf8 hL9 hf10 hL11 hf12 hL13 hf14 hk hSA hw hl
      refine lv_iload hx hb dX2_code_26 (lv_at hl 0 rfl) ?_
      refine lv_iload_n hx hb dX2_code_28 rfl (lv_at hl 2 rfl) ?_
      refine n_icmp_ge (tgt := 113) hx hb (by omega) (by omega) dX2_code_29 (by decide) (fun h_29 => ?_) (fun h_29 => ?_)
      · skip
        exact p_vret C hw (by rw [hSA, show blk na t = k2 from by omega]) hr hlocks dX2_code_113
      · skip
        have hk1 := lt_blk h_29
        have hk2 : k2 * (t + rr) ≤ 432 * 40 := Nat.mul_le_mul (by omega) (by omega)
        refine lv_iconst (v := nI 0) hx hb dX2_code_32 (by decide) ?_
        refine lv_istore (lv' := [(6, .int (nI 0)), (5, .int (nI k2)), (4, .int (nI (t + rr))), (3, .int (nI (blk na t))), (0, .ref h), (1, .ref a), (2, .ref b)]) hx hb dX2_code_33 hl (by decide) rfl (fun ls hl => ?_)
        have loop35 : ∀ (kf : Nat) (i : Nat), t - i < kf → ∀ (SB : pS), ∀ (H : Heap) (locs : List Loc) (ls : Array Slot), (h ∈ SB.1) → (SB.2 h = .inr (2, [.int (nI dv), .int (nI t), .int (nI rr)])) → (a ∈ SB.1) → (SB.2 a = .inr (7, [.ref a1, .int (nI na)])) → (a1 ∈ SB.1) → (SB.2 a1 = aN (cy 0) Na ga) → (b ∈ SB.1) → (SB.2 b = .inr (7, [.ref b1, .int (nI nb)])) → (b1 ∈ SB.1) → (SB.2 b1 = aN (cy 0) Nb (rpos (chkF ga na dv t rr) gb nb (k2 * (t + rr) + i))) → (i ≤ t) → (SB = pup S b1 (aN (cy 0) Nb (rpos (chkF ga na dv t rr) gb nb (k2 * (t + rr) + i)))) → pW D (pA S s.heap.size) s.heap SB H locs → lv_has ls 7 [(6, .int (nI i)), (5, .int (nI k2)), (4, .int (nI (t + rr))), (3, .int (nI (blk na t))), (0, .ref h), (1, .ref a), (2, .ref b)] → W p l e (headSpec wsX2_code ({ frames := 2, cells := 0, slots := 0, locals := 46 } : Room)).room s m ([.ref h, .ref a, .ref b]).toArray below meth c H locs 0 0 (MQ below (pQv D cy S s.heap.size (fun S' => S' = pup S b1 (aN (cy 0) Nb (rpos (chkF ga na dv t rr) gb nb (blk na t * (t + rr)))))) ([.ref h, .ref a, .ref b]).toArray s 0 0 (pA S s.heap.size)) (F0 m 35 ls []) := by
          intro kf
          induction kf with
          | zero => intro i hm; exact absurd hm (Nat.not_lt_zero _)
          | succ kf ih35 =>
            intro i hm SB H locs ls hL15 hf16 hL17 hf18 hL19 hf20 hL21 hf22 hL23 hf24 hi hSB hw hl
            refine lv_iload hx hb dX2_code_35 (lv_at hl 0 rfl) ?_
            refine lv_aload_n hx hb dX2_code_37 rfl (lv_at hl 4 rfl) ?_
            refine p_get C hw (ci := 2) (Cn := RX2) (T := TX2) (N := 3) hL15 hf16 rfl hin_RX2 1 (by decide) (List.mem_of_getElem? (i := 1) rfl) rfl rfl dX2_code_38 ?_
            refine n_icmp_ge (tgt := 77) hx hb (by omega) (by omega) dX2_code_41 (by decide) (fun h_41 => ?_) (fun h_41 => ?_)
            · skip
              have hf25 : SB.2 b1 = aN (cy 0) Nb (rpos (chkF ga na dv t rr) gb nb (k2 * (t + rr) + t)) := (by rw [show k2 * (t + rr) + t = k2 * (t + rr) + i from by omega]; exact hf24)
              refine lv_aload_n hx hb dX2_code_77 rfl (lv_at hl 6 rfl) ?_
              refine lv_iload hx hb dX2_code_78 (lv_at hl 1 rfl) ?_
              refine lv_iload hx hb dX2_code_80 (lv_at hl 2 rfl) ?_
              refine n_imul hx hb dX2_code_82 ?_
              refine lv_aload_n hx hb dX2_code_83 rfl (lv_at hl 4 rfl) ?_
              refine p_get C hw (ci := 2) (Cn := RX2) (T := TX2) (N := 3) hL15 hf16 rfl hin_RX2 1 (by decide) (List.mem_of_getElem? (i := 1) rfl) rfl rfl dX2_code_84 ?_
              refine n_iadd hx hb dX2_code_87 ?_
              refine lv_aload_n hx hb dX2_code_88 rfl (lv_at hl 4 rfl) ?_
              refine lv_aload_n hx hb dX2_code_89 rfl (lv_at hl 5 rfl) ?_
              refine lv_iload hx hb dX2_code_90 (lv_at hl 1 rfl) ?_
              refine lv_aload_n hx hb dX2_code_92 rfl (lv_at hl 4 rfl) ?_
              refine p_get C hw (ci := 2) (Cn := RX2) (T := TX2) (N := 3) hL15 hf16 rfl hin_RX2 1 (by decide) (List.mem_of_getElem? (i := 1) rfl) rfl rfl dX2_code_93 ?_
              refine n_imul hx hb dX2_code_96 ?_
              refine p_calli (va_runV (As := [.ref a, .int (nI (k2 * t))]) (rest := [.int (nI ((k2 * (t + rr)) + t)), .ref b]) C.fix (c_X2_restOf l D cy SB H.size h dv t rr a a1 Na na (k2 * t) ga hL15 hf16 hL17 hf18 hL19 hf20 hd1 hd2 hr8 ht0 ht (by omega) hNa hna hga) (cwV 2 C.2.2.2.2.1 gX2_code_X2_restOf rfl rfl rfl hdckV_yX2_restOf_RX2 ⟨Nat.le_of_ble_eq_true rfl, Nat.le_of_ble_eq_true rfl⟩) (p_preV C hw hL15 hf16 rfl) rfl rfl hl.1 rfl (lv_room (Nat.le_of_ble_eq_true rfl)) dX2_code_97 ⟨Nat.le_of_ble_eq_true rfl, Nat.le_of_ble_eq_true rfl⟩) hw hA (fun r27 S26 H locs hpost hw => ?_)
              obtain ⟨hr_, hS_⟩ := hpost
              subst hr_
              subst hS_
              have hrs := rsN_lt (ga := ga) (na := na) (t := t) (st := k2 * t) hd1 hd2 (t + rr)
              have h2r := two_pow_8 hr8
              refine lv_aload_n hx hb dX2_code_100 rfl (lv_at hl 4 rfl) ?_
              refine p_get C hw (ci := 2) (Cn := RX2) (T := TX2) (N := 3) hL15 hf16 rfl hin_RX2 2 (by decide) (List.mem_of_getElem? (i := 2) rfl) rfl rfl dX2_code_101 ?_
              refine p_callv (va_runV (As := [.int (nI ((k2 * (t + rr)) + t)), .int (nI (rsN ga na dv t rr (k2 * t) (t + rr))), .int (nI rr)]) (rest := []) C.fix (c_X7_putNumber l D cy SB H.size b b1 Nb nb ((k2 * (t + rr)) + t) (rsN ga na dv t rr (k2 * t) (t + rr)) rr (rpos (chkF ga na dv t rr) gb nb (k2 * (t + rr) + t)) hL21 hf22 hL23 hf25 hNb hnb (by omega) (by omega) (by omega)) (cwV 3 C.2.2.2.2.1 gX2_code_X7_putNumber rfl rfl rfl hdckV_yX7_putNumber_RX7 ⟨Nat.le_of_ble_eq_true rfl, Nat.le_of_ble_eq_true rfl⟩) (p_preV C hw hL21 hf22 rfl) rfl rfl hl.1 rfl (lv_room (Nat.le_of_ble_eq_true rfl)) dX2_code_104 ⟨Nat.le_of_ble_eq_true rfl, Nat.le_of_ble_eq_true rfl⟩) hw hA (fun S28 H locs hpost hw => ?_)
              have hL30 : h ∈ S28.1 := by rw [hpost]; exact hL15
              have hf31 : S28.2 h = .inr (2, [.int (nI dv), .int (nI t), .int (nI rr)]) := by rw [hpost]; exact (pup_n (ne_cells hf16 hf25 (by nofun))).trans hf16
              have hL32 : a ∈ S28.1 := by rw [hpost]; exact hL17
              have hf33 : S28.2 a = .inr (7, [.ref a1, .int (nI na)]) := by rw [hpost]; exact (pup_n (ne_cells hf18 hf25 (by nofun))).trans hf18
              have hL34 : a1 ∈ S28.1 := by rw [hpost]; exact hL19
              have hf35 : S28.2 a1 = aN (cy 0) Na ga := by rw [hpost]; exact (pup_n (by first | assumption | exact Ne.symm (by assumption))).trans hf20
              have hL36 : b ∈ S28.1 := by rw [hpost]; exact hL21
              have hf37 : S28.2 b = .inr (7, [.ref b1, .int (nI nb)]) := by rw [hpost]; exact (pup_n (ne_cells hf22 hf25 (by nofun))).trans hf22
              have hL38 : b1 ∈ S28.1 := by rw [hpost]; exact hL23
              have hf39 : S28.2 b1 = aN (cy 0) Nb (rnum (rpos (chkF ga na dv t rr) gb nb (k2 * (t + rr) + t)) nb (k2 * (t + rr) + t) (rsN ga na dv t rr (k2 * t) (t + rr)) rr rr) := by rw [hpost]; exact pup_s
              refine lv_iinc (v := (nI (k2 + 1))) (lv' := [(5, .int (nI (k2 + 1))), (6, .int (nI i)), (4, .int (nI (t + rr))), (3, .int (nI (blk na t))), (0, .ref h), (1, .ref a), (2, .ref b)]) hx hb dX2_code_107 hl (k := 1) rfl (by rw [show Int32.ofInt 1 = nI 1 from by decide, nI_add]) (by decide) rfl (fun ls hl => ?_)
              refine lv_goto (tgt := 26) hx hb dX2_code_110 (by decide) ?_
              exact ih26 (k2 + 1) (by omega) S28 H locs ls hL30 hf31 hL32 hf33 hL34 hf35 hL36 hf37 hL38 (by rw [hpost, rpos_num (fun j hj => chkF_2 hj), show (k2 + 1) * (t + rr) = k2 * (t + rr) + t + rr from by rw [Nat.succ_mul]; omega]; exact pup_s) (by omega) (by rw [hpost, hSB, pup_pup, rpos_num (fun j hj => chkF_2 hj), show (k2 + 1) * (t + rr) = k2 * (t + rr) + t + rr from by rw [Nat.succ_mul]; omega]) hw (lv_sub hl [0, 2, 3, 4, 5, 6] rfl)
            · skip
              refine lv_aload_n hx hb dX2_code_44 rfl (lv_at hl 6 rfl) ?_
              refine lv_iload hx hb dX2_code_45 (lv_at hl 1 rfl) ?_
              refine lv_iload hx hb dX2_code_47 (lv_at hl 2 rfl) ?_
              refine n_imul hx hb dX2_code_49 ?_
              refine lv_iload hx hb dX2_code_50 (lv_at hl 0 rfl) ?_
              refine n_iadd hx hb dX2_code_52 ?_
              refine lv_aload_n hx hb dX2_code_53 rfl (lv_at hl 5 rfl) ?_
              refine lv_iload hx hb dX2_code_54 (lv_at hl 1 rfl) ?_
              refine lv_aload_n hx hb dX2_code_56 rfl (lv_at hl 4 rfl) ?_
              refine p_get C hw (ci := 2) (Cn := RX2) (T := TX2) (N := 3) hL15 hf16 rfl hin_RX2 1 (by decide) (List.mem_of_getElem? (i := 1) rfl) rfl rfl dX2_code_57 ?_
              refine n_imul hx hb dX2_code_60 ?_
              refine lv_iload hx hb dX2_code_61 (lv_at hl 0 rfl) ?_
              refine n_iadd hx hb dX2_code_63 ?_
              refine lv_iconst (v := nI 1) hx hb dX2_code_64 (by decide) ?_
              refine p_calli (va_runV (As := [.int (nI ((k2 * t) + i)), .int (nI 1)]) (rest := [.int (nI ((k2 * (t + rr)) + i)), .ref b]) C.fix (c_X7_numberAt l D cy SB H.size a a1 Na na ((k2 * t) + i) 1 ga hL17 hf18 hL19 hf20 hNa hna (by omega) (by omega) hga) (cwV 2 C.2.2.2.2.1 gX2_code_X7_numberAt rfl rfl rfl hdckV_yX7_numberAt_RX7 ⟨Nat.le_of_ble_eq_true rfl, Nat.le_of_ble_eq_true rfl⟩) (p_preV C hw hL17 hf18 rfl) rfl rfl hl.1 rfl (lv_room (Nat.le_of_ble_eq_true rfl)) dX2_code_65 ⟨Nat.le_of_ble_eq_true rfl, Nat.le_of_ble_eq_true rfl⟩) hw hA (fun r41 S40 H locs hpost hw => ?_)
              obtain ⟨hr_, hS_⟩ := hpost
              subst hr_
              subst hS_
              refine p_callv (va_runV (As := [.int (nI ((k2 * (t + rr)) + i)), .int (nI (numAt ga na ((k2 * t) + i) 1))]) (rest := []) C.fix (c_X7_put l D cy SB H.size b b1 Nb nb ((k2 * (t + rr)) + i) (numAt ga na ((k2 * t) + i) 1) (rpos (chkF ga na dv t rr) gb nb (k2 * (t + rr) + i)) hL21 hf22 hL23 hf24 hNb hnb (by omega)) (cwV 2 C.2.2.2.2.1 gX2_code_X7_put rfl rfl rfl hdckV_yX7_put_RX7 ⟨Nat.le_of_ble_eq_true rfl, Nat.le_of_ble_eq_true rfl⟩) (p_preV C hw hL21 hf22 rfl) rfl rfl hl.1 rfl (lv_room (Nat.le_of_ble_eq_true rfl)) dX2_code_68 ⟨Nat.le_of_ble_eq_true rfl, Nat.le_of_ble_eq_true rfl⟩) hw hA (fun S42 H locs hpost hw => ?_)
              have hL44 : h ∈ S42.1 := by rw [hpost]; exact hL15
              have hf45 : S42.2 h = .inr (2, [.int (nI dv), .int (nI t), .int (nI rr)]) := by rw [hpost]; exact (pup_n (ne_cells hf16 hf24 (by nofun))).trans hf16
              have hL46 : a ∈ S42.1 := by rw [hpost]; exact hL17
              have hf47 : S42.2 a = .inr (7, [.ref a1, .int (nI na)]) := by rw [hpost]; exact (pup_n (ne_cells hf18 hf24 (by nofun))).trans hf18
              have hL48 : a1 ∈ S42.1 := by rw [hpost]; exact hL19
              have hf49 : S42.2 a1 = aN (cy 0) Na ga := by rw [hpost]; exact (pup_n (by first | assumption | exact Ne.symm (by assumption))).trans hf20
              have hL50 : b ∈ S42.1 := by rw [hpost]; exact hL21
              have hf51 : S42.2 b = .inr (7, [.ref b1, .int (nI nb)]) := by rw [hpost]; exact (pup_n (ne_cells hf22 hf24 (by nofun))).trans hf22
              have hL52 : b1 ∈ S42.1 := by rw [hpost]; exact hL23
              have hf53 : S42.2 b1 = aN (cy 0) Nb (rput (rpos (chkF ga na dv t rr) gb nb (k2 * (t + rr) + i)) nb (k2 * (t + rr) + i) (numAt ga na (k2 * t + i) 1)) := by rw [hpost]; exact pup_s
              refine lv_iinc (v := (nI (i + 1))) (lv' := [(6, .int (nI (i + 1))), (5, .int (nI k2)), (4, .int (nI (t + rr))), (3, .int (nI (blk na t))), (0, .ref h), (1, .ref a), (2, .ref b)]) hx hb dX2_code_71 hl (k := 0) rfl (by rw [show Int32.ofInt 1 = nI 1 from by decide, nI_add]) (by decide) rfl (fun ls hl => ?_)
              refine lv_goto (tgt := 35) hx hb dX2_code_74 (by decide) ?_
              exact ih35 (i + 1) (by omega) S42 H locs ls hL44 hf45 hL46 hf47 hL48 hf49 hL50 hf51 hL52 (by rw [hpost, rpos_put (chkF_1 h_41)]; exact pup_s) (by omega) (by rw [hpost, hSB, pup_pup, rpos_put (chkF_1 h_41)]; rfl) hw (lv_sub hl [0, 1, 2, 3, 4, 5, 6] rfl)
        exact loop35 (t - 0 + 1) 0 (by omega) SA H locs ls hL5 hf6 hL7 hf8 hL9 hf10 hL11 hf12 hL13 hf14 (Nat.zero_le _) (by exact hSA) hw (lv_sub hl [0, 1, 2, 3, 4, 5, 6] rfl)
  exact loop26 ((blk na t) - 0 + 1) 0 (by omega) S H locs ls hL_h hf_h hL_a hf_a hL_a1 hf_a1 hL_b hf_b hL_b1 (by rw [Nat.zero_mul, rpos_0]; exact hf_b1) (Nat.zero_le _) (by rw [Nat.zero_mul, rpos_0]; exact (pup_self hf_b1).symm) hw (lv_sub hl [0, 1, 2, 3, 4, 5] rfl)

set_option maxHeartbeats 4000000 in
set_option maxRecDepth 100000 in
/-- Check.decode -/
theorem c_X2_decode (l : Launch) (D : va_G) (cy : Nat → ClassId) (S : pS) (sz : Nat) (h dv t rr : Nat) (a a1 Na na b b1 Nb nb : Nat) (ga gb : Nat → Nat) (hL_h : h ∈ S.1) (hf_h : S.2 h = .inr (2, [.int (nI dv), .int (nI t), .int (nI rr)])) (hL_a : a ∈ S.1) (hf_a : S.2 a = .inr (7, [.ref a1, .int (nI na)])) (hL_a1 : a1 ∈ S.1) (hf_a1 : S.2 a1 = aN (cy 0) Na ga) (hL_b : b ∈ S.1) (hf_b : S.2 b = .inr (7, [.ref b1, .int (nI nb)])) (hL_b1 : b1 ∈ S.1) (hf_b1 : S.2 b1 = aN (cy 0) Nb gb) (hd1 : 2 ^ rr ≤ dv) (hd2 : dv < 2 ^ (rr + 1)) (hr8 : rr ≤ 8) (ht0 : 1 ≤ t) (ht : t ≤ 32) (hn4 : nb ≤ 400) (hNa : Na < 2 ^ 27) (hna : na ≤ Na) (hga : ∀ q, ga q ≤ 2) (hNb : Nb < 2 ^ 27) (hnb : nb ≤ Nb) (hgb : ∀ q, gb q ≤ 2) (hne : a1 ≠ b1) : Met l yX2_decode wsX2_decode ({ frames := 1, cells := 0, slots := 0, locals := 22 }) (pPc D cy S sz [.ref h, .ref a, .ref b]) (pQv D cy S sz (fun S' => S' = pup S b1 (aN (cy 0) Nb (rpos (chkD ga na t rr) gb nb (blk nb t * t))))) 0 0 (pA S sz) := by
  refine Met.ofW (cc := cX2_decode) (maxL := 6) (ret := none) (by decide) rfl ?_
  intro p e s m args below meth c s₁ B hml hv
  obtain ⟨rfl, rfl, C, hw, hA, hr, hlocks⟩ := p_start B hml hv
  have hx := C.1
  have hb := C.2.1
  have hl := lv_entry ([.ref h, .ref a, .ref b]) (n := 6) (Nat.le_of_ble_eq_true rfl)
  rw [lg_entry_eq]
  generalize (lg_sl ([.ref h, .ref a, .ref b]) ++ List.replicate (6 - (lg_sl ([.ref h, .ref a, .ref b])).length) Slot.unset).toArray = ls at hl ⊢
  have hl : lv_has ls 6 [(0, .ref h), (1, .ref a), (2, .ref b)] := hl
  have hin_RX2 : ∀ w ∈ u_ws RX2 TX2 3, w ∈ wsX2_decode := by decide +kernel
  refine lv_aload_n hx hb dX2_decode_0 rfl (lv_at hl 2 rfl) ?_
  refine p_calli (va_runV (As := []) (rest := []) C.fix (c_X7_size l D cy S s.heap.size b b1 nb hL_b hf_b) (cwV 0 C.2.2.2.2.1 gX2_decode_X7_size rfl rfl rfl hdckV_yX7_size_RX7 ⟨Nat.le_of_ble_eq_true rfl, Nat.le_of_ble_eq_true rfl⟩) (p_preV C hw hL_b hf_b rfl) rfl rfl hl.1 rfl (lv_room (Nat.le_of_ble_eq_true rfl)) dX2_decode_1 ⟨Nat.le_of_ble_eq_true rfl, Nat.le_of_ble_eq_true rfl⟩) hw hA (fun r2 S1 H locs hpost hw => ?_)
  obtain ⟨hr_, hS_⟩ := hpost
  subst hr_
  subst hS_
  refine lv_aload_n hx hb dX2_decode_4 rfl (lv_at hl 0 rfl) ?_
  refine p_get C hw (ci := 2) (Cn := RX2) (T := TX2) (N := 3) hL_h hf_h rfl hin_RX2 1 (by decide) (List.mem_of_getElem? (i := 1) rfl) rfl rfl dX2_decode_5 ?_
  refine p_calli (va_runSN (As := [.int (nI nb), .int (nI t)]) (rest := []) C.fix (c_X11_blocksOf l D cy S H.size nb t (by omega) (by omega)) ⟨va_cnB 2 C.2.2.2.2.1 gX2_decode_X11_blocksOf_n25 rfl rfl rfl (show va_Nw (.methodLinkNest RX2 25 yX11_blocksOf "SoundingLine") s from C.2.2.2.2.2.2.1 4 (RX2, 25, yX11_blocksOf) rfl) (C.2.2.2.2.1 (.initialized RX11) (List.mem_of_getElem? (i := 10) rfl)) hdckS_yX11_blocksOf ⟨Nat.le_of_ble_eq_true rfl, Nat.le_of_ble_eq_true rfl⟩, C.2.2.2.2.1 (.static yX11_blocksOf) (List.mem_of_getElem? (i := 9) rfl), trivial⟩ (p_preS C hw) rfl rfl hl.1 rfl (lv_room (Nat.le_of_ble_eq_true rfl)) dX2_decode_8 ⟨Nat.le_of_ble_eq_true rfl, Nat.le_of_ble_eq_true rfl⟩) hw hA (fun r4 S3 H locs hpost hw => ?_)
  obtain ⟨hr_, hS_⟩ := hpost
  subst hr_
  subst hS_
  have hbk : blk nb t ≤ 432 := Nat.le_trans (Nat.le_mul_of_pos_right _ ht0) (Nat.le_trans (blk_mul_le ht0) (by omega))
  refine lv_istore_n (lv' := [(3, .int (nI (blk nb t))), (0, .ref h), (1, .ref a), (2, .ref b)]) hx hb dX2_decode_11 rfl hl (by decide) rfl (fun ls hl => ?_)
  refine lv_iconst (v := nI 0) hx hb dX2_decode_12 (by decide) ?_
  refine lv_istore (lv' := [(4, .int (nI 0)), (3, .int (nI (blk nb t))), (0, .ref h), (1, .ref a), (2, .ref b)]) hx hb dX2_decode_13 hl (by decide) rfl (fun ls hl => ?_)
  have loop15 : ∀ (kf : Nat) (k2 : Nat), (blk nb t) - k2 < kf → ∀ (SA : pS), ∀ (H : Heap) (locs : List Loc) (ls : Array Slot), (h ∈ SA.1) → (SA.2 h = .inr (2, [.int (nI dv), .int (nI t), .int (nI rr)])) → (a ∈ SA.1) → (SA.2 a = .inr (7, [.ref a1, .int (nI na)])) → (a1 ∈ SA.1) → (SA.2 a1 = aN (cy 0) Na ga) → (b ∈ SA.1) → (SA.2 b = .inr (7, [.ref b1, .int (nI nb)])) → (b1 ∈ SA.1) → (SA.2 b1 = aN (cy 0) Nb (rpos (chkD ga na t rr) gb nb (k2 * t))) → (k2 ≤ blk nb t) → (SA = pup S b1 (aN (cy 0) Nb (rpos (chkD ga na t rr) gb nb (k2 * t)))) → pW D (pA S s.heap.size) s.heap SA H locs → lv_has ls 6 [(4, .int (nI k2)), (3, .int (nI (blk nb t))), (0, .ref h), (1, .ref a), (2, .ref b)] → W p l e (headSpec wsX2_decode ({ frames := 1, cells := 0, slots := 0, locals := 22 } : Room)).room s m ([.ref h, .ref a, .ref b]).toArray below meth c H locs 0 0 (MQ below (pQv D cy S s.heap.size (fun S' => S' = pup S b1 (aN (cy 0) Nb (rpos (chkD ga na t rr) gb nb (blk nb t * t))))) ([.ref h, .ref a, .ref b]).toArray s 0 0 (pA S s.heap.size)) (F0 m 15 ls []) := by
    intro kf
    induction kf with
    | zero => intro k2 hm; exact absurd hm (Nat.not_lt_zero _)
    | succ kf ih15 =>
      intro k2 hm SA H locs ls hL5 hf6 hL7 hf8 hL9 hf10 hL11 hf12 hL13 hf14 hk hSA hw hl
      refine lv_iload hx hb dX2_decode_15 (lv_at hl 0 rfl) ?_
      refine lv_iload_n hx hb dX2_decode_17 rfl (lv_at hl 1 rfl) ?_
      refine n_icmp_ge (tgt := 78) hx hb (by omega) (by omega) dX2_decode_18 (by decide) (fun h_18 => ?_) (fun h_18 => ?_)
      · skip
        exact p_vret C hw (by rw [hSA, show blk nb t = k2 from by omega]) hr hlocks dX2_decode_78
      · skip
        have hk1 := lt_blk h_18
        have hk2 : k2 * (t + rr) ≤ 432 * 40 := Nat.mul_le_mul (by omega) (by omega)
        refine lv_iconst (v := nI 0) hx hb dX2_decode_21 (by decide) ?_
        refine lv_istore (lv' := [(5, .int (nI 0)), (4, .int (nI k2)), (3, .int (nI (blk nb t))), (0, .ref h), (1, .ref a), (2, .ref b)]) hx hb dX2_decode_22 hl (by decide) rfl (fun ls hl => ?_)
        have loop24 : ∀ (kf : Nat) (i : Nat), t - i < kf → ∀ (SB : pS), ∀ (H : Heap) (locs : List Loc) (ls : Array Slot), (h ∈ SB.1) → (SB.2 h = .inr (2, [.int (nI dv), .int (nI t), .int (nI rr)])) → (a ∈ SB.1) → (SB.2 a = .inr (7, [.ref a1, .int (nI na)])) → (a1 ∈ SB.1) → (SB.2 a1 = aN (cy 0) Na ga) → (b ∈ SB.1) → (SB.2 b = .inr (7, [.ref b1, .int (nI nb)])) → (b1 ∈ SB.1) → (SB.2 b1 = aN (cy 0) Nb (rpos (chkD ga na t rr) gb nb (k2 * t + i))) → (i ≤ t) → (SB = pup S b1 (aN (cy 0) Nb (rpos (chkD ga na t rr) gb nb (k2 * t + i)))) → pW D (pA S s.heap.size) s.heap SB H locs → lv_has ls 6 [(5, .int (nI i)), (4, .int (nI k2)), (3, .int (nI (blk nb t))), (0, .ref h), (1, .ref a), (2, .ref b)] → W p l e (headSpec wsX2_decode ({ frames := 1, cells := 0, slots := 0, locals := 22 } : Room)).room s m ([.ref h, .ref a, .ref b]).toArray below meth c H locs 0 0 (MQ below (pQv D cy S s.heap.size (fun S' => S' = pup S b1 (aN (cy 0) Nb (rpos (chkD ga na t rr) gb nb (blk nb t * t))))) ([.ref h, .ref a, .ref b]).toArray s 0 0 (pA S s.heap.size)) (F0 m 24 ls []) := by
          intro kf
          induction kf with
          | zero => intro i hm; exact absurd hm (Nat.not_lt_zero _)
          | succ kf ih24 =>
            intro i hm SB H locs ls hL15 hf16 hL17 hf18 hL19 hf20 hL21 hf22 hL23 hf24 hi hSB hw hl
            refine lv_iload hx hb dX2_decode_24 (lv_at hl 0 rfl) ?_
            refine lv_aload_n hx hb dX2_decode_26 rfl (lv_at hl 3 rfl) ?_
            refine p_get C hw (ci := 2) (Cn := RX2) (T := TX2) (N := 3) hL15 hf16 rfl hin_RX2 1 (by decide) (List.mem_of_getElem? (i := 1) rfl) rfl rfl dX2_decode_27 ?_
            refine n_icmp_ge (tgt := 72) hx hb (by omega) (by omega) dX2_decode_30 (by decide) (fun h_30 => ?_) (fun h_30 => ?_)
            · skip
              refine lv_iinc (v := (nI (k2 + 1))) (lv' := [(4, .int (nI (k2 + 1))), (5, .int (nI i)), (3, .int (nI (blk nb t))), (0, .ref h), (1, .ref a), (2, .ref b)]) hx hb dX2_decode_72 hl (k := 1) rfl (by rw [show Int32.ofInt 1 = nI 1 from by decide, nI_add]) (by decide) rfl (fun ls hl => ?_)
              refine lv_goto (tgt := 15) hx hb dX2_decode_75 (by decide) ?_
              exact ih15 (k2 + 1) (by omega) SB H locs ls hL15 hf16 hL17 hf18 hL19 hf20 hL21 hf22 hL23 (by rw [show (k2 + 1) * t = k2 * t + i from by rw [Nat.succ_mul]; omega]; assumption) (by omega) (by rw [hSB, show (k2 + 1) * t = k2 * t + i from by rw [Nat.succ_mul]; omega]) hw (lv_sub hl [0, 2, 3, 4, 5] rfl)
            · skip
              refine lv_aload_n hx hb dX2_decode_33 rfl (lv_at hl 5 rfl) ?_
              refine lv_iload hx hb dX2_decode_34 (lv_at hl 1 rfl) ?_
              refine lv_aload_n hx hb dX2_decode_36 rfl (lv_at hl 3 rfl) ?_
              refine p_get C hw (ci := 2) (Cn := RX2) (T := TX2) (N := 3) hL15 hf16 rfl hin_RX2 1 (by decide) (List.mem_of_getElem? (i := 1) rfl) rfl rfl dX2_decode_37 ?_
              refine n_imul hx hb dX2_decode_40 ?_
              refine lv_iload hx hb dX2_decode_41 (lv_at hl 0 rfl) ?_
              refine n_iadd hx hb dX2_decode_43 ?_
              refine lv_aload_n hx hb dX2_decode_44 rfl (lv_at hl 4 rfl) ?_
              refine lv_iload hx hb dX2_decode_45 (lv_at hl 1 rfl) ?_
              refine lv_aload_n hx hb dX2_decode_47 rfl (lv_at hl 3 rfl) ?_
              refine p_get C hw (ci := 2) (Cn := RX2) (T := TX2) (N := 3) hL15 hf16 rfl hin_RX2 1 (by decide) (List.mem_of_getElem? (i := 1) rfl) rfl rfl dX2_decode_48 ?_
              refine lv_aload_n hx hb dX2_decode_51 rfl (lv_at hl 3 rfl) ?_
              refine p_get C hw (ci := 2) (Cn := RX2) (T := TX2) (N := 3) hL15 hf16 rfl hin_RX2 2 (by decide) (List.mem_of_getElem? (i := 2) rfl) rfl rfl dX2_decode_52 ?_
              refine n_iadd hx hb dX2_decode_55 ?_
              refine n_imul hx hb dX2_decode_56 ?_
              refine lv_iload hx hb dX2_decode_57 (lv_at hl 0 rfl) ?_
              refine n_iadd hx hb dX2_decode_59 ?_
              refine p_calli (va_runV (As := [.int (nI ((k2 * (t + rr)) + i))]) (rest := [.int (nI ((k2 * t) + i)), .ref b]) C.fix (c_X7_get l D cy SB H.size a a1 Na na ((k2 * (t + rr)) + i) ga hL17 hf18 hL19 hf20 hNa hna (by omega)) (cwV 1 C.2.2.2.2.1 gX2_decode_X7_get rfl rfl rfl hdckV_yX7_get_RX7 ⟨Nat.le_of_ble_eq_true rfl, Nat.le_of_ble_eq_true rfl⟩) (p_preV C hw hL17 hf18 rfl) rfl rfl hl.1 rfl (lv_room (Nat.le_of_ble_eq_true rfl)) dX2_decode_60 ⟨Nat.le_of_ble_eq_true rfl, Nat.le_of_ble_eq_true rfl⟩) hw hA (fun r26 S25 H locs hpost hw => ?_)
              obtain ⟨hr_, hS_⟩ := hpost
              subst hr_
              subst hS_
              refine p_callv (va_runV (As := [.int (nI ((k2 * t) + i)), .int (nI (rg ga na ((k2 * (t + rr)) + i)))]) (rest := []) C.fix (c_X7_put l D cy SB H.size b b1 Nb nb ((k2 * t) + i) (rg ga na ((k2 * (t + rr)) + i)) (rpos (chkD ga na t rr) gb nb (k2 * t + i)) hL21 hf22 hL23 hf24 hNb hnb (by omega)) (cwV 2 C.2.2.2.2.1 gX2_decode_X7_put rfl rfl rfl hdckV_yX7_put_RX7 ⟨Nat.le_of_ble_eq_true rfl, Nat.le_of_ble_eq_true rfl⟩) (p_preV C hw hL21 hf22 rfl) rfl rfl hl.1 rfl (lv_room (Nat.le_of_ble_eq_true rfl)) dX2_decode_63 ⟨Nat.le_of_ble_eq_true rfl, Nat.le_of_ble_eq_true rfl⟩) hw hA (fun S27 H locs hpost hw => ?_)
              have hL29 : h ∈ S27.1 := by rw [hpost]; exact hL15
              have hf30 : S27.2 h = .inr (2, [.int (nI dv), .int (nI t), .int (nI rr)]) := by rw [hpost]; exact (pup_n (ne_cells hf16 hf24 (by nofun))).trans hf16
              have hL31 : a ∈ S27.1 := by rw [hpost]; exact hL17
              have hf32 : S27.2 a = .inr (7, [.ref a1, .int (nI na)]) := by rw [hpost]; exact (pup_n (ne_cells hf18 hf24 (by nofun))).trans hf18
              have hL33 : a1 ∈ S27.1 := by rw [hpost]; exact hL19
              have hf34 : S27.2 a1 = aN (cy 0) Na ga := by rw [hpost]; exact (pup_n (by first | assumption | exact Ne.symm (by assumption))).trans hf20
              have hL35 : b ∈ S27.1 := by rw [hpost]; exact hL21
              have hf36 : S27.2 b = .inr (7, [.ref b1, .int (nI nb)]) := by rw [hpost]; exact (pup_n (ne_cells hf22 hf24 (by nofun))).trans hf22
              have hL37 : b1 ∈ S27.1 := by rw [hpost]; exact hL23
              have hf38 : S27.2 b1 = aN (cy 0) Nb (rput (rpos (chkD ga na t rr) gb nb (k2 * t + i)) nb (k2 * t + i) (rg ga na (k2 * (t + rr) + i))) := by rw [hpost]; exact pup_s
              refine lv_iinc (v := (nI (i + 1))) (lv' := [(5, .int (nI (i + 1))), (4, .int (nI k2)), (3, .int (nI (blk nb t))), (0, .ref h), (1, .ref a), (2, .ref b)]) hx hb dX2_decode_66 hl (k := 0) rfl (by rw [show Int32.ofInt 1 = nI 1 from by decide, nI_add]) (by decide) rfl (fun ls hl => ?_)
              refine lv_goto (tgt := 24) hx hb dX2_decode_69 (by decide) ?_
              exact ih24 (i + 1) (by omega) S27 H locs ls hL29 hf30 hL31 hf32 hL33 hf34 hL35 hf36 hL37 (by rw [hpost, rpos_put (chkD_1 h_30)]; exact pup_s) (by omega) (by rw [hpost, hSB, pup_pup, rpos_put (chkD_1 h_30)]; rfl) hw (lv_sub hl [0, 1, 2, 3, 4, 5] rfl)
        exact loop24 (t - 0 + 1) 0 (by omega) SA H locs ls hL5 hf6 hL7 hf8 hL9 hf10 hL11 hf12 hL13 hf14 (Nat.zero_le _) (by exact hSA) hw (lv_sub hl [0, 1, 2, 3, 4, 5] rfl)
  exact loop15 ((blk nb t) - 0 + 1) 0 (by omega) S H locs ls hL_h hf_h hL_a hf_a hL_a1 hf_a1 hL_b hf_b hL_b1 (by rw [Nat.zero_mul, rpos_0]; exact hf_b1) (Nat.zero_le _) (by rw [Nat.zero_mul, rpos_0]; exact (pup_self hf_b1).symm) hw (lv_sub hl [0, 1, 2, 3, 4] rfl)

set_option maxHeartbeats 4000000 in
set_option maxRecDepth 100000 in
/-- Check.isDamaged -/
theorem c_X2_isDamaged (l : Launch) (D : va_G) (cy : Nat → ClassId) (S : pS) (sz : Nat) (h dv t rr : Nat) (a a1 Na na sa : Nat) (ga : Nat → Nat) (hL_h : h ∈ S.1) (hf_h : S.2 h = .inr (2, [.int (nI dv), .int (nI t), .int (nI rr)])) (hL_a : a ∈ S.1) (hf_a : S.2 a = .inr (7, [.ref a1, .int (nI na)])) (hL_a1 : a1 ∈ S.1) (hf_a1 : S.2 a1 = aN (cy 0) Na ga) (hd1 : 2 ^ rr ≤ dv) (hd2 : dv < 2 ^ (rr + 1)) (hr8 : rr ≤ 8) (ht0 : 1 ≤ t) (ht : t ≤ 32) (hs : sa < 2 ^ 20) (hNa : Na < 2 ^ 27) (hna : na ≤ Na) (hga : ∀ q, ga q ≤ 2) : Met l yX2_isDamaged wsX2_isDamaged ({ frames := 2, cells := 0, slots := 0, locals := 46 }) (pPc D cy S sz [.ref h, .ref a, .int (nI sa)]) (pQi D cy S sz (fun r S' => r = nI (if damB ga na dv t rr sa = true then 1 else 0) ∧ S = S')) 0 0 (pA S sz) := by
  refine Met.ofW (cc := cX2_isDamaged) (maxL := 4) (ret := (some .boolean)) (by decide) rfl ?_
  intro p e s m args below meth c s₁ B hml hv
  obtain ⟨rfl, rfl, C, hw, hA, hr, hlocks⟩ := p_start B hml hv
  have hx := C.1
  have hb := C.2.1
  have hl := lv_entry ([.ref h, .ref a, .int (nI sa)]) (n := 4) (Nat.le_of_ble_eq_true rfl)
  rw [lg_entry_eq]
  generalize (lg_sl ([.ref h, .ref a, .int (nI sa)]) ++ List.replicate (4 - (lg_sl ([.ref h, .ref a, .int (nI sa)])).length) Slot.unset).toArray = ls at hl ⊢
  have hl : lv_has ls 4 [(0, .ref h), (1, .ref a), (2, .int (nI sa))] := hl
  have hin_RX2 : ∀ w ∈ u_ws RX2 TX2 3, w ∈ wsX2_isDamaged := by decide +kernel
  have h2r := two_pow_8 hr8
  refine lv_iconst (v := nI 0) hx hb dX2_isDamaged_0 (by decide) ?_
  refine lv_istore_n (lv' := [(3, .int (nI 0)), (0, .ref h), (1, .ref a), (2, .int (nI sa))]) hx hb dX2_isDamaged_1 rfl hl (by decide) rfl (fun ls hl => ?_)
  have loop2 : ∀ (kf : Nat) (i : Nat), (t + rr) - i < kf → ∀ (H : Heap) (locs : List Loc) (ls : Array Slot),  (i ≤ t + rr) → (anyL ga na sa i = false) → pW D (pA S s.heap.size) s.heap S H locs → lv_has ls 4 [(3, .int (nI i)), (0, .ref h), (1, .ref a), (2, .int (nI sa))] → W p l e (headSpec wsX2_isDamaged ({ frames := 2, cells := 0, slots := 0, locals := 46 } : Room)).room s m ([.ref h, .ref a, .int (nI sa)]).toArray below meth c H locs 0 0 (MQ below (pQi D cy S s.heap.size (fun r S' => r = nI (if damB ga na dv t rr sa = true then 1 else 0) ∧ S = S')) ([.ref h, .ref a, .int (nI sa)]).toArray s 0 0 (pA S s.heap.size)) (F0 m 2 ls []) := by
    intro kf
    induction kf with
    | zero => intro i hm; exact absurd hm (Nat.not_lt_zero _)
    | succ kf ih2 =>
      intro i hm  H locs ls  hi hany hw hl
      refine lv_iload_n hx hb dX2_isDamaged_2 rfl (lv_at hl 0 rfl) ?_
      refine lv_aload_n hx hb dX2_isDamaged_3 rfl (lv_at hl 1 rfl) ?_
      refine p_get C hw (ci := 2) (Cn := RX2) (T := TX2) (N := 3) hL_h hf_h rfl hin_RX2 1 (by decide) (List.mem_of_getElem? (i := 1) rfl) rfl rfl dX2_isDamaged_4 ?_
      refine lv_aload_n hx hb dX2_isDamaged_7 rfl (lv_at hl 1 rfl) ?_
      refine p_get C hw (ci := 2) (Cn := RX2) (T := TX2) (N := 3) hL_h hf_h rfl hin_RX2 2 (by decide) (List.mem_of_getElem? (i := 2) rfl) rfl rfl dX2_isDamaged_8 ?_
      refine n_iadd hx hb dX2_isDamaged_11 ?_
      refine n_icmp_ge (tgt := 34) hx hb (by omega) (by omega) dX2_isDamaged_12 (by decide) (fun h_12 => ?_) (fun h_12 => ?_)
      · skip
        refine lv_aload_n hx hb dX2_isDamaged_34 rfl (lv_at hl 1 rfl) ?_
        refine lv_aload_n hx hb dX2_isDamaged_35 rfl (lv_at hl 2 rfl) ?_
        refine lv_iload_n hx hb dX2_isDamaged_36 rfl (lv_at hl 3 rfl) ?_
        refine p_calli (va_runV (As := [.ref a, .int (nI sa)]) (rest := []) C.fix (c_X2_restOf l D cy S H.size h dv t rr a a1 Na na sa ga hL_h hf_h hL_a hf_a hL_a1 hf_a1 hd1 hd2 hr8 ht0 ht (by omega) hNa hna hga) (cwV 2 C.2.2.2.2.1 gX2_isDamaged_X2_restOf rfl rfl rfl hdckV_yX2_restOf_RX2 ⟨Nat.le_of_ble_eq_true rfl, Nat.le_of_ble_eq_true rfl⟩) (p_preV C hw hL_h hf_h rfl) rfl rfl hl.1 rfl (lv_room (Nat.le_of_ble_eq_true rfl)) dX2_isDamaged_37 ⟨Nat.le_of_ble_eq_true rfl, Nat.le_of_ble_eq_true rfl⟩) hw hA (fun r2 S1 H locs hpost hw => ?_)
        obtain ⟨hr_, hS_⟩ := hpost
        subst hr_
        subst hS_
        have hrs := rsN_lt (ga := ga) (na := na) (t := t) (st := sa) hd1 hd2 (t + rr)
        refine lv_aload_n hx hb dX2_isDamaged_40 rfl (lv_at hl 2 rfl) ?_
        refine lv_iload_n hx hb dX2_isDamaged_41 rfl (lv_at hl 3 rfl) ?_
        refine lv_aload_n hx hb dX2_isDamaged_42 rfl (lv_at hl 1 rfl) ?_
        refine p_get C hw (ci := 2) (Cn := RX2) (T := TX2) (N := 3) hL_h hf_h rfl hin_RX2 1 (by decide) (List.mem_of_getElem? (i := 1) rfl) rfl rfl dX2_isDamaged_43 ?_
        refine n_iadd hx hb dX2_isDamaged_46 ?_
        refine lv_aload_n hx hb dX2_isDamaged_47 rfl (lv_at hl 1 rfl) ?_
        refine p_get C hw (ci := 2) (Cn := RX2) (T := TX2) (N := 3) hL_h hf_h rfl hin_RX2 2 (by decide) (List.mem_of_getElem? (i := 2) rfl) rfl rfl dX2_isDamaged_48 ?_
        refine p_calli (va_runV (As := [.int (nI (sa + t)), .int (nI rr)]) (rest := [.int (nI (rsN ga na dv t rr sa (t + rr)))]) C.fix (c_X7_numberAt l D cy S H.size a a1 Na na (sa + t) rr ga hL_a hf_a hL_a1 hf_a1 hNa hna (by omega) (by omega) hga) (cwV 2 C.2.2.2.2.1 gX2_isDamaged_X7_numberAt rfl rfl rfl hdckV_yX7_numberAt_RX7 ⟨Nat.le_of_ble_eq_true rfl, Nat.le_of_ble_eq_true rfl⟩) (p_preV C hw hL_a hf_a rfl) rfl rfl hl.1 rfl (lv_room (Nat.le_of_ble_eq_true rfl)) dX2_isDamaged_51 ⟨Nat.le_of_ble_eq_true rfl, Nat.le_of_ble_eq_true rfl⟩) hw hA (fun r4 S3 H locs hpost hw => ?_)
        obtain ⟨hr_, hS_⟩ := hpost
        subst hr_
        subst hS_
        have hnbb := numAt_b (g := ga) (n := na) (j := sa + t) (k := rr) (by omega)
        refine n_icmp_eq (tgt := 61) hx hb (by omega) (by omega) dX2_isDamaged_54 (by decide) (fun h_54 => ?_) (fun h_54 => ?_)
        · skip
          have hB : damB ga na dv t rr sa = false := by unfold damB; rw [show t + rr = i from by omega, hany, show i = t + rr from by omega]; simp [h_54]
          refine lv_iconst (v := nI 0) hx hb dX2_isDamaged_61 (by decide) ?_
          exact p_zret C hw ⟨by rw [hB]; rfl, rfl⟩ hr rfl hlocks dX2_isDamaged_62
        · skip
          have hB : damB ga na dv t rr sa = true := by unfold damB; rw [Bool.or_eq_true]; exact Or.inr (decide_eq_true h_54)
          refine lv_iconst (v := nI 1) hx hb dX2_isDamaged_57 (by decide) ?_
          refine lv_goto (tgt := 62) hx hb dX2_isDamaged_58 (by decide) ?_
          exact p_zret C hw ⟨by rw [hB]; rfl, rfl⟩ hr rfl hlocks dX2_isDamaged_62
      · skip
        refine lv_aload_n hx hb dX2_isDamaged_15 rfl (lv_at hl 2 rfl) ?_
        refine lv_iload_n hx hb dX2_isDamaged_16 rfl (lv_at hl 3 rfl) ?_
        refine lv_iload_n hx hb dX2_isDamaged_17 rfl (lv_at hl 0 rfl) ?_
        refine n_iadd hx hb dX2_isDamaged_18 ?_
        refine p_calli (va_runV (As := [.int (nI (sa + i))]) (rest := []) C.fix (c_X7_get l D cy S H.size a a1 Na na (sa + i) ga hL_a hf_a hL_a1 hf_a1 hNa hna (by omega)) (cwV 1 C.2.2.2.2.1 gX2_isDamaged_X7_get rfl rfl rfl hdckV_yX7_get_RX7 ⟨Nat.le_of_ble_eq_true rfl, Nat.le_of_ble_eq_true rfl⟩) (p_preV C hw hL_a hf_a rfl) rfl rfl hl.1 rfl (lv_room (Nat.le_of_ble_eq_true rfl)) dX2_isDamaged_19 ⟨Nat.le_of_ble_eq_true rfl, Nat.le_of_ble_eq_true rfl⟩) hw hA (fun r6 S5 H locs hpost hw => ?_)
        obtain ⟨hr_, hS_⟩ := hpost
        subst hr_
        subst hS_
        refine lv_iconst (v := nI 2) hx hb dX2_isDamaged_22 (by decide) ?_
        refine n_icmp_ne (tgt := 28) hx hb (by have := rg_le hga na (sa + i); omega) (by omega) dX2_isDamaged_23 (by decide) (fun h_23 => ?_) (fun h_23 => ?_)
        · skip
          refine lv_iinc (v := (nI (i + 1))) (lv' := [(3, .int (nI (i + 1))), (0, .ref h), (1, .ref a), (2, .int (nI sa))]) hx hb dX2_isDamaged_28 hl (k := 0) rfl (by rw [show Int32.ofInt 1 = nI 1 from by decide, nI_add]) (by decide) rfl (fun ls hl => ?_)
          refine lv_goto (tgt := 2) hx hb dX2_isDamaged_31 (by decide) ?_
          exact ih2 (i + 1) (by omega)  H locs ls  (by omega) (anyL_f hany h_23) hw (lv_sub hl [0, 1, 2, 3] rfl)
        · skip
          refine lv_iconst (v := nI 1) hx hb dX2_isDamaged_26 (by decide) ?_
          exact p_zret C hw ⟨by rw [if_pos (by unfold damB; rw [anyL_t h_23 (by omega)]; rfl)], rfl⟩ hr rfl hlocks dX2_isDamaged_27
  exact loop2 ((t + rr) - 0 + 1) 0 (by omega)  s.heap [] ls  (Nat.zero_le _) rfl hw (lv_sub hl [0, 1, 2, 3] rfl)

theorem hdckV_yX2_isDamaged_RX2 : yX2_isDamaged.cls = RX2 ∧ yX2_isDamaged.cls ≠ "java/lang/invoke/MethodHandle" ∧ yX2_isDamaged.cls ≠ "java/lang/invoke/VarHandle" ∧ (parseMethodDescriptor yX2_isDamaged.desc).map (fun d => d.parameters.length) = some 2 := by decide +kernel
set_option maxHeartbeats 4000000 in
set_option maxRecDepth 100000 in
/-- Check.damagedIn -/
theorem c_X2_damagedIn (l : Launch) (D : va_G) (cy : Nat → ClassId) (S : pS) (sz : Nat) (h dv t rr : Nat) (a a1 Na na : Nat) (ga : Nat → Nat) (hL_h : h ∈ S.1) (hf_h : S.2 h = .inr (2, [.int (nI dv), .int (nI t), .int (nI rr)])) (hL_a : a ∈ S.1) (hf_a : S.2 a = .inr (7, [.ref a1, .int (nI na)])) (hL_a1 : a1 ∈ S.1) (hf_a1 : S.2 a1 = aN (cy 0) Na ga) (hd1 : 2 ^ rr ≤ dv) (hd2 : dv < 2 ^ (rr + 1)) (hr8 : rr ≤ 8) (ht0 : 1 ≤ t) (ht : t ≤ 32) (hn4 : na ≤ 400) (hNa : Na < 2 ^ 27) (hna : na ≤ Na) (hga : ∀ q, ga q ≤ 2) : Met l yX2_damagedIn wsX2_damagedIn ({ frames := 3, cells := 0, slots := 0, locals := 69 }) (pPc D cy S sz [.ref h, .ref a]) (pQi D cy S sz (fun r S' => r = nI (cnt (damK ga na dv t rr) (blk na (t + rr))) ∧ S = S')) 0 0 (pA S sz) := by
  refine Met.ofW (cc := cX2_damagedIn) (maxL := 5) (ret := (some .int)) (by decide) rfl ?_
  intro p e s m args below meth c s₁ B hml hv
  obtain ⟨rfl, rfl, C, hw, hA, hr, hlocks⟩ := p_start B hml hv
  have hx := C.1
  have hb := C.2.1
  have hl := lv_entry ([.ref h, .ref a]) (n := 5) (Nat.le_of_ble_eq_true rfl)
  rw [lg_entry_eq]
  generalize (lg_sl ([.ref h, .ref a]) ++ List.replicate (5 - (lg_sl ([.ref h, .ref a])).length) Slot.unset).toArray = ls at hl ⊢
  have hl : lv_has ls 5 [(0, .ref h), (1, .ref a)] := hl
  have hin_RX2 : ∀ w ∈ u_ws RX2 TX2 3, w ∈ wsX2_damagedIn := by decide +kernel
  refine lv_aload_n hx hb dX2_damagedIn_0 rfl (lv_at hl 1 rfl) ?_
  refine p_calli (va_runV (As := []) (rest := []) C.fix (c_X7_size l D cy S s.heap.size a a1 na hL_a hf_a) (cwV 0 C.2.2.2.2.1 gX2_damagedIn_X7_size rfl rfl rfl hdckV_yX7_size_RX7 ⟨Nat.le_of_ble_eq_true rfl, Nat.le_of_ble_eq_true rfl⟩) (p_preV C hw hL_a hf_a rfl) rfl rfl hl.1 rfl (lv_room (Nat.le_of_ble_eq_true rfl)) dX2_damagedIn_1 ⟨Nat.le_of_ble_eq_true rfl, Nat.le_of_ble_eq_true rfl⟩) hw hA (fun r2 S1 H locs hpost hw => ?_)
  obtain ⟨hr_, hS_⟩ := hpost
  subst hr_
  subst hS_
  refine lv_aload_n hx hb dX2_damagedIn_4 rfl (lv_at hl 0 rfl) ?_
  refine p_get C hw (ci := 2) (Cn := RX2) (T := TX2) (N := 3) hL_h hf_h rfl hin_RX2 1 (by decide) (List.mem_of_getElem? (i := 1) rfl) rfl rfl dX2_damagedIn_5 ?_
  refine lv_aload_n hx hb dX2_damagedIn_8 rfl (lv_at hl 0 rfl) ?_
  refine p_get C hw (ci := 2) (Cn := RX2) (T := TX2) (N := 3) hL_h hf_h rfl hin_RX2 2 (by decide) (List.mem_of_getElem? (i := 2) rfl) rfl rfl dX2_damagedIn_9 ?_
  refine n_iadd hx hb dX2_damagedIn_12 ?_
  refine p_calli (va_runSN (As := [.int (nI na), .int (nI (t + rr))]) (rest := []) C.fix (c_X11_blocksOf l D cy S H.size na (t + rr) (by omega) (by omega)) ⟨va_cnB 2 C.2.2.2.2.1 gX2_damagedIn_X11_blocksOf_n25 rfl rfl rfl (show va_Nw (.methodLinkNest RX2 25 yX11_blocksOf "SoundingLine") s from C.2.2.2.2.2.2.1 4 (RX2, 25, yX11_blocksOf) rfl) (C.2.2.2.2.1 (.initialized RX11) (List.mem_of_getElem? (i := 10) rfl)) hdckS_yX11_blocksOf ⟨Nat.le_of_ble_eq_true rfl, Nat.le_of_ble_eq_true rfl⟩, C.2.2.2.2.1 (.static yX11_blocksOf) (List.mem_of_getElem? (i := 9) rfl), trivial⟩ (p_preS C hw) rfl rfl hl.1 rfl (lv_room (Nat.le_of_ble_eq_true rfl)) dX2_damagedIn_13 ⟨Nat.le_of_ble_eq_true rfl, Nat.le_of_ble_eq_true rfl⟩) hw hA (fun r4 S3 H locs hpost hw => ?_)
  obtain ⟨hr_, hS_⟩ := hpost
  subst hr_
  subst hS_
  have hbk : blk na (t + rr) ≤ 440 := Nat.le_trans (Nat.le_mul_of_pos_right _ (show 0 < t + rr by omega)) (Nat.le_trans (blk_mul_le (by omega)) (by omega))
  refine lv_istore_n (lv' := [(2, .int (nI (blk na (t + rr)))), (0, .ref h), (1, .ref a)]) hx hb dX2_damagedIn_16 rfl hl (by decide) rfl (fun ls hl => ?_)
  refine lv_iconst (v := nI 0) hx hb dX2_damagedIn_17 (by decide) ?_
  refine lv_istore_n (lv' := [(3, .int (nI 0)), (2, .int (nI (blk na (t + rr)))), (0, .ref h), (1, .ref a)]) hx hb dX2_damagedIn_18 rfl hl (by decide) rfl (fun ls hl => ?_)
  refine lv_iconst (v := nI 0) hx hb dX2_damagedIn_19 (by decide) ?_
  refine lv_istore (lv' := [(4, .int (nI 0)), (3, .int (nI 0)), (2, .int (nI (blk na (t + rr)))), (0, .ref h), (1, .ref a)]) hx hb dX2_damagedIn_20 hl (by decide) rfl (fun ls hl => ?_)
  have loop22 : ∀ (kf : Nat) (k2 : Nat), (blk na (t + rr)) - k2 < kf → ∀ (H : Heap) (locs : List Loc) (ls : Array Slot),  (k2 ≤ blk na (t + rr)) → pW D (pA S s.heap.size) s.heap S H locs → lv_has ls 5 [(4, .int (nI k2)), (3, .int (nI (cnt (damK ga na dv t rr) k2))), (2, .int (nI (blk na (t + rr)))), (0, .ref h), (1, .ref a)] → W p l e (headSpec wsX2_damagedIn ({ frames := 3, cells := 0, slots := 0, locals := 69 } : Room)).room s m ([.ref h, .ref a]).toArray below meth c H locs 0 0 (MQ below (pQi D cy S s.heap.size (fun r S' => r = nI (cnt (damK ga na dv t rr) (blk na (t + rr))) ∧ S = S')) ([.ref h, .ref a]).toArray s 0 0 (pA S s.heap.size)) (F0 m 22 ls []) := by
    intro kf
    induction kf with
    | zero => intro k2 hm; exact absurd hm (Nat.not_lt_zero _)
    | succ kf ih22 =>
      intro k2 hm  H locs ls  hk hw hl
      refine lv_iload hx hb dX2_damagedIn_22 (lv_at hl 0 rfl) ?_
      refine lv_iload_n hx hb dX2_damagedIn_24 rfl (lv_at hl 2 rfl) ?_
      refine n_icmp_ge (tgt := 57) hx hb (by omega) (by omega) dX2_damagedIn_25 (by decide) (fun h_25 => ?_) (fun h_25 => ?_)
      · skip
        refine lv_iload_n hx hb dX2_damagedIn_57 rfl (lv_at hl 1 rfl) ?_
        exact p_iret C hw ⟨by rw [show blk na (t + rr) = k2 from by omega], rfl⟩ hr hlocks dX2_damagedIn_58
      · skip
        have hk1 := lt_blk h_25
        refine lv_aload_n hx hb dX2_damagedIn_28 rfl (lv_at hl 3 rfl) ?_
        refine lv_aload_n hx hb dX2_damagedIn_29 rfl (lv_at hl 4 rfl) ?_
        refine lv_iload hx hb dX2_damagedIn_30 (lv_at hl 0 rfl) ?_
        refine lv_aload_n hx hb dX2_damagedIn_32 rfl (lv_at hl 3 rfl) ?_
        refine p_get C hw (ci := 2) (Cn := RX2) (T := TX2) (N := 3) hL_h hf_h rfl hin_RX2 1 (by decide) (List.mem_of_getElem? (i := 1) rfl) rfl rfl dX2_damagedIn_33 ?_
        refine lv_aload_n hx hb dX2_damagedIn_36 rfl (lv_at hl 3 rfl) ?_
        refine p_get C hw (ci := 2) (Cn := RX2) (T := TX2) (N := 3) hL_h hf_h rfl hin_RX2 2 (by decide) (List.mem_of_getElem? (i := 2) rfl) rfl rfl dX2_damagedIn_37 ?_
        refine n_iadd hx hb dX2_damagedIn_40 ?_
        refine n_imul hx hb dX2_damagedIn_41 ?_
        refine p_calli (va_runV (As := [.ref a, .int (nI (k2 * (t + rr)))]) (rest := []) C.fix (c_X2_isDamaged l D cy S H.size h dv t rr a a1 Na na (k2 * (t + rr)) ga hL_h hf_h hL_a hf_a hL_a1 hf_a1 hd1 hd2 hr8 ht0 ht (by omega) hNa hna hga) (cwV 2 C.2.2.2.2.1 gX2_damagedIn_X2_isDamaged rfl rfl rfl hdckV_yX2_isDamaged_RX2 ⟨Nat.le_of_ble_eq_true rfl, Nat.le_of_ble_eq_true rfl⟩) (p_preV C hw hL_h hf_h rfl) rfl rfl hl.1 rfl (lv_room (Nat.le_of_ble_eq_true rfl)) dX2_damagedIn_42 ⟨Nat.le_of_ble_eq_true rfl, Nat.le_of_ble_eq_true rfl⟩) hw hA (fun r6 S5 H locs hpost hw => ?_)
        obtain ⟨hr_, hS_⟩ := hpost
        subst hr_
        subst hS_
        refine n_if_eq (tgt := 51) hx hb (by split <;> omega) dX2_damagedIn_45 (by decide) (fun h_45 => ?_) (fun h_45 => ?_)
        · skip
          have hdk : damK ga na dv t rr k2 = false := by unfold damK; revert h_45; cases damB ga na dv t rr (k2 * (t + rr)) <;> simp
          rw [← cnt_f hdk] at hl
          refine lv_iinc (v := (nI (k2 + 1))) (lv' := [(4, .int (nI (k2 + 1))), (3, .int (nI (cnt (damK ga na dv t rr) (k2 + 1)))), (2, .int (nI (blk na (t + rr)))), (0, .ref h), (1, .ref a)]) hx hb dX2_damagedIn_51 hl (k := 0) rfl (by rw [show Int32.ofInt 1 = nI 1 from by decide, nI_add]) (by decide) rfl (fun ls hl => ?_)
          refine lv_goto (tgt := 22) hx hb dX2_damagedIn_54 (by decide) ?_
          exact ih22 (k2 + 1) (by omega)  H locs ls  (by omega) hw (lv_sub hl [0, 1, 2, 3, 4] rfl)
        · skip
          have hdk : damK ga na dv t rr k2 = true := by unfold damK; revert h_45; cases damB ga na dv t rr (k2 * (t + rr)) <;> simp
          refine lv_iinc (v := (nI (cnt (damK ga na dv t rr) (k2 + 1)))) (lv' := [(3, .int (nI (cnt (damK ga na dv t rr) (k2 + 1)))), (4, .int (nI k2)), (2, .int (nI (blk na (t + rr)))), (0, .ref h), (1, .ref a)]) hx hb dX2_damagedIn_48 hl (k := 1) rfl (by rw [show Int32.ofInt 1 = nI 1 from by decide, nI_add, ← cnt_t hdk]) (by decide) rfl (fun ls hl => ?_)
          refine lv_iinc (v := (nI (k2 + 1))) (lv' := [(4, .int (nI (k2 + 1))), (3, .int (nI (cnt (damK ga na dv t rr) (k2 + 1)))), (2, .int (nI (blk na (t + rr)))), (0, .ref h), (1, .ref a)]) hx hb dX2_damagedIn_51 hl (k := 1) rfl (by rw [show Int32.ofInt 1 = nI 1 from by decide, nI_add]) (by decide) rfl (fun ls hl => ?_)
          refine lv_goto (tgt := 22) hx hb dX2_damagedIn_54 (by decide) ?_
          exact ih22 (k2 + 1) (by omega)  H locs ls  (by omega) hw (lv_sub hl [0, 1, 2, 3, 4] rfl)
  exact loop22 ((blk na (t + rr)) - 0 + 1) 0 (by omega)  H locs ls  (Nat.zero_le _) hw (lv_sub hl [0, 1, 2, 3, 4] rfl)
