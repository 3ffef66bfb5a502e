theorem hdtrS_yJ6_bitCount_0f7a4 : yJ6_bitCount_0f7a4.cls ≠ "java/lang/invoke/MethodHandle" ∧ yJ6_bitCount_0f7a4.cls ≠ "java/lang/invoke/VarHandle" ∧ (parseMethodDescriptor yJ6_bitCount_0f7a4.desc).map (fun d => d.parameters.length) = some 1 := by decide +kernel
set_option maxHeartbeats 4000000 in
set_option maxRecDepth 100000 in
/-- Trail.parity -/
theorem c_X9_parity (l : Launch) (D : va_G) (cy : Nat → ClassId) (S : pS) (sz : Nat) (n : Nat)  (hn : n < 4096) : Met l yX9_parity wsX9_parity ({ frames := 1, cells := 0, slots := 0, locals := 20 }) (pPc D cy S sz [.int (nI n)]) (pQi D cy S sz (fun r S' => r = nI (bc n % 2) ∧ S = S')) 0 0 (pA S sz) := by
  refine Met.ofW (cc := cX9_parity) (maxL := 1) (ret := (some .int)) (by decide) rfl ?_
  intro p e s m args below meth c s₁ B hml hv
  obtain ⟨rfl, rfl, C, hw, hA, hr, hlocks⟩ := p_start B hml hv
  have hx := C.1
  have hb := C.2.1
  have hl := lv_entry ([.int (nI n)]) (n := 1) (Nat.le_of_ble_eq_true rfl)
  rw [lg_entry_eq]
  generalize (lg_sl ([.int (nI n)]) ++ List.replicate (1 - (lg_sl ([.int (nI n)])).length) Slot.unset).toArray = ls at hl ⊢
  have hl : lv_has ls 1 [(0, .int (nI n))] := hl
  refine lv_iload_n hx hb dX9_parity_0 rfl (lv_at hl 0 rfl) ?_
  refine p_calli (va_runS (As := [.int (nI n)]) (rest := []) C.fix (c_J6_bitCount_0f7a4 l D cy S s.heap.size n (by omega)) (va_cwS 1 C.2.2.2.2.1 gX9_parity_J6_bitCount_0f7a4 rfl rfl rfl hdtrS_yJ6_bitCount_0f7a4 ⟨Nat.le_of_ble_eq_true rfl, Nat.le_of_ble_eq_true rfl⟩) (p_preS C hw) rfl rfl hl.1 rfl (lv_room (Nat.le_of_ble_eq_true rfl)) dX9_parity_1 ⟨Nat.le_of_ble_eq_true rfl, Nat.le_of_ble_eq_true rfl⟩) hw hA (fun r2 S1 H locs hpost hw => ?_)
  obtain ⟨hr_, hS_⟩ := hpost
  subst hr_
  subst hS_
  refine lv_iconst (v := nI 1) hx hb dX9_parity_4 (by decide) ?_
  refine n_iand hx hb dX9_parity_5 ?_
  exact p_iret C hw ⟨by rw [Nat.and_one_is_mod], rfl⟩ hr hlocks dX9_parity_6

theorem hdtrS_yX8_init : yX8_init.cls ≠ "java/lang/invoke/MethodHandle" ∧ yX8_init.cls ≠ "java/lang/invoke/VarHandle" ∧ (parseMethodDescriptor yX8_init.desc).map (fun d => d.parameters.length) = some 0 := by decide +kernel
theorem hdtrS_yX9_parity : yX9_parity.cls ≠ "java/lang/invoke/MethodHandle" ∧ yX9_parity.cls ≠ "java/lang/invoke/VarHandle" ∧ (parseMethodDescriptor yX9_parity.desc).map (fun d => d.parameters.length) = some 1 := by decide +kernel
set_option maxHeartbeats 4000000 in
set_option maxRecDepth 100000 in
/-- Trail(int, int, int, int, Lattice) -/
theorem c_X9_init (l : Launch) (D : va_G) (cy : Nat → ClassId) (S : pS) (sz : Nat) (h m0 k0 lt mm f1 f2 f3 : Nat) (hL_h : h ∈ S.1) (hf_h : S.2 h = .inr (8, [.int (nI m0), .int (nI k0), .null, .null])) (hf3 : f3 < 2 ^ 31) : Met l yX9_init wsX9_init ({ frames := 2, cells := 1, slots := 32, locals := 40 }) (pPc D cy S sz [.ref h, .int (nI mm), .int (nI f1), .int (nI f2), .int (nI f3), .ref lt]) (pQv D cy S sz (fun S' => ∃ q, q ∉ S.1 ∧ S' = pup (pnew S q (aN (cy 0) 32 (ttab f1 f2 f3 32))) h (.inr (8, [.int (nI mm), .int (nI (mk3 f3)), .ref q, .ref lt])))) 1 32 (pA S sz) := by
  refine Met.ofW (cc := cX9_init) (maxL := 8) (ret := none) (by decide) rfl ?_
  intro p e s m args below meth c s₁ B hml hv
  have hin : meth.name = "<init>" := (name_of_methodNamed B.named B.method).1
  obtain ⟨rfl, rfl, C, hw, hA, hr, hlocks⟩ := p_start B hml hv
  have hx := C.1
  have hb := C.2.1
  have hl := lv_entry ([.ref h, .int (nI mm), .int (nI f1), .int (nI f2), .int (nI f3), .ref lt]) (n := 8) (Nat.le_of_ble_eq_true rfl)
  rw [lg_entry_eq]
  generalize (lg_sl ([.ref h, .int (nI mm), .int (nI f1), .int (nI f2), .int (nI f3), .ref lt]) ++ List.replicate (8 - (lg_sl ([.ref h, .int (nI mm), .int (nI f1), .int (nI f2), .int (nI f3), .ref lt])).length) Slot.unset).toArray = ls at hl ⊢
  have hl : lv_has ls 8 [(0, .ref h), (1, .int (nI mm)), (2, .int (nI f1)), (3, .int (nI f2)), (4, .int (nI f3)), (5, .ref lt)] := hl
  have hin_RX9 : ∀ w ∈ u_ws RX9 TX9 4, w ∈ wsX9_init := by decide +kernel
  refine lv_aload_n hx hb dX9_init_0 rfl (lv_at hl 0 rfl) ?_
  refine p_callv (va_runIN (As := []) (rest := []) C.fix (c_X8_init l D cy S s.heap.size h) ⟨va_cnB 0 C.2.2.2.2.1 gX9_init_X8_init_n3 rfl rfl rfl (show va_Nw (.methodLinkNest RX9 3 yX8_init "SoundingLine") s from C.2.2.2.2.2.2.1 12 (RX9, 3, yX8_init) rfl) (C.2.2.2.2.1 (.initialized RX8) (List.mem_of_getElem? (i := 7) rfl)) hdtrS_yX8_init ⟨Nat.le_of_ble_eq_true rfl, Nat.le_of_ble_eq_true rfl⟩, rfl, C.2.2.2.2.1 (.instanceMethod yX8_init) (List.mem_of_getElem? (i := 6) rfl)⟩ (p_preS C hw) rfl rfl hl.1 rfl (lv_room (Nat.le_of_ble_eq_true rfl)) dX9_init_1 ⟨Nat.le_of_ble_eq_true rfl, Nat.le_of_ble_eq_true rfl⟩) hw hA (fun S1 H locs hpost hw => ?_)
  subst hpost
  refine lv_aload_n hx hb dX9_init_4 rfl (lv_at hl 0 rfl) ?_
  refine lv_iload_n hx hb dX9_init_5 rfl (lv_at hl 1 rfl) ?_
  refine p_putF C hw (ci := 8) (Cn := RX9) (T := TX9) (N := 4) tyX9 tyX9_ok nmX9 hL_h hf_h rfl hin_RX9 0 (by decide) (List.mem_of_getElem? (i := 1) rfl) rfl rfl hin rfl rfl rfl rfl (by simp) dX9_init_6 rfl (fun H locs hw => ?_)
  obtain ⟨S3, hS3⟩ : ∃ z, z = pup S h (.inr (8, [.int (nI mm), .int (nI k0), .null, .null])) := ⟨_, rfl⟩
  replace hw : pW D (pA S s.heap.size) s.heap S3 H locs := by rw [hS3]; exact hw
  have hL4 : h ∈ S3.1 := by rw [hS3]; exact hL_h
  have hf5 : S3.2 h = .inr (8, [.int (nI mm), .int (nI k0), .null, .null]) := by rw [hS3]; exact pup_s
  refine lv_aload_n hx hb dX9_init_9 rfl (lv_at hl 0 rfl) ?_
  refine lv_aload hx hb dX9_init_10 (lv_at hl 5 rfl) ?_
  refine p_putF C hw (ci := 8) (Cn := RX9) (T := TX9) (N := 4) tyX9 tyX9_ok nmX9 hL4 hf5 rfl hin_RX9 3 (by decide) (List.mem_of_getElem? (i := 2) rfl) rfl rfl hin rfl rfl rfl rfl (by simp) dX9_init_12 rfl (fun H locs hw => ?_)
  obtain ⟨S6, hS6⟩ : ∃ z, z = pup S3 h (.inr (8, [.int (nI mm), .int (nI k0), .null, .ref lt])) := ⟨_, rfl⟩
  replace hw : pW D (pA S s.heap.size) s.heap S6 H locs := by rw [hS6]; exact hw
  have hL7 : h ∈ S6.1 := by rw [hS6]; exact hL4
  have hf8 : S6.2 h = .inr (8, [.int (nI mm), .int (nI k0), .null, .ref lt]) := by rw [hS6]; exact pup_s
  refine lv_aload_n hx hb dX9_init_15 rfl (lv_at hl 0 rfl) ?_
  refine lv_iload hx hb dX9_init_16 (lv_at hl 4 rfl) ?_
  refine n_if_ne (tgt := 25) hx hb (by omega) dX9_init_18 (by decide) (fun h_18 => ?_) (fun h_18 => ?_)
  · skip
    refine lv_iconst (v := nI 3) hx hb dX9_init_25 (by decide) ?_
    refine n_ren (b := mk3 f3) (by simp [mk3, h_18]) ?_
    refine p_putF C hw (ci := 8) (Cn := RX9) (T := TX9) (N := 4) tyX9 tyX9_ok nmX9 hL7 hf8 rfl hin_RX9 1 (by decide) (List.mem_of_getElem? (i := 3) rfl) rfl rfl hin rfl rfl rfl rfl (by simp) dX9_init_26 rfl (fun H locs hw => ?_)
    obtain ⟨S9, hS9⟩ : ∃ z, z = pup S6 h (.inr (8, [.int (nI mm), .int (nI (mk3 f3)), .null, .ref lt])) := ⟨_, rfl⟩
    replace hw : pW D (pA S s.heap.size) s.heap S9 H locs := by rw [hS9]; exact hw
    have hL10 : h ∈ S9.1 := by rw [hS9]; exact hL7
    have hf11 : S9.2 h = .inr (8, [.int (nI mm), .int (nI (mk3 f3)), .null, .ref lt]) := by rw [hS9]; exact pup_s
    refine lv_aload_n hx hb dX9_init_29 rfl (lv_at hl 0 rfl) ?_
    refine lv_bipush (v := nI 32) hx hb dX9_init_30 (by decide) ?_
    refine n_newa C hw hA (by decide +kernel) 0 rfl (n := 32) (by omega) (Nat.le_of_ble_eq_true rfl) (Nat.le_of_ble_eq_true rfl) dX9_init_32 (fun md H hq_md hw => ?_)
    have hq0 : md ∉ S.1 := by rw [hS9, hS6, hS3] at hq_md; exact hq_md
    have hne0 : h ≠ md := fun z => hq0 (z ▸ hL_h)
    obtain ⟨S12, hS12⟩ : ∃ z, z = pnew S9 md (aN (cy 0) 32 (fun _ => 0)) := ⟨_, rfl⟩
    replace hw : pW D (pA S s.heap.size) s.heap S12 H locs := by rw [hS12]; exact hw
    have hL13 : h ∈ S12.1 := by rw [hS12]; exact List.mem_append_left _ hL10
    have hf14 : S12.2 h = .inr (8, [.int (nI mm), .int (nI (mk3 f3)), .null, .ref lt]) := by rw [hS12]; exact (pnew_n (fun z : h = md => hq_md (by rw [← z]; exact hL10))).trans hf11
    have hL15 : md ∈ S12.1 := by rw [hS12]; exact List.mem_append_right _ List.mem_cons_self
    have hf16 : S12.2 md = aN (cy 0) 32 (fun _ => 0) := by rw [hS12]; exact pnew_s
    refine p_putF C hw (ci := 8) (Cn := RX9) (T := TX9) (N := 4) tyX9 tyX9_ok nmX9 hL13 hf14 rfl hin_RX9 2 (by decide) (List.mem_of_getElem? (i := 5) rfl) rfl rfl hin rfl rfl rfl rfl (by simp) dX9_init_34 rfl (fun H locs hw => ?_)
    obtain ⟨S17, hS17⟩ : ∃ z, z = pup S12 h (.inr (8, [.int (nI mm), .int (nI (mk3 f3)), .ref md, .ref lt])) := ⟨_, rfl⟩
    replace hw : pW D (pA S s.heap.size) s.heap S17 H locs := by rw [hS17]; exact hw
    have hL18 : md ∈ S17.1 := by rw [hS17]; exact hL15
    have hf19 : S17.2 md = aN (cy 0) 32 (fun _ => 0) := by rw [hS17]; exact (pup_n (ne_cells hf16 hf14 (by nofun))).trans hf16
    have hL20 : h ∈ S17.1 := by rw [hS17]; exact hL13
    have hf21 : S17.2 h = .inr (8, [.int (nI mm), .int (nI (mk3 f3)), .ref md, .ref lt]) := by rw [hS17]; exact pup_s
    refine lv_iconst (v := nI 0) hx hb dX9_init_37 (by decide) ?_
    refine lv_istore (lv' := [(6, .int (nI 0)), (0, .ref h), (1, .int (nI mm)), (2, .int (nI f1)), (3, .int (nI f2)), (4, .int (nI f3)), (5, .ref lt)]) hx hb dX9_init_38 hl (by decide) rfl (fun ls hl => ?_)
    have loop40 : ∀ (kf : Nat) (i : Nat), 32 - i < kf → ∀ (SA : pS), ∀ (H : Heap) (locs : List Loc) (ls : Array Slot), (h ∈ SA.1) → (SA.2 h = .inr (8, [.int (nI mm), .int (nI (mk3 f3)), .ref md, .ref lt])) → (md ∈ SA.1) → (SA.2 md = aN (cy 0) 32 (ttab f1 f2 f3 i)) → (i ≤ 32) → (SA = pup (pup (pnew S md (aN (cy 0) 32 (fun _ => 0))) h (.inr (8, [.int (nI mm), .int (nI (mk3 f3)), .ref md, .ref lt]))) md (aN (cy 0) 32 (ttab f1 f2 f3 i))) → pW D (pA S s.heap.size) s.heap SA H locs → lv_has ls 8 [(6, .int (nI i)), (0, .ref h), (1, .int (nI mm)), (2, .int (nI f1)), (3, .int (nI f2)), (4, .int (nI f3)), (5, .ref lt)] → W p l e (headSpec wsX9_init ({ frames := 2, cells := 1, slots := 32, locals := 40 } : Room)).room s m ([.ref h, .int (nI mm), .int (nI f1), .int (nI f2), .int (nI f3), .ref lt]).toArray below meth c H locs 1 32 (MQ below (pQv D cy S s.heap.size (fun S' => ∃ q, q ∉ S.1 ∧ S' = pup (pnew S q (aN (cy 0) 32 (ttab f1 f2 f3 32))) h (.inr (8, [.int (nI mm), .int (nI (mk3 f3)), .ref q, .ref lt])))) ([.ref h, .int (nI mm), .int (nI f1), .int (nI f2), .int (nI f3), .ref lt]).toArray s 1 32 (pA S s.heap.size)) (F0 m 40 ls []) := by
      intro kf
      induction kf with
      | zero => intro i hm; exact absurd hm (Nat.not_lt_zero _)
      | succ kf ih40 =>
        intro i hm SA H locs ls hL22 hf23 hL24 hf25 hi hSA hw hl
        refine lv_iload hx hb dX9_init_40 (lv_at hl 0 rfl) ?_
        refine lv_aload_n hx hb dX9_init_42 rfl (lv_at hl 1 rfl) ?_
        refine p_get C hw (ci := 8) (Cn := RX9) (T := TX9) (N := 4) hL22 hf23 rfl hin_RX9 2 (by decide) (List.mem_of_getElem? (i := 5) rfl) rfl rfl dX9_init_43 ?_
        refine n_len C hw 0 rfl hL24 hf25 (n := 32) rfl dX9_init_46 ?_
        refine n_icmp_ge (tgt := 105) hx hb (by omega) (by omega) dX9_init_47 (by decide) (fun h_47 => ?_) (fun h_47 => ?_)
        · skip
          exact p_vret C hw ⟨md, hq0, by rw [hSA, show i = 32 from by omega, pup_comm hne0, pup_pnew]⟩ hr hlocks dX9_init_105
        · skip
          refine lv_iload hx hb dX9_init_50 (lv_at hl 0 rfl) ?_
          refine lv_iload_n hx hb dX9_init_52 rfl (lv_at hl 3 rfl) ?_
          refine n_iand hx hb dX9_init_53 ?_
          refine p_calli (va_runS (As := [.int (nI (i &&& f1))]) (rest := []) C.fix (c_X9_parity l D cy SA H.size (i &&& f1) (Nat.lt_of_le_of_lt (Nat.and_le_left (m := f1)) (by omega))) (va_cwS 1 C.2.2.2.2.1 gX9_init_X9_parity rfl rfl rfl hdtrS_yX9_parity ⟨Nat.le_of_ble_eq_true rfl, Nat.le_of_ble_eq_true rfl⟩) (p_preS C hw) rfl rfl hl.1 rfl (lv_room (Nat.le_of_ble_eq_true rfl)) dX9_init_54 ⟨Nat.le_of_ble_eq_true rfl, Nat.le_of_ble_eq_true rfl⟩) hw hA (fun r27 S26 H locs hpost hw => ?_)
          obtain ⟨hr_, hS_⟩ := hpost
          subst hr_
          subst hS_
          refine lv_iconst (v := nI 1) hx hb dX9_init_57 (by decide) ?_
          refine n_ishl hx hb (by omega) (by omega) dX9_init_58 ?_
          refine lv_iload hx hb dX9_init_59 (lv_at hl 0 rfl) ?_
          refine lv_iload_n hx hb dX9_init_61 rfl (lv_at hl 4 rfl) ?_
          refine n_iand hx hb dX9_init_62 ?_
          refine p_calli (va_runS (As := [.int (nI (i &&& f2))]) (rest := [.int (nI ((bc (i &&& f1) % 2) * 2 ^ 1))]) C.fix (c_X9_parity l D cy SA H.size (i &&& f2) (Nat.lt_of_le_of_lt (Nat.and_le_left (m := f2)) (by omega))) (va_cwS 1 C.2.2.2.2.1 gX9_init_X9_parity rfl rfl rfl hdtrS_yX9_parity ⟨Nat.le_of_ble_eq_true rfl, Nat.le_of_ble_eq_true rfl⟩) (p_preS C hw) rfl rfl hl.1 rfl (lv_room (Nat.le_of_ble_eq_true rfl)) dX9_init_63 ⟨Nat.le_of_ble_eq_true rfl, Nat.le_of_ble_eq_true rfl⟩) hw hA (fun r29 S28 H locs hpost hw => ?_)
          obtain ⟨hr_, hS_⟩ := hpost
          subst hr_
          subst hS_
          refine n_ior hx hb dX9_init_66 ?_
          have ht2 := tr2_le (f1 := f1) (f2 := f2) (v := i)
          refine n_ren (b := tr2 f1 f2 i) rfl ?_
          refine lv_istore (lv' := [(7, .int (nI (tr2 f1 f2 i))), (6, .int (nI i)), (0, .ref h), (1, .int (nI mm)), (2, .int (nI f1)), (3, .int (nI f2)), (4, .int (nI f3)), (5, .ref lt)]) hx hb dX9_init_67 hl (by decide) rfl (fun ls hl => ?_)
          refine lv_aload_n hx hb dX9_init_69 rfl (lv_at hl 2 rfl) ?_
          refine p_get C hw (ci := 8) (Cn := RX9) (T := TX9) (N := 4) hL22 hf23 rfl hin_RX9 2 (by decide) (List.mem_of_getElem? (i := 5) rfl) rfl rfl dX9_init_70 ?_
          refine lv_iload hx hb dX9_init_73 (lv_at hl 1 rfl) ?_
          refine lv_iload hx hb dX9_init_75 (lv_at hl 6 rfl) ?_
          refine n_if_ne (tgt := 85) hx hb (by omega) dX9_init_77 (by decide) (fun h_77 => ?_) (fun h_77 => ?_)
          · skip
            refine lv_iload hx hb dX9_init_85 (lv_at hl 0 rfl) ?_
            refine lv_iconst (v := nI 1) hx hb dX9_init_87 (by decide) ?_
            refine n_ishl hx hb (by omega) (by omega) dX9_init_88 ?_
            refine lv_iload hx hb dX9_init_89 (lv_at hl 1 rfl) ?_
            refine lv_iload hx hb dX9_init_91 (lv_at hl 6 rfl) ?_
            refine n_iand hx hb dX9_init_93 ?_
            refine p_calli (va_runS (As := [.int (nI (i &&& f3))]) (rest := [.int (nI ((tr2 f1 f2 i) * 2 ^ 1)), .int (nI i), .ref md]) C.fix (c_X9_parity l D cy SA H.size (i &&& f3) (Nat.lt_of_le_of_lt (Nat.and_le_left (m := f3)) (by omega))) (va_cwS 1 C.2.2.2.2.1 gX9_init_X9_parity rfl rfl rfl hdtrS_yX9_parity ⟨Nat.le_of_ble_eq_true rfl, Nat.le_of_ble_eq_true rfl⟩) (p_preS C hw) rfl rfl hl.1 rfl (lv_room (Nat.le_of_ble_eq_true rfl)) dX9_init_94 ⟨Nat.le_of_ble_eq_true rfl, Nat.le_of_ble_eq_true rfl⟩) hw hA (fun r31 S30 H locs hpost hw => ?_)
            obtain ⟨hr_, hS_⟩ := hpost
            subst hr_
            subst hS_
            refine n_ior hx hb dX9_init_97 ?_
            refine n_ast C hw 0 rfl hL24 hf25 (by omega) (by omega) dX9_init_98 (fun H locs hw => ?_)
            obtain ⟨S32, hS32⟩ : ∃ z, z = pup SA md (aN (cy 0) 32 (nup (ttab f1 f2 f3 i) i (((tr2 f1 f2 i) * 2 ^ 1) ||| (bc (i &&& f3) % 2)))) := ⟨_, rfl⟩
            replace hw : pW D (pA S s.heap.size) s.heap S32 H locs := by rw [hS32]; exact hw
            have hL33 : h ∈ S32.1 := by rw [hS32]; exact hL22
            have hf34 : S32.2 h = .inr (8, [.int (nI mm), .int (nI (mk3 f3)), .ref md, .ref lt]) := by rw [hS32]; exact (pup_n (ne_cells hf23 hf25 (by nofun))).trans hf23
            have hL35 : md ∈ S32.1 := by rw [hS32]; exact hL24
            have hf36 : S32.2 md = aN (cy 0) 32 (nup (ttab f1 f2 f3 i) i (((tr2 f1 f2 i) * 2 ^ 1) ||| (bc (i &&& f3) % 2))) := by rw [hS32]; exact pup_s
            refine lv_iinc (v := (nI (i + 1))) (lv' := [(6, .int (nI (i + 1))), (7, .int (nI (tr2 f1 f2 i))), (0, .ref h), (1, .int (nI mm)), (2, .int (nI f1)), (3, .int (nI f2)), (4, .int (nI f3)), (5, .ref lt)]) hx hb dX9_init_99 hl (k := 1) rfl (by rw [show Int32.ofInt 1 = nI 1 from by decide, nI_add]) (by decide) rfl (fun ls hl => ?_)
            refine lv_goto (tgt := 40) hx hb dX9_init_102 (by decide) ?_
            exact ih40 (i + 1) (by omega) S32 H locs ls hL33 hf34 hL35 (by rw [hS32, ttab_s (by simp [trN, tr2, h_77])]; exact pup_s) (by omega) (by rw [hS32, hSA, pup_pup, ttab_s (by simp [trN, tr2, h_77])]) hw (lv_sub hl [0, 2, 3, 4, 5, 6, 7] rfl)
          · skip
            refine lv_iload hx hb dX9_init_80 (lv_at hl 0 rfl) ?_
            refine lv_goto (tgt := 98) hx hb dX9_init_82 (by decide) ?_
            refine n_ast C hw 0 rfl hL24 hf25 (by omega) (by omega) dX9_init_98 (fun H locs hw => ?_)
            obtain ⟨S37, hS37⟩ : ∃ z, z = pup SA md (aN (cy 0) 32 (nup (ttab f1 f2 f3 i) i (tr2 f1 f2 i))) := ⟨_, rfl⟩
            replace hw : pW D (pA S s.heap.size) s.heap S37 H locs := by rw [hS37]; exact hw
            have hL38 : h ∈ S37.1 := by rw [hS37]; exact hL22
            have hf39 : S37.2 h = .inr (8, [.int (nI mm), .int (nI (mk3 f3)), .ref md, .ref lt]) := by rw [hS37]; exact (pup_n (ne_cells hf23 hf25 (by nofun))).trans hf23
            have hL40 : md ∈ S37.1 := by rw [hS37]; exact hL24
            have hf41 : S37.2 md = aN (cy 0) 32 (nup (ttab f1 f2 f3 i) i (tr2 f1 f2 i)) := by rw [hS37]; exact pup_s
            refine lv_iinc (v := (nI (i + 1))) (lv' := [(6, .int (nI (i + 1))), (7, .int (nI (tr2 f1 f2 i))), (0, .ref h), (1, .int (nI mm)), (2, .int (nI f1)), (3, .int (nI f2)), (4, .int (nI f3)), (5, .ref lt)]) hx hb dX9_init_99 hl (k := 1) rfl (by rw [show Int32.ofInt 1 = nI 1 from by decide, nI_add]) (by decide) rfl (fun ls hl => ?_)
            refine lv_goto (tgt := 40) hx hb dX9_init_102 (by decide) ?_
            exact ih40 (i + 1) (by omega) S37 H locs ls hL38 hf39 hL40 (by rw [hS37, ttab_s (by simp [trN, tr2, h_77])]; exact pup_s) (by omega) (by rw [hS37, hSA, pup_pup, ttab_s (by simp [trN, tr2, h_77])]) hw (lv_sub hl [0, 2, 3, 4, 5, 6, 7] rfl)
    exact loop40 (32 - 0 + 1) 0 (by omega) S17 H locs ls hL20 hf21 hL18 (by rw [ttab_0]; assumption) (Nat.zero_le _) (by rw [hS17, hS12, hS9, hS6, hS3, pup_pup, pup_pup, pnew_pup hne0, pup_pup, ttab_0]; exact (pup_self ((pup_n hne0.symm).trans pnew_s)).symm) hw (lv_sub hl [0, 1, 2, 3, 4, 5, 6] rfl)
  · skip
    refine lv_iconst (v := nI 2) hx hb dX9_init_21 (by decide) ?_
    refine n_ren (b := mk3 f3) (by simp [mk3, h_18]) ?_
    refine lv_goto (tgt := 26) hx hb dX9_init_22 (by decide) ?_
    refine p_putF C hw (ci := 8) (Cn := RX9) (T := TX9) (N := 4) tyX9 tyX9_ok nmX9 hL7 hf8 rfl hin_RX9 1 (by decide) (List.mem_of_getElem? (i := 3) rfl) rfl rfl hin rfl rfl rfl rfl (by simp) dX9_init_26 rfl (fun H locs hw => ?_)
    obtain ⟨S42, hS42⟩ : ∃ z, z = pup S6 h (.inr (8, [.int (nI mm), .int (nI (mk3 f3)), .null, .ref lt])) := ⟨_, rfl⟩
    replace hw : pW D (pA S s.heap.size) s.heap S42 H locs := by rw [hS42]; exact hw
    have hL43 : h ∈ S42.1 := by rw [hS42]; exact hL7
    have hf44 : S42.2 h = .inr (8, [.int (nI mm), .int (nI (mk3 f3)), .null, .ref lt]) := by rw [hS42]; exact pup_s
    refine lv_aload_n hx hb dX9_init_29 rfl (lv_at hl 0 rfl) ?_
    refine lv_bipush (v := nI 32) hx hb dX9_init_30 (by decide) ?_
    refine n_newa C hw hA (by decide +kernel) 0 rfl (n := 32) (by omega) (Nat.le_of_ble_eq_true rfl) (Nat.le_of_ble_eq_true rfl) dX9_init_32 (fun md H hq_md hw => ?_)
    have hq0 : md ∉ S.1 := by rw [hS42, hS6, hS3] at hq_md; exact hq_md
    have hne0 : h ≠ md := fun z => hq0 (z ▸ hL_h)
    obtain ⟨S45, hS45⟩ : ∃ z, z = pnew S42 md (aN (cy 0) 32 (fun _ => 0)) := ⟨_, rfl⟩
    replace hw : pW D (pA S s.heap.size) s.heap S45 H locs := by rw [hS45]; exact hw
    have hL46 : h ∈ S45.1 := by rw [hS45]; exact List.mem_append_left _ hL43
    have hf47 : S45.2 h = .inr (8, [.int (nI mm), .int (nI (mk3 f3)), .null, .ref lt]) := by rw [hS45]; exact (pnew_n (fun z : h = md => hq_md (by rw [← z]; exact hL43))).trans hf44
    have hL48 : md ∈ S45.1 := by rw [hS45]; exact List.mem_append_right _ List.mem_cons_self
    have hf49 : S45.2 md = aN (cy 0) 32 (fun _ => 0) := by rw [hS45]; exact pnew_s
    refine p_putF C hw (ci := 8) (Cn := RX9) (T := TX9) (N := 4) tyX9 tyX9_ok nmX9 hL46 hf47 rfl hin_RX9 2 (by decide) (List.mem_of_getElem? (i := 5) rfl) rfl rfl hin rfl rfl rfl rfl (by simp) dX9_init_34 rfl (fun H locs hw => ?_)
    obtain ⟨S50, hS50⟩ : ∃ z, z = pup S45 h (.inr (8, [.int (nI mm), .int (nI (mk3 f3)), .ref md, .ref lt])) := ⟨_, rfl⟩
    replace hw : pW D (pA S s.heap.size) s.heap S50 H locs := by rw [hS50]; exact hw
    have hL51 : md ∈ S50.1 := by rw [hS50]; exact hL48
    have hf52 : S50.2 md = aN (cy 0) 32 (fun _ => 0) := by rw [hS50]; exact (pup_n (ne_cells hf49 hf47 (by nofun))).trans hf49
    have hL53 : h ∈ S50.1 := by rw [hS50]; exact hL46
    have hf54 : S50.2 h = .inr (8, [.int (nI mm), .int (nI (mk3 f3)), .ref md, .ref lt]) := by rw [hS50]; exact pup_s
    refine lv_iconst (v := nI 0) hx hb dX9_init_37 (by decide) ?_
    refine lv_istore (lv' := [(6, .int (nI 0)), (0, .ref h), (1, .int (nI mm)), (2, .int (nI f1)), (3, .int (nI f2)), (4, .int (nI f3)), (5, .ref lt)]) hx hb dX9_init_38 hl (by decide) rfl (fun ls hl => ?_)
    have loop40 : ∀ (kf : Nat) (i : Nat), 32 - i < kf → ∀ (SA : pS), ∀ (H : Heap) (locs : List Loc) (ls : Array Slot), (h ∈ SA.1) → (SA.2 h = .inr (8, [.int (nI mm), .int (nI (mk3 f3)), .ref md, .ref lt])) → (md ∈ SA.1) → (SA.2 md = aN (cy 0) 32 (ttab f1 f2 f3 i)) → (i ≤ 32) → (SA = pup (pup (pnew S md (aN (cy 0) 32 (fun _ => 0))) h (.inr (8, [.int (nI mm), .int (nI (mk3 f3)), .ref md, .ref lt]))) md (aN (cy 0) 32 (ttab f1 f2 f3 i))) → pW D (pA S s.heap.size) s.heap SA H locs → lv_has ls 8 [(6, .int (nI i)), (0, .ref h), (1, .int (nI mm)), (2, .int (nI f1)), (3, .int (nI f2)), (4, .int (nI f3)), (5, .ref lt)] → W p l e (headSpec wsX9_init ({ frames := 2, cells := 1, slots := 32, locals := 40 } : Room)).room s m ([.ref h, .int (nI mm), .int (nI f1), .int (nI f2), .int (nI f3), .ref lt]).toArray below meth c H locs 1 32 (MQ below (pQv D cy S s.heap.size (fun S' => ∃ q, q ∉ S.1 ∧ S' = pup (pnew S q (aN (cy 0) 32 (ttab f1 f2 f3 32))) h (.inr (8, [.int (nI mm), .int (nI (mk3 f3)), .ref q, .ref lt])))) ([.ref h, .int (nI mm), .int (nI f1), .int (nI f2), .int (nI f3), .ref lt]).toArray s 1 32 (pA S s.heap.size)) (F0 m 40 ls []) := by
      intro kf
      induction kf with
      | zero => intro i hm; exact absurd hm (Nat.not_lt_zero _)
      | succ kf ih40 =>
        intro i hm SA H locs ls hL55 hf56 hL57 hf58 hi hSA hw hl
        refine lv_iload hx hb dX9_init_40 (lv_at hl 0 rfl) ?_
        refine lv_aload_n hx hb dX9_init_42 rfl (lv_at hl 1 rfl) ?_
        refine p_get C hw (ci := 8) (Cn := RX9) (T := TX9) (N := 4) hL55 hf56 rfl hin_RX9 2 (by decide) (List.mem_of_getElem? (i := 5) rfl) rfl rfl dX9_init_43 ?_
        refine n_len C hw 0 rfl hL57 hf58 (n := 32) rfl dX9_init_46 ?_
        refine n_icmp_ge (tgt := 105) hx hb (by omega) (by omega) dX9_init_47 (by decide) (fun h_47 => ?_) (fun h_47 => ?_)
        · skip
          exact p_vret C hw ⟨md, hq0, by rw [hSA, show i = 32 from by omega, pup_comm hne0, pup_pnew]⟩ hr hlocks dX9_init_105
        · skip
          refine lv_iload hx hb dX9_init_50 (lv_at hl 0 rfl) ?_
          refine lv_iload_n hx hb dX9_init_52 rfl (lv_at hl 3 rfl) ?_
          refine n_iand hx hb dX9_init_53 ?_
          refine p_calli (va_runS (As := [.int (nI (i &&& f1))]) (rest := []) C.fix (c_X9_parity l D cy SA H.size (i &&& f1) (Nat.lt_of_le_of_lt (Nat.and_le_left (m := f1)) (by omega))) (va_cwS 1 C.2.2.2.2.1 gX9_init_X9_parity rfl rfl rfl hdtrS_yX9_parity ⟨Nat.le_of_ble_eq_true rfl, Nat.le_of_ble_eq_true rfl⟩) (p_preS C hw) rfl rfl hl.1 rfl (lv_room (Nat.le_of_ble_eq_true rfl)) dX9_init_54 ⟨Nat.le_of_ble_eq_true rfl, Nat.le_of_ble_eq_true rfl⟩) hw hA (fun r60 S59 H locs hpost hw => ?_)
          obtain ⟨hr_, hS_⟩ := hpost
          subst hr_
          subst hS_
          refine lv_iconst (v := nI 1) hx hb dX9_init_57 (by decide) ?_
          refine n_ishl hx hb (by omega) (by omega) dX9_init_58 ?_
          refine lv_iload hx hb dX9_init_59 (lv_at hl 0 rfl) ?_
          refine lv_iload_n hx hb dX9_init_61 rfl (lv_at hl 4 rfl) ?_
          refine n_iand hx hb dX9_init_62 ?_
          refine p_calli (va_runS (As := [.int (nI (i &&& f2))]) (rest := [.int (nI ((bc (i &&& f1) % 2) * 2 ^ 1))]) C.fix (c_X9_parity l D cy SA H.size (i &&& f2) (Nat.lt_of_le_of_lt (Nat.and_le_left (m := f2)) (by omega))) (va_cwS 1 C.2.2.2.2.1 gX9_init_X9_parity rfl rfl rfl hdtrS_yX9_parity ⟨Nat.le_of_ble_eq_true rfl, Nat.le_of_ble_eq_true rfl⟩) (p_preS C hw) rfl rfl hl.1 rfl (lv_room (Nat.le_of_ble_eq_true rfl)) dX9_init_63 ⟨Nat.le_of_ble_eq_true rfl, Nat.le_of_ble_eq_true rfl⟩) hw hA (fun r62 S61 H locs hpost hw => ?_)
          obtain ⟨hr_, hS_⟩ := hpost
          subst hr_
          subst hS_
          refine n_ior hx hb dX9_init_66 ?_
          have ht2 := tr2_le (f1 := f1) (f2 := f2) (v := i)
          refine n_ren (b := tr2 f1 f2 i) rfl ?_
          refine lv_istore (lv' := [(7, .int (nI (tr2 f1 f2 i))), (6, .int (nI i)), (0, .ref h), (1, .int (nI mm)), (2, .int (nI f1)), (3, .int (nI f2)), (4, .int (nI f3)), (5, .ref lt)]) hx hb dX9_init_67 hl (by decide) rfl (fun ls hl => ?_)
          refine lv_aload_n hx hb dX9_init_69 rfl (lv_at hl 2 rfl) ?_
          refine p_get C hw (ci := 8) (Cn := RX9) (T := TX9) (N := 4) hL55 hf56 rfl hin_RX9 2 (by decide) (List.mem_of_getElem? (i := 5) rfl) rfl rfl dX9_init_70 ?_
          refine lv_iload hx hb dX9_init_73 (lv_at hl 1 rfl) ?_
          refine lv_iload hx hb dX9_init_75 (lv_at hl 6 rfl) ?_
          refine n_if_ne (tgt := 85) hx hb (by omega) dX9_init_77 (by decide) (fun h_77 => ?_) (fun h_77 => ?_)
          · skip
            refine lv_iload hx hb dX9_init_85 (lv_at hl 0 rfl) ?_
            refine lv_iconst (v := nI 1) hx hb dX9_init_87 (by decide) ?_
            refine n_ishl hx hb (by omega) (by omega) dX9_init_88 ?_
            refine lv_iload hx hb dX9_init_89 (lv_at hl 1 rfl) ?_
            refine lv_iload hx hb dX9_init_91 (lv_at hl 6 rfl) ?_
            refine n_iand hx hb dX9_init_93 ?_
            refine p_calli (va_runS (As := [.int (nI (i &&& f3))]) (rest := [.int (nI ((tr2 f1 f2 i) * 2 ^ 1)), .int (nI i), .ref md]) C.fix (c_X9_parity l D cy SA H.size (i &&& f3) (Nat.lt_of_le_of_lt (Nat.and_le_left (m := f3)) (by omega))) (va_cwS 1 C.2.2.2.2.1 gX9_init_X9_parity rfl rfl rfl hdtrS_yX9_parity ⟨Nat.le_of_ble_eq_true rfl, Nat.le_of_ble_eq_true rfl⟩) (p_preS C hw) rfl rfl hl.1 rfl (lv_room (Nat.le_of_ble_eq_true rfl)) dX9_init_94 ⟨Nat.le_of_ble_eq_true rfl, Nat.le_of_ble_eq_true rfl⟩) hw hA (fun r64 S63 H locs hpost hw => ?_)
            obtain ⟨hr_, hS_⟩ := hpost
            subst hr_
            subst hS_
            refine n_ior hx hb dX9_init_97 ?_
            refine n_ast C hw 0 rfl hL57 hf58 (by omega) (by omega) dX9_init_98 (fun H locs hw => ?_)
            obtain ⟨S65, hS65⟩ : ∃ z, z = pup SA md (aN (cy 0) 32 (nup (ttab f1 f2 f3 i) i (((tr2 f1 f2 i) * 2 ^ 1) ||| (bc (i &&& f3) % 2)))) := ⟨_, rfl⟩
            replace hw : pW D (pA S s.heap.size) s.heap S65 H locs := by rw [hS65]; exact hw
            have hL66 : h ∈ S65.1 := by rw [hS65]; exact hL55
            have hf67 : S65.2 h = .inr (8, [.int (nI mm), .int (nI (mk3 f3)), .ref md, .ref lt]) := by rw [hS65]; exact (pup_n (ne_cells hf56 hf58 (by nofun))).trans hf56
            have hL68 : md ∈ S65.1 := by rw [hS65]; exact hL57
            have hf69 : S65.2 md = aN (cy 0) 32 (nup (ttab f1 f2 f3 i) i (((tr2 f1 f2 i) * 2 ^ 1) ||| (bc (i &&& f3) % 2))) := by rw [hS65]; exact pup_s
            refine lv_iinc (v := (nI (i + 1))) (lv' := [(6, .int (nI (i + 1))), (7, .int (nI (tr2 f1 f2 i))), (0, .ref h), (1, .int (nI mm)), (2, .int (nI f1)), (3, .int (nI f2)), (4, .int (nI f3)), (5, .ref lt)]) hx hb dX9_init_99 hl (k := 1) rfl (by rw [show Int32.ofInt 1 = nI 1 from by decide, nI_add]) (by decide) rfl (fun ls hl => ?_)
            refine lv_goto (tgt := 40) hx hb dX9_init_102 (by decide) ?_
            exact ih40 (i + 1) (by omega) S65 H locs ls hL66 hf67 hL68 (by rw [hS65, ttab_s (by simp [trN, tr2, h_77])]; exact pup_s) (by omega) (by rw [hS65, hSA, pup_pup, ttab_s (by simp [trN, tr2, h_77])]) hw (lv_sub hl [0, 2, 3, 4, 5, 6, 7] rfl)
          · skip
            refine lv_iload hx hb dX9_init_80 (lv_at hl 0 rfl) ?_
            refine lv_goto (tgt := 98) hx hb dX9_init_82 (by decide) ?_
            refine n_ast C hw 0 rfl hL57 hf58 (by omega) (by omega) dX9_init_98 (fun H locs hw => ?_)
            obtain ⟨S70, hS70⟩ : ∃ z, z = pup SA md (aN (cy 0) 32 (nup (ttab f1 f2 f3 i) i (tr2 f1 f2 i))) := ⟨_, rfl⟩
            replace hw : pW D (pA S s.heap.size) s.heap S70 H locs := by rw [hS70]; exact hw
            have hL71 : h ∈ S70.1 := by rw [hS70]; exact hL55
            have hf72 : S70.2 h = .inr (8, [.int (nI mm), .int (nI (mk3 f3)), .ref md, .ref lt]) := by rw [hS70]; exact (pup_n (ne_cells hf56 hf58 (by nofun))).trans hf56
            have hL73 : md ∈ S70.1 := by rw [hS70]; exact hL57
            have hf74 : S70.2 md = aN (cy 0) 32 (nup (ttab f1 f2 f3 i) i (tr2 f1 f2 i)) := by rw [hS70]; exact pup_s
            refine lv_iinc (v := (nI (i + 1))) (lv' := [(6, .int (nI (i + 1))), (7, .int (nI (tr2 f1 f2 i))), (0, .ref h), (1, .int (nI mm)), (2, .int (nI f1)), (3, .int (nI f2)), (4, .int (nI f3)), (5, .ref lt)]) hx hb dX9_init_99 hl (k := 1) rfl (by rw [show Int32.ofInt 1 = nI 1 from by decide, nI_add]) (by decide) rfl (fun ls hl => ?_)
            refine lv_goto (tgt := 40) hx hb dX9_init_102 (by decide) ?_
            exact ih40 (i + 1) (by omega) S70 H locs ls hL71 hf72 hL73 (by rw [hS70, ttab_s (by simp [trN, tr2, h_77])]; exact pup_s) (by omega) (by rw [hS70, hSA, pup_pup, ttab_s (by simp [trN, tr2, h_77])]) hw (lv_sub hl [0, 2, 3, 4, 5, 6, 7] rfl)
    exact loop40 (32 - 0 + 1) 0 (by omega) S50 H locs ls hL53 hf54 hL51 (by rw [ttab_0]; assumption) (Nat.zero_le _) (by rw [hS50, hS45, hS42, hS6, hS3, pup_pup, pup_pup, pnew_pup hne0, pup_pup, ttab_0]; exact (pup_self ((pup_n hne0.symm).trans pnew_s)).symm) hw (lv_sub hl [0, 1, 2, 3, 4, 5, 6] rfl)

set_option maxHeartbeats 4000000 in
set_option maxRecDepth 100000 in
/-- Trail.states -/
theorem c_X9_states (l : Launch) (D : va_G) (cy : Nat → ClassId) (S : pS) (sz : Nat) (h mm kk md lt : Nat) (hL_h : h ∈ S.1) (hf_h : S.2 h = .inr (8, [.int (nI mm), .int (nI kk), .ref md, .ref lt])) (hm4 : mm ≤ 4) : Met l yX9_states wsX9_states ({ frames := 0, cells := 0, slots := 0, locals := 0 }) (pPc D cy S sz [.ref h]) (pQi D cy S sz (fun r S' => r = nI (2 ^ mm) ∧ S = S')) 0 0 (pA S sz) := by
  refine Met.ofW (cc := cX9_states) (maxL := 1) (ret := (some .int)) (by decide) rfl ?_
  intro p e s m args below meth c s₁ B hml hv
  obtain ⟨rfl, rfl, C, hw, hA, hr, hlocks⟩ := p_start B hml hv
  have hx := C.1
  have hb := C.2.1
  have hl := lv_entry ([.ref h]) (n := 1) (Nat.le_of_ble_eq_true rfl)
  rw [lg_entry_eq]
  generalize (lg_sl ([.ref h]) ++ List.replicate (1 - (lg_sl ([.ref h])).length) Slot.unset).toArray = ls at hl ⊢
  have hl : lv_has ls 1 [(0, .ref h)] := hl
  have hin_RX9 : ∀ w ∈ u_ws RX9 TX9 4, w ∈ wsX9_states := by decide +kernel
  refine lv_iconst (v := nI 1) hx hb dX9_states_0 (by decide) ?_
  refine lv_aload_n hx hb dX9_states_1 rfl (lv_at hl 0 rfl) ?_
  refine p_get C hw (ci := 8) (Cn := RX9) (T := TX9) (N := 4) hL_h hf_h rfl hin_RX9 0 (by decide) (List.mem_of_getElem? (i := 1) rfl) rfl rfl dX9_states_2 ?_
  refine n_ishl hx hb (by omega) (by have := two_pow_4 hm4; omega) dX9_states_5 ?_
  refine n_ren (b := 2 ^ mm) (Nat.one_mul _) ?_
  exact p_iret C hw ⟨rfl, rfl⟩ hr hlocks dX9_states_6

set_option maxHeartbeats 4000000 in
set_option maxRecDepth 100000 in
/-- Trail.stepsFor -/
theorem c_X9_stepsFor (l : Launch) (D : va_G) (cy : Nat → ClassId) (S : pS) (sz : Nat) (h mm kk md lt n : Nat) (hL_h : h ∈ S.1) (hf_h : S.2 h = .inr (8, [.int (nI mm), .int (nI kk), .ref md, .ref lt])) (hn : n < 2 ^ 30) : Met l yX9_stepsFor wsX9_stepsFor ({ frames := 0, cells := 0, slots := 0, locals := 0 }) (pPc D cy S sz [.ref h, .int (nI n)]) (pQi D cy S sz (fun r S' => r = nI (stp mm n) ∧ S = S')) 0 0 (pA S sz) := by
  refine Met.ofW (cc := cX9_stepsFor) (maxL := 2) (ret := (some .int)) (by decide) rfl ?_
  intro p e s m args below meth c s₁ B hml hv
  obtain ⟨rfl, rfl, C, hw, hA, hr, hlocks⟩ := p_start B hml hv
  have hx := C.1
  have hb := C.2.1
  have hl := lv_entry ([.ref h, .int (nI n)]) (n := 2) (Nat.le_of_ble_eq_true rfl)
  rw [lg_entry_eq]
  generalize (lg_sl ([.ref h, .int (nI n)]) ++ List.replicate (2 - (lg_sl ([.ref h, .int (nI n)])).length) Slot.unset).toArray = ls at hl ⊢
  have hl : lv_has ls 2 [(0, .ref h), (1, .int (nI n))] := hl
  have hin_RX9 : ∀ w ∈ u_ws RX9 TX9 4, w ∈ wsX9_stepsFor := by decide +kernel
  refine lv_iload_n hx hb dX9_stepsFor_0 rfl (lv_at hl 1 rfl) ?_
  refine n_if_gt (tgt := 8) hx hb (by omega) dX9_stepsFor_1 (by decide) (fun h_1 => ?_) (fun h_1 => ?_)
  · skip
    refine lv_iload_n hx hb dX9_stepsFor_8 rfl (lv_at hl 1 rfl) ?_
    refine lv_aload_n hx hb dX9_stepsFor_9 rfl (lv_at hl 0 rfl) ?_
    refine p_get C hw (ci := 8) (Cn := RX9) (T := TX9) (N := 4) hL_h hf_h rfl hin_RX9 0 (by decide) (List.mem_of_getElem? (i := 1) rfl) rfl rfl dX9_stepsFor_10 ?_
    refine n_iadd hx hb dX9_stepsFor_13 ?_
    exact p_iret C hw ⟨by first | (exact congrArg nI (if_neg (by omega)).symm) | (exact congrArg nI (if_pos (by omega)).symm), rfl⟩ hr hlocks dX9_stepsFor_14
  · skip
    refine lv_iconst (v := nI 0) hx hb dX9_stepsFor_4 (by decide) ?_
    refine lv_goto (tgt := 14) hx hb dX9_stepsFor_5 (by decide) ?_
    exact p_iret C hw ⟨by first | (exact congrArg nI (if_neg (by omega)).symm) | (exact congrArg nI (if_pos (by omega)).symm), rfl⟩ hr hlocks dX9_stepsFor_14

set_option maxHeartbeats 4000000 in
set_option maxRecDepth 100000 in
/-- Trail.kind -/
theorem c_X9_kind (l : Launch) (D : va_G) (cy : Nat → ClassId) (S : pS) (sz : Nat) (h : Nat)   : Met l yX9_kind wsX9_kind ({ frames := 0, cells := 0, slots := 0, locals := 0 }) (pPc D cy S sz [.ref h]) (pQi D cy S sz (fun r S' => r = nI 3 ∧ S = S')) 0 0 (pA S sz) := by
  refine Met.ofW (cc := cX9_kind) (maxL := 1) (ret := (some .int)) (by decide) rfl ?_
  intro p e s m args below meth c s₁ B hml hv
  obtain ⟨rfl, rfl, C, hw, hA, hr, hlocks⟩ := p_start B hml hv
  have hx := C.1
  have hb := C.2.1
  have hl := lv_entry ([.ref h]) (n := 1) (Nat.le_of_ble_eq_true rfl)
  rw [lg_entry_eq]
  generalize (lg_sl ([.ref h]) ++ List.replicate (1 - (lg_sl ([.ref h])).length) Slot.unset).toArray = ls at hl ⊢
  have hl : lv_has ls 1 [(0, .ref h)] := hl
  refine lv_iconst (v := nI 3) hx hb dX9_kind_0 (by decide) ?_
  exact p_iret C hw ⟨rfl, rfl⟩ hr hlocks dX9_kind_1

theorem hdtrV_yX9_stepsFor_RX9 : yX9_stepsFor.cls = RX9 ∧ yX9_stepsFor.cls ≠ "java/lang/invoke/MethodHandle" ∧ yX9_stepsFor.cls ≠ "java/lang/invoke/VarHandle" ∧ (parseMethodDescriptor yX9_stepsFor.desc).map (fun d => d.parameters.length) = some 1 := by decide +kernel
set_option maxHeartbeats 4000000 in
set_option maxRecDepth 100000 in
/-- Trail.sizeOf -/
theorem c_X9_sizeOf (l : Launch) (D : va_G) (cy : Nat → ClassId) (S : pS) (sz : Nat) (h mm kk md lt n : Nat) (hL_h : h ∈ S.1) (hf_h : S.2 h = .inr (8, [.int (nI mm), .int (nI kk), .ref md, .ref lt])) (hn : n < 2 ^ 30) : Met l yX9_sizeOf wsX9_sizeOf ({ frames := 1, cells := 0, slots := 0, locals := 21 }) (pPc D cy S sz [.ref h, .int (nI n)]) (pQi D cy S sz (fun r S' => r = nI (stp mm n * kk) ∧ S = S')) 0 0 (pA S sz) := by
  refine Met.ofW (cc := cX9_sizeOf) (maxL := 2) (ret := (some .int)) (by decide) rfl ?_
  intro p e s m args below meth c s₁ B hml hv
  obtain ⟨rfl, rfl, C, hw, hA, hr, hlocks⟩ := p_start B hml hv
  have hx := C.1
  have hb := C.2.1
  have hl := lv_entry ([.ref h, .int (nI n)]) (n := 2) (Nat.le_of_ble_eq_true rfl)
  rw [lg_entry_eq]
  generalize (lg_sl ([.ref h, .int (nI n)]) ++ List.replicate (2 - (lg_sl ([.ref h, .int (nI n)])).length) Slot.unset).toArray = ls at hl ⊢
  have hl : lv_has ls 2 [(0, .ref h), (1, .int (nI n))] := hl
  have hin_RX9 : ∀ w ∈ u_ws RX9 TX9 4, w ∈ wsX9_sizeOf := by decide +kernel
  refine lv_aload_n hx hb dX9_sizeOf_0 rfl (lv_at hl 0 rfl) ?_
  refine lv_iload_n hx hb dX9_sizeOf_1 rfl (lv_at hl 1 rfl) ?_
  refine p_calli (va_runV (As := [.int (nI n)]) (rest := []) C.fix (c_X9_stepsFor l D cy S s.heap.size h mm kk md lt n hL_h hf_h (by omega)) (cwV 1 C.2.2.2.2.1 gX9_sizeOf_X9_stepsFor rfl rfl rfl hdtrV_yX9_stepsFor_RX9 ⟨Nat.le_of_ble_eq_true rfl, Nat.le_of_ble_eq_true rfl⟩) (p_preV C hw hL_h hf_h rfl) rfl rfl hl.1 rfl (lv_room (Nat.le_of_ble_eq_true rfl)) dX9_sizeOf_2 ⟨Nat.le_of_ble_eq_true rfl, Nat.le_of_ble_eq_true rfl⟩) hw hA (fun r2 S1 H locs hpost hw => ?_)
  obtain ⟨hr_, hS_⟩ := hpost
  subst hr_
  subst hS_
  refine lv_aload_n hx hb dX9_sizeOf_5 rfl (lv_at hl 0 rfl) ?_
  refine p_get C hw (ci := 8) (Cn := RX9) (T := TX9) (N := 4) hL_h hf_h rfl hin_RX9 1 (by decide) (List.mem_of_getElem? (i := 1) rfl) rfl rfl dX9_sizeOf_6 ?_
  refine n_imul hx hb dX9_sizeOf_9 ?_
  exact p_iret C hw ⟨rfl, rfl⟩ hr hlocks dX9_sizeOf_10

theorem hdtrV_yX7_size_RX7 : yX7_size.cls = RX7 ∧ yX7_size.cls ≠ "java/lang/invoke/MethodHandle" ∧ yX7_size.cls ≠ "java/lang/invoke/VarHandle" ∧ (parseMethodDescriptor yX7_size.desc).map (fun d => d.parameters.length) = some 0 := by decide +kernel
theorem hdtrV_yX7_numberAt_RX7 : yX7_numberAt.cls = RX7 ∧ yX7_numberAt.cls ≠ "java/lang/invoke/MethodHandle" ∧ yX7_numberAt.cls ≠ "java/lang/invoke/VarHandle" ∧ (parseMethodDescriptor yX7_numberAt.desc).map (fun d => d.parameters.length) = some 2 := by decide +kernel
theorem hdtrS_yX11_at : yX11_at.cls ≠ "java/lang/invoke/MethodHandle" ∧ yX11_at.cls ≠ "java/lang/invoke/VarHandle" ∧ (parseMethodDescriptor yX11_at.desc).map (fun d => d.parameters.length) = some 2 := by decide +kernel
theorem hdtrV_yX7_putNumber_RX7 : yX7_putNumber.cls = RX7 ∧ yX7_putNumber.cls ≠ "java/lang/invoke/MethodHandle" ∧ yX7_putNumber.cls ≠ "java/lang/invoke/VarHandle" ∧ (parseMethodDescriptor yX7_putNumber.desc).map (fun d => d.parameters.length) = some 3 := by decide +kernel
set_option maxHeartbeats 4000000 in
set_option maxRecDepth 100000 in
/-- Trail.code -/
theorem c_X9_code (l : Launch) (D : va_G) (cy : Nat → ClassId) (S : pS) (sz : Nat) (h mm kk md lt : Nat) (tab : Nat → Nat) (a a1 Na na b b1 Nb nb : Nat) (ga gb : Nat → Nat) (hL_h : h ∈ S.1) (hf_h : S.2 h = .inr (8, [.int (nI mm), .int (nI kk), .ref md, .ref lt])) (hL_md : md ∈ S.1) (hf_md : S.2 md = aN (cy 0) 32 tab) (hL_a : a ∈ S.1) (hf_a : S.2 a = .inr (7, [.ref a1, .int (nI na)])) (hL_a1 : a1 ∈ S.1) (hf_a1 : S.2 a1 = aN (cy 0) Na ga) (hL_b : b ∈ S.1) (hf_b : S.2 b = .inr (7, [.ref b1, .int (nI nb)])) (hL_b1 : b1 ∈ S.1) (hf_b1 : S.2 b1 = aN (cy 0) Nb gb) (hm1 : 1 ≤ mm) (hm4 : mm ≤ 4) (hk2 : 2 ≤ kk) (hk3 : kk ≤ 3) (htab : ∀ q, tab q < 8) (hn4 : na ≤ 400) (hmb : md ≠ b1) (hNa : Na < 2 ^ 27) (hna : na ≤ Na) (hga : ∀ q, ga q ≤ 2) (hNb : Nb < 2 ^ 27) (hnb : nb ≤ Nb) (hgb : ∀ q, gb q ≤ 2) (hne : a1 ≠ b1) : Met l yX9_code wsX9_code ({ frames := 2, cells := 0, slots := 0, locals := 46 }) (pPc D cy S sz [.ref h, .ref a, .ref b]) (pQv D cy S sz (fun S' => S' = pup S b1 (aN (cy 0) Nb (rpos (trF tab ga na mm kk) gb nb (stp mm na * kk))))) 0 0 (pA S sz) := by
  refine Met.ofW (cc := cX9_code) (maxL := 7) (ret := none) (by decide) rfl ?_
  intro p e s m args below meth c s₁ B hml hv
  obtain ⟨rfl, rfl, C, hw, hA, hr, hlocks⟩ := p_start B hml hv
  have hx := C.1
  have hb := C.2.1
  have hl := lv_entry ([.ref h, .ref a, .ref b]) (n := 7) (Nat.le_of_ble_eq_true rfl)
  rw [lg_entry_eq]
  generalize (lg_sl ([.ref h, .ref a, .ref b]) ++ List.replicate (7 - (lg_sl ([.ref h, .ref a, .ref b])).length) Slot.unset).toArray = ls at hl ⊢
  have hl : lv_has ls 7 [(0, .ref h), (1, .ref a), (2, .ref b)] := hl
  have hin_RX9 : ∀ w ∈ u_ws RX9 TX9 4, w ∈ wsX9_code := by decide +kernel
  have hs4 := stp_le (mm := mm) (n := na)
  have h25 := two_pow_5 (k := mm + 1) (by omega)
  have h24 := two_pow_4 hm4
  refine lv_aload_n hx hb dX9_code_0 rfl (lv_at hl 0 rfl) ?_
  refine lv_aload_n hx hb dX9_code_1 rfl (lv_at hl 1 rfl) ?_
  refine p_calli (va_runV (As := []) (rest := [.ref h]) C.fix (c_X7_size l D cy S s.heap.size a a1 na hL_a hf_a) (cwV 0 C.2.2.2.2.1 gX9_code_X7_size rfl rfl rfl hdtrV_yX7_size_RX7 ⟨Nat.le_of_ble_eq_true rfl, Nat.le_of_ble_eq_true rfl⟩) (p_preV C hw hL_a hf_a rfl) rfl rfl hl.1 rfl (lv_room (Nat.le_of_ble_eq_true rfl)) dX9_code_2 ⟨Nat.le_of_ble_eq_true rfl, Nat.le_of_ble_eq_true rfl⟩) hw hA (fun r2 S1 H locs hpost hw => ?_)
  obtain ⟨hr_, hS_⟩ := hpost
  subst hr_
  subst hS_
  refine p_calli (va_runV (As := [.int (nI na)]) (rest := []) C.fix (c_X9_stepsFor l D cy S H.size h mm kk md lt na hL_h hf_h (by omega)) (cwV 1 C.2.2.2.2.1 gX9_code_X9_stepsFor rfl rfl rfl hdtrV_yX9_stepsFor_RX9 ⟨Nat.le_of_ble_eq_true rfl, Nat.le_of_ble_eq_true rfl⟩) (p_preV C hw hL_h hf_h rfl) rfl rfl hl.1 rfl (lv_room (Nat.le_of_ble_eq_true rfl)) dX9_code_5 ⟨Nat.le_of_ble_eq_true rfl, Nat.le_of_ble_eq_true rfl⟩) hw hA (fun r4 S3 H locs hpost hw => ?_)
  obtain ⟨hr_, hS_⟩ := hpost
  subst hr_
  subst hS_
  refine lv_istore_n (lv' := [(3, .int (nI (stp mm na))), (0, .ref h), (1, .ref a), (2, .ref b)]) hx hb dX9_code_8 rfl hl (by decide) rfl (fun ls hl => ?_)
  refine lv_iconst (v := nI 0) hx hb dX9_code_9 (by decide) ?_
  refine lv_istore (lv' := [(4, .int (nI 0)), (3, .int (nI (stp mm na))), (0, .ref h), (1, .ref a), (2, .ref b)]) hx hb dX9_code_10 hl (by decide) rfl (fun ls hl => ?_)
  refine lv_iconst (v := nI 0) hx hb dX9_code_12 (by decide) ?_
  refine lv_istore (lv' := [(5, .int (nI 0)), (4, .int (nI 0)), (3, .int (nI (stp mm na))), (0, .ref h), (1, .ref a), (2, .ref b)]) hx hb dX9_code_13 hl (by decide) rfl (fun ls hl => ?_)
  have loop15 : ∀ (kf : Nat) (i : Nat), (stp mm na) - i < kf → ∀ (SA : pS), ∀ (H : Heap) (locs : List Loc) (ls : Array Slot), (h ∈ SA.1) → (SA.2 h = .inr (8, [.int (nI mm), .int (nI kk), .ref md, .ref lt])) → (md ∈ SA.1) → (SA.2 md = aN (cy 0) 32 tab) → (a ∈ SA.1) → (SA.2 a = .inr (7, [.ref a1, .int (nI na)])) → (a1 ∈ SA.1) → (SA.2 a1 = aN (cy 0) Na ga) → (b ∈ SA.1) → (SA.2 b = .inr (7, [.ref b1, .int (nI nb)])) → (b1 ∈ SA.1) → (SA.2 b1 = aN (cy 0) Nb (rpos (trF tab ga na mm kk) gb nb (i * kk))) → (i ≤ stp mm na) → (SA = pup S b1 (aN (cy 0) Nb (rpos (trF tab ga na mm kk) gb nb (i * kk)))) → pW D (pA S s.heap.size) s.heap SA H locs → lv_has ls 7 [(5, .int (nI i)), (4, .int (nI (tst ga na mm i))), (3, .int (nI (stp mm na))), (0, .ref h), (1, .ref a), (2, .ref b)] → W p l e (headSpec wsX9_code ({ frames := 2, cells := 0, slots := 0, locals := 46 } : Room)).room s m ([.ref h, .ref a, .ref b]).toArray below meth c H locs 0 0 (MQ below (pQv D cy S s.heap.size (fun S' => S' = pup S b1 (aN (cy 0) Nb (rpos (trF tab ga na mm kk) gb nb (stp mm na * kk))))) ([.ref h, .ref a, .ref b]).toArray s 0 0 (pA S s.heap.size)) (F0 m 15 ls []) := by
    intro kf
    induction kf with
    | zero => intro i hm; exact absurd hm (Nat.not_lt_zero _)
    | succ kf ih15 =>
      intro i hm SA H locs ls hL5 hf6 hL7 hf8 hL9 hf10 hL11 hf12 hL13 hf14 hL15 hf16 hi hSA hw hl
      have htl := tst_lt (ga := ga) (na := na) (mm := mm) i
      have hwl := win_lt (ga := ga) (na := na) (mm := mm) (i := i)
      have hn1 := numAt_1le (g := ga) (n := na) (j := i)
      refine lv_iload hx hb dX9_code_15 (lv_at hl 0 rfl) ?_
      refine lv_iload_n hx hb dX9_code_17 rfl (lv_at hl 2 rfl) ?_
      refine n_icmp_ge (tgt := 74) hx hb (by omega) (by omega) dX9_code_18 (by decide) (fun h_18 => ?_) (fun h_18 => ?_)
      · skip
        exact p_vret C hw (by rw [hSA, show stp mm na = i from by omega]) hr hlocks dX9_code_74
      · skip
        have hik : i * kk ≤ 404 * 3 := Nat.mul_le_mul (by omega) hk3
        refine lv_aload_n hx hb dX9_code_21 rfl (lv_at hl 4 rfl) ?_
        refine lv_iload hx hb dX9_code_22 (lv_at hl 0 rfl) ?_
        refine lv_iconst (v := nI 1) hx hb dX9_code_24 (by decide) ?_
        refine p_calli (va_runV (As := [.int (nI i), .int (nI 1)]) (rest := []) C.fix (c_X7_numberAt l D cy SA H.size a a1 Na na i 1 ga hL9 hf10 hL11 hf12 hNa hna (by omega) (by omega) hga) (cwV 2 C.2.2.2.2.1 gX9_code_X7_numberAt rfl rfl rfl hdtrV_yX7_numberAt_RX7 ⟨Nat.le_of_ble_eq_true rfl, Nat.le_of_ble_eq_true rfl⟩) (p_preV C hw hL9 hf10 rfl) rfl rfl hl.1 rfl (lv_room (Nat.le_of_ble_eq_true rfl)) dX9_code_25 ⟨Nat.le_of_ble_eq_true rfl, Nat.le_of_ble_eq_true rfl⟩) hw hA (fun r18 S17 H locs hpost hw => ?_)
        obtain ⟨hr_, hS_⟩ := hpost
        subst hr_
        subst hS_
        refine lv_aload_n hx hb dX9_code_28 rfl (lv_at hl 3 rfl) ?_
        refine p_get C hw (ci := 8) (Cn := RX9) (T := TX9) (N := 4) hL5 hf6 rfl hin_RX9 0 (by decide) (List.mem_of_getElem? (i := 1) rfl) rfl rfl dX9_code_29 ?_
        refine n_ishl hx hb (by omega) (by have : numAt ga na i 1 * 2 ^ mm ≤ 1 * 16 := Nat.mul_le_mul hn1 h24; omega) dX9_code_32 ?_
        refine lv_iload hx hb dX9_code_33 (lv_at hl 1 rfl) ?_
        refine n_ior hx hb dX9_code_35 ?_
        refine n_ren (b := win ga na mm i) rfl ?_
        refine lv_istore (lv' := [(6, .int (nI (win ga na mm i))), (5, .int (nI i)), (4, .int (nI (tst ga na mm i))), (3, .int (nI (stp mm na))), (0, .ref h), (1, .ref a), (2, .ref b)]) hx hb dX9_code_36 hl (by decide) rfl (fun ls hl => ?_)
        refine lv_aload_n hx hb dX9_code_38 rfl (lv_at hl 6 rfl) ?_
        refine lv_iload hx hb dX9_code_39 (lv_at hl 1 rfl) ?_
        refine lv_aload_n hx hb dX9_code_41 rfl (lv_at hl 4 rfl) ?_
        refine p_get C hw (ci := 8) (Cn := RX9) (T := TX9) (N := 4) hL5 hf6 rfl hin_RX9 1 (by decide) (List.mem_of_getElem? (i := 2) rfl) rfl rfl dX9_code_42 ?_
        refine n_imul hx hb dX9_code_45 ?_
        refine lv_aload_n hx hb dX9_code_46 rfl (lv_at hl 4 rfl) ?_
        refine p_get C hw (ci := 8) (Cn := RX9) (T := TX9) (N := 4) hL5 hf6 rfl hin_RX9 2 (by decide) (List.mem_of_getElem? (i := 3) rfl) rfl rfl dX9_code_47 ?_
        refine lv_iload hx hb dX9_code_50 (lv_at hl 0 rfl) ?_
        refine p_calli (va_runSN (As := [.ref md, .int (nI (win ga na mm i))]) (rest := [.int (nI (i * kk)), .ref b]) C.fix (c_X11_at l D cy SA H.size md 32 (win ga na mm i) tab hL7 hf8 (by omega) (by omega)) ⟨va_cnB 2 C.2.2.2.2.1 gX9_code_X11_at_n48 rfl rfl rfl (show va_Nw (.methodLinkNest RX9 48 yX11_at "SoundingLine") s from C.2.2.2.2.2.2.1 7 (RX9, 48, yX11_at) rfl) (C.2.2.2.2.1 (.initialized RX11) (List.mem_of_getElem? (i := 25) rfl)) hdtrS_yX11_at ⟨Nat.le_of_ble_eq_true rfl, Nat.le_of_ble_eq_true rfl⟩, C.2.2.2.2.1 (.static yX11_at) (List.mem_of_getElem? (i := 24) rfl), trivial⟩ (p_preS C hw) rfl rfl hl.1 rfl (lv_room (Nat.le_of_ble_eq_true rfl)) dX9_code_52 ⟨Nat.le_of_ble_eq_true rfl, Nat.le_of_ble_eq_true rfl⟩) hw hA (fun r20 S19 H locs hpost hw => ?_)
        obtain ⟨hr_, hS_⟩ := hpost
        subst hr_
        subst hS_
        have hrb := rg_lt (n := 32) (j := win ga na mm i) htab
        refine lv_aload_n hx hb dX9_code_55 rfl (lv_at hl 4 rfl) ?_
        refine p_get C hw (ci := 8) (Cn := RX9) (T := TX9) (N := 4) hL5 hf6 rfl hin_RX9 1 (by decide) (List.mem_of_getElem? (i := 2) rfl) rfl rfl dX9_code_56 ?_
        refine p_callv (va_runV (As := [.int (nI (i * kk)), .int (nI (rg tab 32 (win ga na mm i))), .int (nI kk)]) (rest := []) C.fix (c_X7_putNumber l D cy SA H.size b b1 Nb nb (i * kk) (rg tab 32 (win ga na mm i)) kk (rpos (trF tab ga na mm kk) gb nb (i * kk)) hL13 hf14 hL15 hf16 hNb hnb (by omega) (by omega) (by omega)) (cwV 3 C.2.2.2.2.1 gX9_code_X7_putNumber rfl rfl rfl hdtrV_yX7_putNumber_RX7 ⟨Nat.le_of_ble_eq_true rfl, Nat.le_of_ble_eq_true rfl⟩) (p_preV C hw hL13 hf14 rfl) rfl rfl hl.1 rfl (lv_room (Nat.le_of_ble_eq_true rfl)) dX9_code_59 ⟨Nat.le_of_ble_eq_true rfl, Nat.le_of_ble_eq_true rfl⟩) hw hA (fun S21 H locs hpost hw => ?_)
        have hL23 : h ∈ S21.1 := by rw [hpost]; exact hL5
        have hf24 : S21.2 h = .inr (8, [.int (nI mm), .int (nI kk), .ref md, .ref lt]) := by rw [hpost]; exact (pup_n (ne_cells hf6 hf16 (by nofun))).trans hf6
        have hL25 : md ∈ S21.1 := by rw [hpost]; exact hL7
        have hf26 : S21.2 md = aN (cy 0) 32 tab := by rw [hpost]; exact (pup_n (by first | assumption | exact Ne.symm (by assumption))).trans hf8
        have hL27 : a ∈ S21.1 := by rw [hpost]; exact hL9
        have hf28 : S21.2 a = .inr (7, [.ref a1, .int (nI na)]) := by rw [hpost]; exact (pup_n (ne_cells hf10 hf16 (by nofun))).trans hf10
        have hL29 : a1 ∈ S21.1 := by rw [hpost]; exact hL11
        have hf30 : S21.2 a1 = aN (cy 0) Na ga := by rw [hpost]; exact (pup_n (by first | assumption | exact Ne.symm (by assumption))).trans hf12
        have hL31 : b ∈ S21.1 := by rw [hpost]; exact hL13
        have hf32 : S21.2 b = .inr (7, [.ref b1, .int (nI nb)]) := by rw [hpost]; exact (pup_n (ne_cells hf14 hf16 (by nofun))).trans hf14
        have hL33 : b1 ∈ S21.1 := by rw [hpost]; exact hL15
        have hf34 : S21.2 b1 = aN (cy 0) Nb (rnum (rpos (trF tab ga na mm kk) gb nb (i * kk)) nb (i * kk) (rg tab 32 (win ga na mm i)) kk kk) := by rw [hpost]; exact pup_s
        refine lv_iload hx hb dX9_code_62 (lv_at hl 0 rfl) ?_
        refine lv_iconst (v := nI 1) hx hb dX9_code_64 (by decide) ?_
        refine n_iushr hx hb (by omega) (by omega) dX9_code_65 ?_
        refine n_ren (b := tst ga na mm (i + 1)) rfl ?_
        refine lv_istore (lv' := [(4, .int (nI (tst ga na mm (i + 1)))), (6, .int (nI (win ga na mm i))), (5, .int (nI i)), (3, .int (nI (stp mm na))), (0, .ref h), (1, .ref a), (2, .ref b)]) hx hb dX9_code_66 hl (by decide) rfl (fun ls hl => ?_)
        refine lv_iinc (v := (nI (i + 1))) (lv' := [(5, .int (nI (i + 1))), (4, .int (nI (tst ga na mm (i + 1)))), (6, .int (nI (win ga na mm i))), (3, .int (nI (stp mm na))), (0, .ref h), (1, .ref a), (2, .ref b)]) hx hb dX9_code_68 hl (k := 2) rfl (by rw [show Int32.ofInt 1 = nI 1 from by decide, nI_add]) (by decide) rfl (fun ls hl => ?_)
        refine lv_goto (tgt := 15) hx hb dX9_code_71 (by decide) ?_
        exact ih15 (i + 1) (by omega) S21 H locs ls hL23 hf24 hL25 hf26 hL27 hf28 hL29 hf30 hL31 hf32 hL33 (by rw [hpost, rpos_num (fun j hj => trF_1 hj), show (i + 1) * kk = i * kk + kk from Nat.succ_mul i kk]; exact pup_s) (by omega) (by rw [hpost, hSA, pup_pup, rpos_num (fun j hj => trF_1 hj), show (i + 1) * kk = i * kk + kk from Nat.succ_mul i kk]) hw (lv_sub hl [0, 1, 3, 4, 5, 6] rfl)
  exact loop15 ((stp mm na) - 0 + 1) 0 (by omega) S H locs ls hL_h hf_h hL_md hf_md hL_a hf_a hL_a1 hf_a1 hL_b hf_b hL_b1 (by rw [Nat.zero_mul, rpos_0]; exact hf_b1) (Nat.zero_le _) (by rw [Nat.zero_mul, rpos_0]; exact (pup_self hf_b1).symm) hw (lv_sub hl [0, 1, 2, 3, 4, 5] rfl)

theorem hdtrV_yX9_states_RX9 : yX9_states.cls = RX9 ∧ yX9_states.cls ≠ "java/lang/invoke/MethodHandle" ∧ yX9_states.cls ≠ "java/lang/invoke/VarHandle" ∧ (parseMethodDescriptor yX9_states.desc).map (fun d => d.parameters.length) = some 0 := by decide +kernel
set_option maxHeartbeats 4000000 in
set_option maxRecDepth 100000 in
/-- Trail.aheadOf -/
theorem c_X9_aheadOf (l : Launch) (D : va_G) (cy : Nat → ClassId) (S : pS) (sz : Nat) (h mm kk md lt v : Nat) (hL_h : h ∈ S.1) (hf_h : S.2 h = .inr (8, [.int (nI mm), .int (nI kk), .ref md, .ref lt])) (hm4 : mm ≤ 4) (hv : v < 2 ^ 20) : Met l yX9_aheadOf wsX9_aheadOf ({ frames := 1, cells := 0, slots := 0, locals := 20 }) (pPc D cy S sz [.ref h, .int (nI v)]) (pQi D cy S sz (fun r S' => r = nI (ahd mm v) ∧ S = S')) 0 0 (pA S sz) := by
  refine Met.ofW (cc := cX9_aheadOf) (maxL := 2) (ret := (some .int)) (by decide) rfl ?_
  intro p e s m args below meth c s₁ B hml hv
  obtain ⟨rfl, rfl, C, hw, hA, hr, hlocks⟩ := p_start B hml hv
  have hx := C.1
  have hb := C.2.1
  have hl := lv_entry ([.ref h, .int (nI v)]) (n := 2) (Nat.le_of_ble_eq_true rfl)
  rw [lg_entry_eq]
  generalize (lg_sl ([.ref h, .int (nI v)]) ++ List.replicate (2 - (lg_sl ([.ref h, .int (nI v)])).length) Slot.unset).toArray = ls at hl ⊢
  have hl : lv_has ls 2 [(0, .ref h), (1, .int (nI v))] := hl
  have hin_RX9 : ∀ w ∈ u_ws RX9 TX9 4, w ∈ wsX9_aheadOf := by decide +kernel
  have hp1 : 1 ≤ 2 ^ mm := Nat.one_le_two_pow
  refine lv_iload_n hx hb dX9_aheadOf_0 rfl (lv_at hl 1 rfl) ?_
  refine lv_iconst (v := nI 1) hx hb dX9_aheadOf_1 (by decide) ?_
  refine n_ishl hx hb (by omega) (by omega) dX9_aheadOf_2 ?_
  refine lv_aload_n hx hb dX9_aheadOf_3 rfl (lv_at hl 0 rfl) ?_
  refine p_calli (va_runV (As := []) (rest := [.int (nI (v * 2 ^ 1))]) C.fix (c_X9_states l D cy S s.heap.size h mm kk md lt hL_h hf_h hm4) (cwV 0 C.2.2.2.2.1 gX9_aheadOf_X9_states rfl rfl rfl hdtrV_yX9_states_RX9 ⟨Nat.le_of_ble_eq_true rfl, Nat.le_of_ble_eq_true rfl⟩) (p_preV C hw hL_h hf_h rfl) rfl rfl hl.1 rfl (lv_room (Nat.le_of_ble_eq_true rfl)) dX9_aheadOf_4 ⟨Nat.le_of_ble_eq_true rfl, Nat.le_of_ble_eq_true rfl⟩) hw hA (fun r2 S1 H locs hpost hw => ?_)
  obtain ⟨hr_, hS_⟩ := hpost
  subst hr_
  subst hS_
  refine lv_iconst (v := nI 1) hx hb dX9_aheadOf_7 (by decide) ?_
  refine n_isub hx hb (by omega) dX9_aheadOf_8 ?_
  refine n_iand hx hb dX9_aheadOf_9 ?_
  exact p_iret C hw ⟨rfl, rfl⟩ hr hlocks dX9_aheadOf_10

set_option maxHeartbeats 4000000 in
set_option maxRecDepth 100000 in
/-- Trail.farnessOf -/
theorem c_X9_farnessOf (l : Launch) (D : va_G) (cy : Nat → ClassId) (S : pS) (sz : Nat) (h mm kk md lt w bits known : Nat) (tab : Nat → Nat) (hL_h : h ∈ S.1) (hf_h : S.2 h = .inr (8, [.int (nI mm), .int (nI kk), .ref md, .ref lt])) (hL_md : md ∈ S.1) (hf_md : S.2 md = aN (cy 0) 32 tab) (hw31 : w < 2 ^ 31) (hkn : known < 4096) : Met l yX9_farnessOf wsX9_farnessOf ({ frames := 1, cells := 0, slots := 0, locals := 21 }) (pPc D cy S sz [.ref h, .int (nI w), .int (nI bits), .int (nI known)]) (pQi D cy S sz (fun r S' => r = nI (farT tab bits known w) ∧ S = S')) 0 0 (pA S sz) := by
  refine Met.ofW (cc := cX9_farnessOf) (maxL := 4) (ret := (some .int)) (by decide) rfl ?_
  intro p e s m args below meth c s₁ B hml hv
  obtain ⟨rfl, rfl, C, hw, hA, hr, hlocks⟩ := p_start B hml hv
  have hx := C.1
  have hb := C.2.1
  have hl := lv_entry ([.ref h, .int (nI w), .int (nI bits), .int (nI known)]) (n := 4) (Nat.le_of_ble_eq_true rfl)
  rw [lg_entry_eq]
  generalize (lg_sl ([.ref h, .int (nI w), .int (nI bits), .int (nI known)]) ++ List.replicate (4 - (lg_sl ([.ref h, .int (nI w), .int (nI bits), .int (nI known)])).length) Slot.unset).toArray = ls at hl ⊢
  have hl : lv_has ls 4 [(0, .ref h), (1, .int (nI w)), (2, .int (nI bits)), (3, .int (nI known))] := hl
  have hin_RX9 : ∀ w ∈ u_ws RX9 TX9 4, w ∈ wsX9_farnessOf := by decide +kernel
  refine lv_aload_n hx hb dX9_farnessOf_0 rfl (lv_at hl 0 rfl) ?_
  refine p_get C hw (ci := 8) (Cn := RX9) (T := TX9) (N := 4) hL_h hf_h rfl hin_RX9 2 (by decide) (List.mem_of_getElem? (i := 1) rfl) rfl rfl dX9_farnessOf_1 ?_
  refine lv_iload_n hx hb dX9_farnessOf_4 rfl (lv_at hl 1 rfl) ?_
  refine p_calli (va_runSN (As := [.ref md, .int (nI w)]) (rest := []) C.fix (c_X11_at l D cy S s.heap.size md 32 w tab hL_md hf_md (by omega) (by omega)) ⟨va_cnB 2 C.2.2.2.2.1 gX9_farnessOf_X11_at_n48 rfl rfl rfl (show va_Nw (.methodLinkNest RX9 48 yX11_at "SoundingLine") s from C.2.2.2.2.2.2.1 7 (RX9, 48, yX11_at) rfl) (C.2.2.2.2.1 (.initialized RX11) (List.mem_of_getElem? (i := 3) rfl)) hdtrS_yX11_at ⟨Nat.le_of_ble_eq_true rfl, Nat.le_of_ble_eq_true rfl⟩, C.2.2.2.2.1 (.static yX11_at) (List.mem_of_getElem? (i := 2) rfl), trivial⟩ (p_preS C hw) rfl rfl hl.1 rfl (lv_room (Nat.le_of_ble_eq_true rfl)) dX9_farnessOf_5 ⟨Nat.le_of_ble_eq_true rfl, Nat.le_of_ble_eq_true rfl⟩) hw hA (fun r2 S1 H locs hpost hw => ?_)
  obtain ⟨hr_, hS_⟩ := hpost
  subst hr_
  subst hS_
  refine lv_iload_n hx hb dX9_farnessOf_8 rfl (lv_at hl 2 rfl) ?_
  refine n_ixor hx hb dX9_farnessOf_9 ?_
  refine lv_iload_n hx hb dX9_farnessOf_10 rfl (lv_at hl 3 rfl) ?_
  refine n_iand hx hb dX9_farnessOf_11 ?_
  have hand : (rg tab 32 w ^^^ bits) &&& known ≤ known := Nat.and_le_right
  refine p_calli (va_runS (As := [.int (nI (((rg tab 32 w) ^^^ bits) &&& known))]) (rest := []) C.fix (c_J6_bitCount_0f7a4 l D cy S H.size (((rg tab 32 w) ^^^ bits) &&& known) (by omega)) (va_cwS 1 C.2.2.2.2.1 gX9_farnessOf_J6_bitCount_0f7a4 rfl rfl rfl hdtrS_yJ6_bitCount_0f7a4 ⟨Nat.le_of_ble_eq_true rfl, Nat.le_of_ble_eq_true rfl⟩) (p_preS C hw) rfl rfl hl.1 rfl (lv_room (Nat.le_of_ble_eq_true rfl)) dX9_farnessOf_12 ⟨Nat.le_of_ble_eq_true rfl, Nat.le_of_ble_eq_true rfl⟩) hw hA (fun r4 S3 H locs hpost hw => ?_)
  obtain ⟨hr_, hS_⟩ := hpost
  subst hr_
  subst hS_
  exact p_iret C hw ⟨rfl, rfl⟩ hr hlocks dX9_farnessOf_15

theorem hdtrV_yX3_endStep_RX3 : yX3_endStep.cls = RX3 ∧ yX3_endStep.cls ≠ "java/lang/invoke/MethodHandle" ∧ yX3_endStep.cls ≠ "java/lang/invoke/VarHandle" ∧ (parseMethodDescriptor yX3_endStep.desc).map (fun d => d.parameters.length) = some 3 := by decide +kernel
theorem hdtrV_yX9_aheadOf_RX9 : yX9_aheadOf.cls = RX9 ∧ yX9_aheadOf.cls ≠ "java/lang/invoke/MethodHandle" ∧ yX9_aheadOf.cls ≠ "java/lang/invoke/VarHandle" ∧ (parseMethodDescriptor yX9_aheadOf.desc).map (fun d => d.parameters.length) = some 1 := by decide +kernel
theorem hdtrV_yX3_farnessOf_RX3 : yX3_farnessOf.cls = RX3 ∧ yX3_farnessOf.cls ≠ "java/lang/invoke/MethodHandle" ∧ yX3_farnessOf.cls ≠ "java/lang/invoke/VarHandle" ∧ (parseMethodDescriptor yX3_farnessOf.desc).map (fun d => d.parameters.length) = some 1 := by decide +kernel
theorem hdtrV_yX9_farnessOf_RX9 : yX9_farnessOf.cls = RX9 ∧ yX9_farnessOf.cls ≠ "java/lang/invoke/MethodHandle" ∧ yX9_farnessOf.cls ≠ "java/lang/invoke/VarHandle" ∧ (parseMethodDescriptor yX9_farnessOf.desc).map (fun d => d.parameters.length) = some 3 := by decide +kernel
theorem hdtrV_yX3_keepNext_RX3 : yX3_keepNext.cls = RX3 ∧ yX3_keepNext.cls ≠ "java/lang/invoke/MethodHandle" ∧ yX3_keepNext.cls ≠ "java/lang/invoke/VarHandle" ∧ (parseMethodDescriptor yX3_keepNext.desc).map (fun d => d.parameters.length) = some 2 := by decide +kernel
set_option maxHeartbeats 4000000 in
set_option maxRecDepth 100000 in
/-- Trail.advance -/
theorem c_X9_advance (l : Launch) (D : va_G) (cy : Nat → ClassId) (S : pS) (sz : Nat) (h mm kk md lt lf lx lw i bits known BB : Nat) (tab fg xg wg : Nat → Nat) (hL_h : h ∈ S.1) (hf_h : S.2 h = .inr (8, [.int (nI mm), .int (nI kk), .ref md, .ref lt])) (hL_md : md ∈ S.1) (hf_md : S.2 md = aN (cy 0) 32 tab) (hL_lt : lt ∈ S.1) (hf_lt : S.2 lt = .inr (3, [.ref lf, .ref lx, .ref lw])) (hL_lf : lf ∈ S.1) (hf_lf : S.2 lf = aN (cy 0) 16 fg) (hL_lx : lx ∈ S.1) (hf_lx : S.2 lx = aN (cy 0) 16 xg) (hL_lw : lw ∈ S.1) (hf_lw : S.2 lw = aN (cy 0) 320 wg) (hm1 : 1 ≤ mm) (hm4 : mm ≤ 4) (hi3 : i < 320) (hkn : known < 4096) (hB : BB < 2 ^ 29) (hfg : ∀ q, fg q ≤ BB) (hxf : lx ≠ lf) (hxw : lx ≠ lw) (hwf : lw ≠ lf) (hmf : md ≠ lf) (hmx : md ≠ lx) (hmw : md ≠ lw) : Met l yX9_advance wsX9_advance ({ frames := 2, cells := 0, slots := 0, locals := 44 }) (pPc D cy S sz [.ref h, .int (nI i), .int (nI bits), .int (nI known)]) (pQv D cy S sz (fun S' => S' = tri S lx lw lf (aN (cy 0) 16 (nxt fg tab mm bits known xg (2 ^ mm))) (aN (cy 0) 320 (nup wg i (frg fg tab mm bits known (2 ^ mm)))) (aN (cy 0) 16 (lcop fg (nxt fg tab mm bits known xg (2 ^ mm)) (2 ^ mm))))) 0 0 (pA S sz) := by
  refine Met.ofW (cc := cX9_advance) (maxL := 10) (ret := none) (by decide) rfl ?_
  intro p e s m args below meth c s₁ B hml hv
  obtain ⟨rfl, rfl, C, hw, hA, hr, hlocks⟩ := p_start B hml hv
  have hx := C.1
  have hb := C.2.1
  have hl := lv_entry ([.ref h, .int (nI i), .int (nI bits), .int (nI known)]) (n := 10) (Nat.le_of_ble_eq_true rfl)
  rw [lg_entry_eq]
  generalize (lg_sl ([.ref h, .int (nI i), .int (nI bits), .int (nI known)]) ++ List.replicate (10 - (lg_sl ([.ref h, .int (nI i), .int (nI bits), .int (nI known)])).length) Slot.unset).toArray = ls at hl ⊢
  have hl : lv_has ls 10 [(0, .ref h), (1, .int (nI i)), (2, .int (nI bits)), (3, .int (nI known))] := hl
  have hin_RX9 : ∀ w ∈ u_ws RX9 TX9 4, w ∈ wsX9_advance := by decide +kernel
  have h24 := two_pow_4 hm4
  have h216 := two_pow_le16 hm4
  refine lv_iconst (v := nI 0) hx hb dX9_advance_0 (by decide) ?_
  refine lv_istore (lv' := [(4, .int (nI 0)), (0, .ref h), (1, .int (nI i)), (2, .int (nI bits)), (3, .int (nI known))]) hx hb dX9_advance_1 hl (by decide) rfl (fun ls hl => ?_)
  refine lv_iconst (v := nI 0) hx hb dX9_advance_3 (by decide) ?_
  refine lv_istore (lv' := [(5, .int (nI 0)), (4, .int (nI 0)), (0, .ref h), (1, .int (nI i)), (2, .int (nI bits)), (3, .int (nI known))]) hx hb dX9_advance_4 hl (by decide) rfl (fun ls hl => ?_)
  have loop6 : ∀ (kf : Nat) (v : Nat), (2 ^ mm) - v < kf → ∀ (SA : pS), ∀ (H : Heap) (locs : List Loc) (ls : Array Slot), (h ∈ SA.1) → (SA.2 h = .inr (8, [.int (nI mm), .int (nI kk), .ref md, .ref lt])) → (md ∈ SA.1) → (SA.2 md = aN (cy 0) 32 tab) → (lt ∈ SA.1) → (SA.2 lt = .inr (3, [.ref lf, .ref lx, .ref lw])) → (lf ∈ SA.1) → (SA.2 lf = aN (cy 0) 16 fg) → (lx ∈ SA.1) → (SA.2 lx = aN (cy 0) 16 (nxt fg tab mm bits known xg v)) → (lw ∈ SA.1) → (SA.2 lw = aN (cy 0) 320 wg) → (v ≤ 2 ^ mm) → (SA = pup S lx (aN (cy 0) 16 (nxt fg tab mm bits known xg v))) → pW D (pA S s.heap.size) s.heap SA H locs → lv_has ls 10 [(5, .int (nI v)), (4, .int (nI (frg fg tab mm bits known v))), (0, .ref h), (1, .int (nI i)), (2, .int (nI bits)), (3, .int (nI known))] → W p l e (headSpec wsX9_advance ({ frames := 2, cells := 0, slots := 0, locals := 44 } : Room)).room s m ([.ref h, .int (nI i), .int (nI bits), .int (nI known)]).toArray below meth c H locs 0 0 (MQ below (pQv D cy S s.heap.size (fun S' => S' = tri S lx lw lf (aN (cy 0) 16 (nxt fg tab mm bits known xg (2 ^ mm))) (aN (cy 0) 320 (nup wg i (frg fg tab mm bits known (2 ^ mm)))) (aN (cy 0) 16 (lcop fg (nxt fg tab mm bits known xg (2 ^ mm)) (2 ^ mm))))) ([.ref h, .int (nI i), .int (nI bits), .int (nI known)]).toArray s 0 0 (pA S s.heap.size)) (F0 m 6 ls []) := by
    intro kf
    induction kf with
    | zero => intro v hm; exact absurd hm (Nat.not_lt_zero _)
    | succ kf ih6 =>
      intro v hm SA H locs ls hL1 hf2 hL3 hf4 hL5 hf6 hL7 hf8 hL9 hf10 hL11 hf12 hv hSA hw hl
      refine lv_iload hx hb dX9_advance_6 (lv_at hl 0 rfl) ?_
      refine lv_aload_n hx hb dX9_advance_8 rfl (lv_at hl 2 rfl) ?_
      refine p_calli (va_runV (As := []) (rest := [.int (nI v)]) C.fix (c_X9_states l D cy SA H.size h mm kk md lt hL1 hf2 hm4) (cwV 0 C.2.2.2.2.1 gX9_advance_X9_states rfl rfl rfl hdtrV_yX9_states_RX9 ⟨Nat.le_of_ble_eq_true rfl, Nat.le_of_ble_eq_true rfl⟩) (p_preV C hw hL1 hf2 rfl) rfl rfl hl.1 rfl (lv_room (Nat.le_of_ble_eq_true rfl)) dX9_advance_9 ⟨Nat.le_of_ble_eq_true rfl, Nat.le_of_ble_eq_true rfl⟩) hw hA (fun r14 S13 H locs hpost hw => ?_)
      obtain ⟨hr_, hS_⟩ := hpost
      subst hr_
      subst hS_
      refine n_icmp_ge (tgt := 124) hx hb (by omega) (by omega) dX9_advance_12 (by decide) (fun h_12 => ?_) (fun h_12 => ?_)
      · skip
        have hf15 : SA.2 lx = aN (cy 0) 16 (nxt fg tab mm bits known xg (2 ^ mm)) := (by rw [show 2 ^ mm = v from by omega]; exact hf10)
        refine lv_aload_n hx hb dX9_advance_124 rfl (lv_at hl 2 rfl) ?_
        refine p_get C hw (ci := 8) (Cn := RX9) (T := TX9) (N := 4) hL1 hf2 rfl hin_RX9 3 (by decide) (List.mem_of_getElem? (i := 2) rfl) rfl rfl dX9_advance_125 ?_
        refine lv_iload_n hx hb dX9_advance_128 rfl (lv_at hl 3 rfl) ?_
        refine lv_aload_n hx hb dX9_advance_129 rfl (lv_at hl 2 rfl) ?_
        refine p_calli (va_runV (As := []) (rest := [.int (nI i), .ref lt]) C.fix (c_X9_states l D cy SA H.size h mm kk md lt hL1 hf2 hm4) (cwV 0 C.2.2.2.2.1 gX9_advance_X9_states rfl rfl rfl hdtrV_yX9_states_RX9 ⟨Nat.le_of_ble_eq_true rfl, Nat.le_of_ble_eq_true rfl⟩) (p_preV C hw hL1 hf2 rfl) rfl rfl hl.1 rfl (lv_room (Nat.le_of_ble_eq_true rfl)) dX9_advance_130 ⟨Nat.le_of_ble_eq_true rfl, Nat.le_of_ble_eq_true rfl⟩) hw hA (fun r17 S16 H locs hpost hw => ?_)
        obtain ⟨hr_, hS_⟩ := hpost
        subst hr_
        subst hS_
        refine lv_iload hx hb dX9_advance_133 (lv_at hl 1 rfl) ?_
        have hvm : v = 2 ^ mm := by omega
        refine p_callv (va_runV (As := [.int (nI i), .int (nI (2 ^ mm)), .int (nI (frg fg tab mm bits known v))]) (rest := []) C.fix (c_X3_endStep l D cy SA H.size lt lf lx lw i (2 ^ mm) (frg fg tab mm bits known v) fg (nxt fg tab mm bits known xg (2 ^ mm)) wg hL5 hf6 hL7 hf8 hL9 hf15 hL11 hf12 hi3 h24 hwf.symm hxw hxf) (cwV 3 C.2.2.2.2.1 gX9_advance_X3_endStep rfl rfl rfl hdtrV_yX3_endStep_RX3 ⟨Nat.le_of_ble_eq_true rfl, Nat.le_of_ble_eq_true rfl⟩) (p_preV C hw hL5 hf6 rfl) rfl rfl hl.1 rfl (lv_room (Nat.le_of_ble_eq_true rfl)) dX9_advance_135 ⟨Nat.le_of_ble_eq_true rfl, Nat.le_of_ble_eq_true rfl⟩) hw hA (fun S18 H locs hpost hw => ?_)
        exact p_vret C hw (by rw [hpost, hSA, hvm]; rfl) hr hlocks dX9_advance_138
      · skip
        have hah := ahd_lt hm1 hm4 h_12
        have hwn := wnd_lt hm1 hm4 h_12
        have hsh := shr_le1 hm1 h_12
        have hfa1 := hfg (ahd mm v)
        have hfa2 := hfg (ahd mm v + 1)
        have hb1 := farT_le (tab := tab) (bits := bits) (known := known) (w := wnd mm v)
        have hb2 := farT_le (tab := tab) (bits := bits) (known := known) (w := wnd mm v + 1)
        have hfr := frg_lt (fg := fg) (tab := tab) (mm := mm) (bits := bits) (known := known) v
        have hp2v : 2 ^ v ≤ 65536 := two_pow_16 (by omega)
        refine lv_aload_n hx hb dX9_advance_15 rfl (lv_at hl 2 rfl) ?_
        refine lv_iload hx hb dX9_advance_16 (lv_at hl 0 rfl) ?_
        refine p_calli (va_runV (As := [.int (nI v)]) (rest := []) C.fix (c_X9_aheadOf l D cy SA H.size h mm kk md lt v hL1 hf2 hm4 (by omega)) (cwV 1 C.2.2.2.2.1 gX9_advance_X9_aheadOf rfl rfl rfl hdtrV_yX9_aheadOf_RX9 ⟨Nat.le_of_ble_eq_true rfl, Nat.le_of_ble_eq_true rfl⟩) (p_preV C hw hL1 hf2 rfl) rfl rfl hl.1 rfl (lv_room (Nat.le_of_ble_eq_true rfl)) dX9_advance_18 ⟨Nat.le_of_ble_eq_true rfl, Nat.le_of_ble_eq_true rfl⟩) hw hA (fun r21 S20 H locs hpost hw => ?_)
        obtain ⟨hr_, hS_⟩ := hpost
        subst hr_
        subst hS_
        refine lv_istore (lv' := [(6, .int (nI (ahd mm v))), (5, .int (nI v)), (4, .int (nI (frg fg tab mm bits known v))), (0, .ref h), (1, .int (nI i)), (2, .int (nI bits)), (3, .int (nI known))]) hx hb dX9_advance_21 hl (by decide) rfl (fun ls hl => ?_)
        refine lv_iload hx hb dX9_advance_23 (lv_at hl 1 rfl) ?_
        refine lv_aload_n hx hb dX9_advance_25 rfl (lv_at hl 3 rfl) ?_
        refine p_get C hw (ci := 8) (Cn := RX9) (T := TX9) (N := 4) hL1 hf2 rfl hin_RX9 0 (by decide) (List.mem_of_getElem? (i := 1) rfl) rfl rfl dX9_advance_26 ?_
        refine lv_iconst (v := nI 1) hx hb dX9_advance_29 (by decide) ?_
        refine n_isub hx hb (by omega) dX9_advance_30 ?_
        refine n_iushr hx hb (by omega) (by omega) dX9_advance_31 ?_
        refine lv_aload_n hx hb dX9_advance_32 rfl (lv_at hl 3 rfl) ?_
        refine p_get C hw (ci := 8) (Cn := RX9) (T := TX9) (N := 4) hL1 hf2 rfl hin_RX9 0 (by decide) (List.mem_of_getElem? (i := 1) rfl) rfl rfl dX9_advance_33 ?_
        refine n_ishl hx hb (by omega) (by have : v / 2 ^ (mm - 1) * 2 ^ mm ≤ 1 * 16 := Nat.mul_le_mul hsh h24; omega) dX9_advance_36 ?_
        refine lv_iload hx hb dX9_advance_37 (lv_at hl 0 rfl) ?_
        refine n_ior hx hb dX9_advance_39 ?_
        refine n_ren (b := wnd mm v) rfl ?_
        refine lv_istore (lv' := [(7, .int (nI (wnd mm v))), (6, .int (nI (ahd mm v))), (5, .int (nI v)), (4, .int (nI (frg fg tab mm bits known v))), (0, .ref h), (1, .int (nI i)), (2, .int (nI bits)), (3, .int (nI known))]) hx hb dX9_advance_40 hl (by decide) rfl (fun ls hl => ?_)
        refine lv_aload_n hx hb dX9_advance_42 rfl (lv_at hl 4 rfl) ?_
        refine p_get C hw (ci := 8) (Cn := RX9) (T := TX9) (N := 4) hL1 hf2 rfl hin_RX9 3 (by decide) (List.mem_of_getElem? (i := 2) rfl) rfl rfl dX9_advance_43 ?_
        refine lv_iload hx hb dX9_advance_46 (lv_at hl 1 rfl) ?_
        refine p_calli (va_runV (As := [.int (nI (ahd mm v))]) (rest := []) C.fix (c_X3_farnessOf l D cy SA H.size lt lf lx lw (ahd mm v) fg hL5 hf6 hL7 hf8 (by omega)) (cwV 1 C.2.2.2.2.1 gX9_advance_X3_farnessOf rfl rfl rfl hdtrV_yX3_farnessOf_RX3 ⟨Nat.le_of_ble_eq_true rfl, Nat.le_of_ble_eq_true rfl⟩) (p_preV C hw hL5 hf6 rfl) rfl rfl hl.1 rfl (lv_room (Nat.le_of_ble_eq_true rfl)) dX9_advance_48 ⟨Nat.le_of_ble_eq_true rfl, Nat.le_of_ble_eq_true rfl⟩) hw hA (fun r23 S22 H locs hpost hw => ?_)
        obtain ⟨hr_, hS_⟩ := hpost
        subst hr_
        subst hS_
        refine lv_aload_n hx hb dX9_advance_51 rfl (lv_at hl 4 rfl) ?_
        refine lv_iload hx hb dX9_advance_52 (lv_at hl 0 rfl) ?_
        refine lv_iload_n hx hb dX9_advance_54 rfl (lv_at hl 6 rfl) ?_
        refine lv_iload_n hx hb dX9_advance_55 rfl (lv_at hl 7 rfl) ?_
        refine p_calli (va_runV (As := [.int (nI (wnd mm v)), .int (nI bits), .int (nI known)]) (rest := [.int (nI (fg (ahd mm v)))]) C.fix (c_X9_farnessOf l D cy SA H.size h mm kk md lt (wnd mm v) bits known tab hL1 hf2 hL3 hf4 (by omega) (by omega)) (cwV 3 C.2.2.2.2.1 gX9_advance_X9_farnessOf rfl rfl rfl hdtrV_yX9_farnessOf_RX9 ⟨Nat.le_of_ble_eq_true rfl, Nat.le_of_ble_eq_true rfl⟩) (p_preV C hw hL1 hf2 rfl) rfl rfl hl.1 rfl (lv_room (Nat.le_of_ble_eq_true rfl)) dX9_advance_56 ⟨Nat.le_of_ble_eq_true rfl, Nat.le_of_ble_eq_true rfl⟩) hw hA (fun r25 S24 H locs hpost hw => ?_)
        obtain ⟨hr_, hS_⟩ := hpost
        subst hr_
        subst hS_
        refine n_iadd hx hb dX9_advance_59 ?_
        have hlo : loN fg tab mm bits known v ≤ BB + 12 := by unfold loN; omega
        refine n_ren (b := loN fg tab mm bits known v) rfl ?_
        refine lv_istore (lv' := [(8, .int (nI (loN fg tab mm bits known v))), (7, .int (nI (wnd mm v))), (6, .int (nI (ahd mm v))), (5, .int (nI v)), (4, .int (nI (frg fg tab mm bits known v))), (0, .ref h), (1, .int (nI i)), (2, .int (nI bits)), (3, .int (nI known))]) hx hb dX9_advance_60 hl (by decide) rfl (fun ls hl => ?_)
        refine lv_aload_n hx hb dX9_advance_62 rfl (lv_at hl 5 rfl) ?_
        refine p_get C hw (ci := 8) (Cn := RX9) (T := TX9) (N := 4) hL1 hf2 rfl hin_RX9 3 (by decide) (List.mem_of_getElem? (i := 2) rfl) rfl rfl dX9_advance_63 ?_
        refine lv_iload hx hb dX9_advance_66 (lv_at hl 2 rfl) ?_
        refine lv_iconst (v := nI 1) hx hb dX9_advance_68 (by decide) ?_
        refine n_iadd hx hb dX9_advance_69 ?_
        refine p_calli (va_runV (As := [.int (nI ((ahd mm v) + 1))]) (rest := []) C.fix (c_X3_farnessOf l D cy SA H.size lt lf lx lw ((ahd mm v) + 1) fg hL5 hf6 hL7 hf8 (by omega)) (cwV 1 C.2.2.2.2.1 gX9_advance_X3_farnessOf rfl rfl rfl hdtrV_yX3_farnessOf_RX3 ⟨Nat.le_of_ble_eq_true rfl, Nat.le_of_ble_eq_true rfl⟩) (p_preV C hw hL5 hf6 rfl) rfl rfl hl.1 rfl (lv_room (Nat.le_of_ble_eq_true rfl)) dX9_advance_70 ⟨Nat.le_of_ble_eq_true rfl, Nat.le_of_ble_eq_true rfl⟩) hw hA (fun r27 S26 H locs hpost hw => ?_)
        obtain ⟨hr_, hS_⟩ := hpost
        subst hr_
        subst hS_
        refine lv_aload_n hx hb dX9_advance_73 rfl (lv_at hl 5 rfl) ?_
        refine lv_iload hx hb dX9_advance_74 (lv_at hl 1 rfl) ?_
        refine lv_iconst (v := nI 1) hx hb dX9_advance_76 (by decide) ?_
        refine n_iadd hx hb dX9_advance_77 ?_
        refine lv_iload_n hx hb dX9_advance_78 rfl (lv_at hl 7 rfl) ?_
        refine lv_iload_n hx hb dX9_advance_79 rfl (lv_at hl 8 rfl) ?_
        refine p_calli (va_runV (As := [.int (nI ((wnd mm v) + 1)), .int (nI bits), .int (nI known)]) (rest := [.int (nI (fg ((ahd mm v) + 1)))]) C.fix (c_X9_farnessOf l D cy SA H.size h mm kk md lt ((wnd mm v) + 1) bits known tab hL1 hf2 hL3 hf4 (by omega) (by omega)) (cwV 3 C.2.2.2.2.1 gX9_advance_X9_farnessOf rfl rfl rfl hdtrV_yX9_farnessOf_RX9 ⟨Nat.le_of_ble_eq_true rfl, Nat.le_of_ble_eq_true rfl⟩) (p_preV C hw hL1 hf2 rfl) rfl rfl hl.1 rfl (lv_room (Nat.le_of_ble_eq_true rfl)) dX9_advance_80 ⟨Nat.le_of_ble_eq_true rfl, Nat.le_of_ble_eq_true rfl⟩) hw hA (fun r29 S28 H locs hpost hw => ?_)
        obtain ⟨hr_, hS_⟩ := hpost
        subst hr_
        subst hS_
        refine n_iadd hx hb dX9_advance_83 ?_
        have hhi : hiN fg tab mm bits known v ≤ BB + 12 := by unfold hiN; omega
        refine n_ren (b := hiN fg tab mm bits known v) rfl ?_
        refine lv_istore (lv' := [(9, .int (nI (hiN fg tab mm bits known v))), (8, .int (nI (loN fg tab mm bits known v))), (7, .int (nI (wnd mm v))), (6, .int (nI (ahd mm v))), (5, .int (nI v)), (4, .int (nI (frg fg tab mm bits known v))), (0, .ref h), (1, .int (nI i)), (2, .int (nI bits)), (3, .int (nI known))]) hx hb dX9_advance_84 hl (by decide) rfl (fun ls hl => ?_)
        refine lv_iload hx hb dX9_advance_86 (lv_at hl 0 rfl) ?_
        refine lv_iload hx hb dX9_advance_88 (lv_at hl 1 rfl) ?_
        refine n_icmp_ge (tgt := 102) hx hb (by omega) (by omega) dX9_advance_90 (by decide) (fun h_90 => ?_) (fun h_90 => ?_)
        · skip
          rw [← frg_f h_90] at hl
          refine lv_aload_n hx hb dX9_advance_102 rfl (lv_at hl 6 rfl) ?_
          refine p_get C hw (ci := 8) (Cn := RX9) (T := TX9) (N := 4) hL1 hf2 rfl hin_RX9 3 (by decide) (List.mem_of_getElem? (i := 2) rfl) rfl rfl dX9_advance_103 ?_
          refine lv_iload hx hb dX9_advance_106 (lv_at hl 4 rfl) ?_
          refine lv_iload hx hb dX9_advance_108 (lv_at hl 1 rfl) ?_
          refine lv_iload hx hb dX9_advance_110 (lv_at hl 0 rfl) ?_
          refine n_mmin C hl.1.symm (index := 86) (List.mem_of_getElem? (i := 3) rfl) (List.mem_of_getElem? (i := 4) rfl) (List.mem_of_getElem? (i := 5) rfl) (List.mem_of_getElem? (i := 6) rfl) (Nat.le_of_ble_eq_true rfl) (Nat.le_of_ble_eq_true rfl) (Nat.le_of_ble_eq_true rfl) (Nat.le_of_ble_eq_true rfl) (by omega) (by omega) dX9_advance_112 ?_
          refine p_callv (va_runV (As := [.int (nI v), .int (nI (min (loN fg tab mm bits known v) (hiN fg tab mm bits known v)))]) (rest := []) C.fix (c_X3_keepNext l D cy SA H.size lt lf lx lw v (min (loN fg tab mm bits known v) (hiN fg tab mm bits known v)) (nxt fg tab mm bits known xg v) hL5 hf6 hL9 hf10 (by omega)) (cwV 2 C.2.2.2.2.1 gX9_advance_X3_keepNext rfl rfl rfl hdtrV_yX3_keepNext_RX3 ⟨Nat.le_of_ble_eq_true rfl, Nat.le_of_ble_eq_true rfl⟩) (p_preV C hw hL5 hf6 rfl) rfl rfl hl.1 rfl (lv_room (Nat.le_of_ble_eq_true rfl)) dX9_advance_115 ⟨Nat.le_of_ble_eq_true rfl, Nat.le_of_ble_eq_true rfl⟩) hw hA (fun S30 H locs hpost hw => ?_)
          have hL32 : h ∈ S30.1 := by rw [hpost]; exact hL1
          have hf33 : S30.2 h = .inr (8, [.int (nI mm), .int (nI kk), .ref md, .ref lt]) := by rw [hpost]; exact (pup_n (ne_cells hf2 hf10 (by nofun))).trans hf2
          have hL34 : md ∈ S30.1 := by rw [hpost]; exact hL3
          have hf35 : S30.2 md = aN (cy 0) 32 tab := by rw [hpost]; exact (pup_n (by first | assumption | exact Ne.symm (by assumption))).trans hf4
          have hL36 : lt ∈ S30.1 := by rw [hpost]; exact hL5
          have hf37 : S30.2 lt = .inr (3, [.ref lf, .ref lx, .ref lw]) := by rw [hpost]; exact (pup_n (ne_cells hf6 hf10 (by nofun))).trans hf6
          have hL38 : lf ∈ S30.1 := by rw [hpost]; exact hL7
          have hf39 : S30.2 lf = aN (cy 0) 16 fg := by rw [hpost]; exact (pup_n (by first | assumption | exact Ne.symm (by assumption))).trans hf8
          have hL40 : lx ∈ S30.1 := by rw [hpost]; exact hL9
          have hf41 : S30.2 lx = aN (cy 0) 16 (nup (nxt fg tab mm bits known xg v) v (min (loN fg tab mm bits known v) (hiN fg tab mm bits known v))) := by rw [hpost]; exact pup_s
          have hL42 : lw ∈ S30.1 := by rw [hpost]; exact hL11
          have hf43 : S30.2 lw = aN (cy 0) 320 wg := by rw [hpost]; exact (pup_n (by first | assumption | exact Ne.symm (by assumption))).trans hf12
          refine lv_iinc (v := (nI (v + 1))) (lv' := [(5, .int (nI (v + 1))), (9, .int (nI (hiN fg tab mm bits known v))), (8, .int (nI (loN fg tab mm bits known v))), (7, .int (nI (wnd mm v))), (6, .int (nI (ahd mm v))), (4, .int (nI (frg fg tab mm bits known (v + 1)))), (0, .ref h), (1, .int (nI i)), (2, .int (nI bits)), (3, .int (nI known))]) hx hb dX9_advance_118 hl (k := 4) rfl (by rw [show Int32.ofInt 1 = nI 1 from by decide, nI_add]) (by decide) rfl (fun ls hl => ?_)
          refine lv_goto (tgt := 6) hx hb dX9_advance_121 (by decide) ?_
          exact ih6 (v + 1) (by omega) S30 H locs ls hL32 hf33 hL34 hf35 hL36 hf37 hL38 hf39 hL40 (by rw [hpost, nxt_s]; exact pup_s) hL42 hf43 (by omega) (by rw [hpost, hSA, pup_pup, nxt_s]) hw (lv_sub hl [0, 5, 6, 7, 8, 9] rfl)
        · skip
          refine lv_iload hx hb dX9_advance_93 (lv_at hl 5 rfl) ?_
          refine lv_iconst (v := nI 1) hx hb dX9_advance_95 (by decide) ?_
          refine lv_iload hx hb dX9_advance_96 (lv_at hl 4 rfl) ?_
          refine n_ishl hx hb (by omega) (by omega) dX9_advance_98 ?_
          refine n_ior hx hb dX9_advance_99 ?_
          refine n_ren (b := frg fg tab mm bits known (v + 1)) (frg_t h_90) ?_
          refine lv_istore (lv' := [(4, .int (nI (frg fg tab mm bits known (v + 1)))), (9, .int (nI (hiN fg tab mm bits known v))), (8, .int (nI (loN fg tab mm bits known v))), (7, .int (nI (wnd mm v))), (6, .int (nI (ahd mm v))), (5, .int (nI v)), (0, .ref h), (1, .int (nI i)), (2, .int (nI bits)), (3, .int (nI known))]) hx hb dX9_advance_100 hl (by decide) rfl (fun ls hl => ?_)
          refine lv_aload_n hx hb dX9_advance_102 rfl (lv_at hl 6 rfl) ?_
          refine p_get C hw (ci := 8) (Cn := RX9) (T := TX9) (N := 4) hL1 hf2 rfl hin_RX9 3 (by decide) (List.mem_of_getElem? (i := 2) rfl) rfl rfl dX9_advance_103 ?_
          refine lv_iload hx hb dX9_advance_106 (lv_at hl 5 rfl) ?_
          refine lv_iload hx hb dX9_advance_108 (lv_at hl 2 rfl) ?_
          refine lv_iload hx hb dX9_advance_110 (lv_at hl 1 rfl) ?_
          refine n_mmin C hl.1.symm (index := 86) (List.mem_of_getElem? (i := 3) rfl) (List.mem_of_getElem? (i := 4) rfl) (List.mem_of_getElem? (i := 5) rfl) (List.mem_of_getElem? (i := 6) rfl) (Nat.le_of_ble_eq_true rfl) (Nat.le_of_ble_eq_true rfl) (Nat.le_of_ble_eq_true rfl) (Nat.le_of_ble_eq_true rfl) (by omega) (by omega) dX9_advance_112 ?_
          refine p_callv (va_runV (As := [.int (nI v), .int (nI (min (loN fg tab mm bits known v) (hiN fg tab mm bits known v)))]) (rest := []) C.fix (c_X3_keepNext l D cy SA H.size lt lf lx lw v (min (loN fg tab mm bits known v) (hiN fg tab mm bits known v)) (nxt fg tab mm bits known xg v) hL5 hf6 hL9 hf10 (by omega)) (cwV 2 C.2.2.2.2.1 gX9_advance_X3_keepNext rfl rfl rfl hdtrV_yX3_keepNext_RX3 ⟨Nat.le_of_ble_eq_true rfl, Nat.le_of_ble_eq_true rfl⟩) (p_preV C hw hL5 hf6 rfl) rfl rfl hl.1 rfl (lv_room (Nat.le_of_ble_eq_true rfl)) dX9_advance_115 ⟨Nat.le_of_ble_eq_true rfl, Nat.le_of_ble_eq_true rfl⟩) hw hA (fun S44 H locs hpost hw => ?_)
          have hL46 : h ∈ S44.1 := by rw [hpost]; exact hL1
          have hf47 : S44.2 h = .inr (8, [.int (nI mm), .int (nI kk), .ref md, .ref lt]) := by rw [hpost]; exact (pup_n (ne_cells hf2 hf10 (by nofun))).trans hf2
          have hL48 : md ∈ S44.1 := by rw [hpost]; exact hL3
          have hf49 : S44.2 md = aN (cy 0) 32 tab := by rw [hpost]; exact (pup_n (by first | assumption | exact Ne.symm (by assumption))).trans hf4
          have hL50 : lt ∈ S44.1 := by rw [hpost]; exact hL5
          have hf51 : S44.2 lt = .inr (3, [.ref lf, .ref lx, .ref lw]) := by rw [hpost]; exact (pup_n (ne_cells hf6 hf10 (by nofun))).trans hf6
          have hL52 : lf ∈ S44.1 := by rw [hpost]; exact hL7
          have hf53 : S44.2 lf = aN (cy 0) 16 fg := by rw [hpost]; exact (pup_n (by first | assumption | exact Ne.symm (by assumption))).trans hf8
          have hL54 : lx ∈ S44.1 := by rw [hpost]; exact hL9
          have hf55 : S44.2 lx = aN (cy 0) 16 (nup (nxt fg tab mm bits known xg v) v (min (loN fg tab mm bits known v) (hiN fg tab mm bits known v))) := by rw [hpost]; exact pup_s
          have hL56 : lw ∈ S44.1 := by rw [hpost]; exact hL11
          have hf57 : S44.2 lw = aN (cy 0) 320 wg := by rw [hpost]; exact (pup_n (by first | assumption | exact Ne.symm (by assumption))).trans hf12
          refine lv_iinc (v := (nI (v + 1))) (lv' := [(5, .int (nI (v + 1))), (4, .int (nI (frg fg tab mm bits known (v + 1)))), (9, .int (nI (hiN fg tab mm bits known v))), (8, .int (nI (loN fg tab mm bits known v))), (7, .int (nI (wnd mm v))), (6, .int (nI (ahd mm v))), (0, .ref h), (1, .int (nI i)), (2, .int (nI bits)), (3, .int (nI known))]) hx hb dX9_advance_118 hl (k := 5) rfl (by rw [show Int32.ofInt 1 = nI 1 from by decide, nI_add]) (by decide) rfl (fun ls hl => ?_)
          refine lv_goto (tgt := 6) hx hb dX9_advance_121 (by decide) ?_
          exact ih6 (v + 1) (by omega) S44 H locs ls hL46 hf47 hL48 hf49 hL50 hf51 hL52 hf53 hL54 (by rw [hpost, nxt_s]; exact pup_s) hL56 hf57 (by omega) (by rw [hpost, hSA, pup_pup, nxt_s]) hw (lv_sub hl [0, 1, 6, 7, 8, 9] rfl)
  exact loop6 ((2 ^ mm) - 0 + 1) 0 (by omega) S s.heap [] ls hL_h hf_h hL_md hf_md hL_lt hf_lt hL_lf hf_lf hL_lx (by rw [nxt_0]; exact hf_lx) hL_lw hf_lw (Nat.zero_le _) (by rw [nxt_0]; exact (pup_self hf_lx).symm) hw (lv_sub hl [0, 1, 2, 3, 4, 5] rfl)

theorem hdtrV_yX3_startAt_RX3 : yX3_startAt.cls = RX3 ∧ yX3_startAt.cls ≠ "java/lang/invoke/MethodHandle" ∧ yX3_startAt.cls ≠ "java/lang/invoke/VarHandle" ∧ (parseMethodDescriptor yX3_startAt.desc).map (fun d => d.parameters.length) = some 2 := by decide +kernel
theorem hdtrV_yX7_put_RX7 : yX7_put.cls = RX7 ∧ yX7_put.cls ≠ "java/lang/invoke/MethodHandle" ∧ yX7_put.cls ≠ "java/lang/invoke/VarHandle" ∧ (parseMethodDescriptor yX7_put.desc).map (fun d => d.parameters.length) = some 2 := by decide +kernel
theorem hdtrV_yX3_cameFromGreater_RX3 : yX3_cameFromGreater.cls = RX3 ∧ yX3_cameFromGreater.cls ≠ "java/lang/invoke/MethodHandle" ∧ yX3_cameFromGreater.cls ≠ "java/lang/invoke/VarHandle" ∧ (parseMethodDescriptor yX3_cameFromGreater.desc).map (fun d => d.parameters.length) = some 2 := by decide +kernel
theorem hdtrV_yX7_knownAt_RX7 : yX7_knownAt.cls = RX7 ∧ yX7_knownAt.cls ≠ "java/lang/invoke/MethodHandle" ∧ yX7_knownAt.cls ≠ "java/lang/invoke/VarHandle" ∧ (parseMethodDescriptor yX7_knownAt.desc).map (fun d => d.parameters.length) = some 2 := by decide +kernel
theorem hdtrV_yX9_advance_RX9 : yX9_advance.cls = RX9 ∧ yX9_advance.cls ≠ "java/lang/invoke/MethodHandle" ∧ yX9_advance.cls ≠ "java/lang/invoke/VarHandle" ∧ (parseMethodDescriptor yX9_advance.desc).map (fun d => d.parameters.length) = some 3 := by decide +kernel
set_option maxHeartbeats 4000000 in
set_option maxRecDepth 100000 in
/-- Trail.decode -/
theorem c_X9_decode (l : Launch) (D : va_G) (cy : Nat → ClassId) (S : pS) (sz : Nat) (h mm kk md lt lf lx lw BB : Nat) (tab fg xg wg : Nat → Nat) (a a1 Na na b b1 Nb nb : Nat) (ga gb : Nat → Nat) (hL_h : h ∈ S.1) (hf_h : S.2 h = .inr (8, [.int (nI mm), .int (nI kk), .ref md, .ref lt])) (hL_md : md ∈ S.1) (hf_md : S.2 md = aN (cy 0) 32 tab) (hL_lt : lt ∈ S.1) (hf_lt : S.2 lt = .inr (3, [.ref lf, .ref lx, .ref lw])) (hL_lf : lf ∈ S.1) (hf_lf : S.2 lf = aN (cy 0) 16 fg) (hL_lx : lx ∈ S.1) (hf_lx : S.2 lx = aN (cy 0) 16 xg) (hL_lw : lw ∈ S.1) (hf_lw : S.2 lw = aN (cy 0) 320 wg) (hL_a : a ∈ S.1) (hf_a : S.2 a = .inr (7, [.ref a1, .int (nI na)])) (hL_a1 : a1 ∈ S.1) (hf_a1 : S.2 a1 = aN (cy 0) Na ga) (hL_b : b ∈ S.1) (hf_b : S.2 b = .inr (7, [.ref b1, .int (nI nb)])) (hL_b1 : b1 ∈ S.1) (hf_b1 : S.2 b1 = aN (cy 0) Nb gb) (hm1 : 1 ≤ mm) (hm4 : mm ≤ 4) (hk2 : 2 ≤ kk) (hk3 : kk ≤ 3) (htab : ∀ q, tab q < 8) (hn4 : nb ≤ 310) (hB0 : 1000000 ≤ BB) (hB : BB < 2 ^ 28) (hfg : ∀ q, fg q ≤ BB) (hwg : ∀ q, wg q < 65536) (hxf : lx ≠ lf) (hxw : lx ≠ lw) (hwf : lw ≠ lf) (hmf : md ≠ lf) (hmx : md ≠ lx) (hmw : md ≠ lw) (hab1 : a1 ≠ lf) (hab2 : a1 ≠ lx) (hab3 : a1 ≠ lw) (hbb1 : b1 ≠ lf) (hbb2 : b1 ≠ lx) (hbb3 : b1 ≠ lw) (hmb : md ≠ b1) (hNa : Na < 2 ^ 27) (hna : na ≤ Na) (hga : ∀ q, ga q ≤ 2) (hNb : Nb < 2 ^ 27) (hnb : nb ≤ Nb) (hgb : ∀ q, gb q ≤ 2) (hne : a1 ≠ b1) : Met l yX9_decode wsX9_decode ({ frames := 3, cells := 0, slots := 0, locals := 73 }) (pPc D cy S sz [.ref h, .ref a, .ref b]) (pQv D cy S sz (fun S' => S' = pup (tri S lx lw lf (aN (cy 0) 16 ((vit tab ga na mm kk fg xg wg (stp mm nb)).2.1)) (aN (cy 0) 320 ((vit tab ga na mm kk fg xg wg (stp mm nb)).2.2)) (aN (cy 0) 16 ((vit tab ga na mm kk fg xg wg (stp mm nb)).1))) b1 (aN (cy 0) Nb (rtb gb nb mm (stp mm nb) (vit tab ga na mm kk fg xg wg (stp mm nb)).2.2 (stp mm nb))))) 0 0 (pA S sz) := by
  refine Met.ofW (cc := cX9_decode) (maxL := 7) (ret := none) (by decide) rfl ?_
  intro p e s m args below meth c s₁ B hml hv
  obtain ⟨rfl, rfl, C, hw, hA, hr, hlocks⟩ := p_start B hml hv
  have hx := C.1
  have hb := C.2.1
  have hl := lv_entry ([.ref h, .ref a, .ref b]) (n := 7) (Nat.le_of_ble_eq_true rfl)
  rw [lg_entry_eq]
  generalize (lg_sl ([.ref h, .ref a, .ref b]) ++ List.replicate (7 - (lg_sl ([.ref h, .ref a, .ref b])).length) Slot.unset).toArray = ls at hl ⊢
  have hl : lv_has ls 7 [(0, .ref h), (1, .ref a), (2, .ref b)] := hl
  have hin_RX9 : ∀ w ∈ u_ws RX9 TX9 4, w ∈ wsX9_decode := by decide +kernel
  have hs4 := stp_le (mm := mm) (n := nb)
  have h24 := two_pow_4 hm4
  refine lv_aload_n hx hb dX9_decode_0 rfl (lv_at hl 0 rfl) ?_
  refine lv_aload_n hx hb dX9_decode_1 rfl (lv_at hl 2 rfl) ?_
  refine p_calli (va_runV (As := []) (rest := [.ref h]) C.fix (c_X7_size l D cy S s.heap.size b b1 nb hL_b hf_b) (cwV 0 C.2.2.2.2.1 gX9_decode_X7_size rfl rfl rfl hdtrV_yX7_size_RX7 ⟨Nat.le_of_ble_eq_true rfl, Nat.le_of_ble_eq_true rfl⟩) (p_preV C hw hL_b hf_b rfl) rfl rfl hl.1 rfl (lv_room (Nat.le_of_ble_eq_true rfl)) dX9_decode_2 ⟨Nat.le_of_ble_eq_true rfl, Nat.le_of_ble_eq_true rfl⟩) hw hA (fun r2 S1 H locs hpost hw => ?_)
  obtain ⟨hr_, hS_⟩ := hpost
  subst hr_
  subst hS_
  refine p_calli (va_runV (As := [.int (nI nb)]) (rest := []) C.fix (c_X9_stepsFor l D cy S H.size h mm kk md lt nb hL_h hf_h (by omega)) (cwV 1 C.2.2.2.2.1 gX9_decode_X9_stepsFor rfl rfl rfl hdtrV_yX9_stepsFor_RX9 ⟨Nat.le_of_ble_eq_true rfl, Nat.le_of_ble_eq_true rfl⟩) (p_preV C hw hL_h hf_h rfl) rfl rfl hl.1 rfl (lv_room (Nat.le_of_ble_eq_true rfl)) dX9_decode_5 ⟨Nat.le_of_ble_eq_true rfl, Nat.le_of_ble_eq_true rfl⟩) hw hA (fun r4 S3 H locs hpost hw => ?_)
  obtain ⟨hr_, hS_⟩ := hpost
  subst hr_
  subst hS_
  refine lv_istore_n (lv' := [(3, .int (nI (stp mm nb))), (0, .ref h), (1, .ref a), (2, .ref b)]) hx hb dX9_decode_8 rfl hl (by decide) rfl (fun ls hl => ?_)
  refine lv_aload_n hx hb dX9_decode_9 rfl (lv_at hl 1 rfl) ?_
  refine p_get C hw (ci := 8) (Cn := RX9) (T := TX9) (N := 4) hL_h hf_h rfl hin_RX9 3 (by decide) (List.mem_of_getElem? (i := 1) rfl) rfl rfl dX9_decode_10 ?_
  refine lv_iconst (v := nI 0) hx hb dX9_decode_13 (by decide) ?_
  refine lv_iconst (v := nI 0) hx hb dX9_decode_14 (by decide) ?_
  refine p_callv (va_runV (As := [.int (nI 0), .int (nI 0)]) (rest := []) C.fix (c_X3_startAt l D cy S H.size lt lf lx lw 0 0 fg hL_lt hf_lt hL_lf hf_lf (by omega)) (cwV 2 C.2.2.2.2.1 gX9_decode_X3_startAt rfl rfl rfl hdtrV_yX3_startAt_RX3 ⟨Nat.le_of_ble_eq_true rfl, Nat.le_of_ble_eq_true rfl⟩) (p_preV C hw hL_lt hf_lt rfl) rfl rfl hl.1 rfl (lv_room (Nat.le_of_ble_eq_true rfl)) dX9_decode_15 ⟨Nat.le_of_ble_eq_true rfl, Nat.le_of_ble_eq_true rfl⟩) hw hA (fun S5 H locs hpost hw => ?_)
  have hpost0 : S5 = _ := hpost
  have hL7 : h ∈ S5.1 := by rw [hpost]; exact hL_h
  have hf8 : S5.2 h = .inr (8, [.int (nI mm), .int (nI kk), .ref md, .ref lt]) := by rw [hpost]; exact (pup_n (ne_cells hf_h hf_lf (by nofun))).trans hf_h
  have hL9 : md ∈ S5.1 := by rw [hpost]; exact hL_md
  have hf10 : S5.2 md = aN (cy 0) 32 tab := by rw [hpost]; exact (pup_n (by first | assumption | exact Ne.symm (by assumption))).trans hf_md
  have hL11 : lt ∈ S5.1 := by rw [hpost]; exact hL_lt
  have hf12 : S5.2 lt = .inr (3, [.ref lf, .ref lx, .ref lw]) := by rw [hpost]; exact (pup_n (ne_cells hf_lt hf_lf (by nofun))).trans hf_lt
  have hL13 : lf ∈ S5.1 := by rw [hpost]; exact hL_lf
  have hf14 : S5.2 lf = aN (cy 0) 16 (lsta fg 0 0 16) := by rw [hpost]; exact pup_s
  have hL15 : lx ∈ S5.1 := by rw [hpost]; exact hL_lx
  have hf16 : S5.2 lx = aN (cy 0) 16 xg := by rw [hpost]; exact (pup_n (by first | assumption | exact Ne.symm (by assumption))).trans hf_lx
  have hL17 : lw ∈ S5.1 := by rw [hpost]; exact hL_lw
  have hf18 : S5.2 lw = aN (cy 0) 320 wg := by rw [hpost]; exact (pup_n (by first | assumption | exact Ne.symm (by assumption))).trans hf_lw
  have hL19 : a ∈ S5.1 := by rw [hpost]; exact hL_a
  have hf20 : S5.2 a = .inr (7, [.ref a1, .int (nI na)]) := by rw [hpost]; exact (pup_n (ne_cells hf_a hf_lf (by nofun))).trans hf_a
  have hL21 : a1 ∈ S5.1 := by rw [hpost]; exact hL_a1
  have hf22 : S5.2 a1 = aN (cy 0) Na ga := by rw [hpost]; exact (pup_n (by first | assumption | exact Ne.symm (by assumption))).trans hf_a1
  have hL23 : b ∈ S5.1 := by rw [hpost]; exact hL_b
  have hf24 : S5.2 b = .inr (7, [.ref b1, .int (nI nb)]) := by rw [hpost]; exact (pup_n (ne_cells hf_b hf_lf (by nofun))).trans hf_b
  have hL25 : b1 ∈ S5.1 := by rw [hpost]; exact hL_b1
  have hf26 : S5.2 b1 = aN (cy 0) Nb gb := by rw [hpost]; exact (pup_n (by first | assumption | exact Ne.symm (by assumption))).trans hf_b1
  refine lv_iconst (v := nI 0) hx hb dX9_decode_18 (by decide) ?_
  refine lv_istore (lv' := [(4, .int (nI 0)), (3, .int (nI (stp mm nb))), (0, .ref h), (1, .ref a), (2, .ref b)]) hx hb dX9_decode_19 hl (by decide) rfl (fun ls hl => ?_)
  have loop21 : ∀ (kf : Nat) (i : Nat), (stp mm nb) - i < kf → ∀ (SA : pS), ∀ (H : Heap) (locs : List Loc) (ls : Array Slot), (h ∈ SA.1) → (SA.2 h = .inr (8, [.int (nI mm), .int (nI kk), .ref md, .ref lt])) → (md ∈ SA.1) → (SA.2 md = aN (cy 0) 32 tab) → (lt ∈ SA.1) → (SA.2 lt = .inr (3, [.ref lf, .ref lx, .ref lw])) → (lf ∈ SA.1) → (SA.2 lf = aN (cy 0) 16 ((vit tab ga na mm kk fg xg wg i).1)) → (lx ∈ SA.1) → (SA.2 lx = aN (cy 0) 16 ((vit tab ga na mm kk fg xg wg i).2.1)) → (lw ∈ SA.1) → (SA.2 lw = aN (cy 0) 320 ((vit tab ga na mm kk fg xg wg i).2.2)) → (a ∈ SA.1) → (SA.2 a = .inr (7, [.ref a1, .int (nI na)])) → (a1 ∈ SA.1) → (SA.2 a1 = aN (cy 0) Na ga) → (b ∈ SA.1) → (SA.2 b = .inr (7, [.ref b1, .int (nI nb)])) → (b1 ∈ SA.1) → (SA.2 b1 = aN (cy 0) Nb gb) → (i ≤ stp mm nb) → (SA = tri S lx lw lf (aN (cy 0) 16 ((vit tab ga na mm kk fg xg wg i).2.1)) (aN (cy 0) 320 ((vit tab ga na mm kk fg xg wg i).2.2)) (aN (cy 0) 16 ((vit tab ga na mm kk fg xg wg i).1))) → pW D (pA S s.heap.size) s.heap SA H locs → lv_has ls 7 [(4, .int (nI i)), (3, .int (nI (stp mm nb))), (0, .ref h), (1, .ref a), (2, .ref b)] → W p l e (headSpec wsX9_decode ({ frames := 3, cells := 0, slots := 0, locals := 73 } : Room)).room s m ([.ref h, .ref a, .ref b]).toArray below meth c H locs 0 0 (MQ below (pQv D cy S s.heap.size (fun S' => S' = pup (tri S lx lw lf (aN (cy 0) 16 ((vit tab ga na mm kk fg xg wg (stp mm nb)).2.1)) (aN (cy 0) 320 ((vit tab ga na mm kk fg xg wg (stp mm nb)).2.2)) (aN (cy 0) 16 ((vit tab ga na mm kk fg xg wg (stp mm nb)).1))) b1 (aN (cy 0) Nb (rtb gb nb mm (stp mm nb) (vit tab ga na mm kk fg xg wg (stp mm nb)).2.2 (stp mm nb))))) ([.ref h, .ref a, .ref b]).toArray s 0 0 (pA S s.heap.size)) (F0 m 21 ls []) := by
    intro kf
    induction kf with
    | zero => intro i hm; exact absurd hm (Nat.not_lt_zero _)
    | succ kf ih21 =>
      intro i hm SA H locs ls hL27 hf28 hL29 hf30 hL31 hf32 hL33 hf34 hL35 hf36 hL37 hf38 hL39 hf40 hL41 hf42 hL43 hf44 hL45 hf46 hi hSA hw hl
      refine lv_iload hx hb dX9_decode_21 (lv_at hl 0 rfl) ?_
      refine lv_iload_n hx hb dX9_decode_23 rfl (lv_at hl 1 rfl) ?_
      refine n_icmp_ge (tgt := 77) hx hb (by omega) (by omega) dX9_decode_24 (by decide) (fun h_24 => ?_) (fun h_24 => ?_)
      · skip
        have him : i = stp mm nb := by omega
        subst him
        refine lv_iconst (v := nI 0) hx hb dX9_decode_77 (by decide) ?_
        refine lv_istore (lv' := [(4, .int (nI 0)), (3, .int (nI (stp mm nb))), (0, .ref h), (1, .ref a), (2, .ref b)]) hx hb dX9_decode_78 hl (by decide) rfl (fun ls hl => ?_)
        refine lv_iload_n hx hb dX9_decode_80 rfl (lv_at hl 1 rfl) ?_
        refine lv_iconst (v := nI 1) hx hb dX9_decode_81 (by decide) ?_
        refine lv_isub hx hb dX9_decode_82 ?_
        refine lv_istore (lv' := [(5, .int ((nI (stp mm nb)) - (nI 1))), (4, .int (nI 0)), (3, .int (nI (stp mm nb))), (0, .ref h), (1, .ref a), (2, .ref b)]) hx hb dX9_decode_83 hl (by decide) rfl (fun ls hl => ?_)
        have loop85 : ∀ (kf : Nat) (e2 : Nat), (stp mm nb) - e2 < kf → ∀ (SB : pS), ∀ (H : Heap) (locs : List Loc) (ls : Array Slot), (h ∈ SB.1) → (SB.2 h = .inr (8, [.int (nI mm), .int (nI kk), .ref md, .ref lt])) → (md ∈ SB.1) → (SB.2 md = aN (cy 0) 32 tab) → (lt ∈ SB.1) → (SB.2 lt = .inr (3, [.ref lf, .ref lx, .ref lw])) → (lf ∈ SB.1) → (SB.2 lf = aN (cy 0) 16 ((vit tab ga na mm kk fg xg wg (stp mm nb)).1)) → (lx ∈ SB.1) → (SB.2 lx = aN (cy 0) 16 ((vit tab ga na mm kk fg xg wg (stp mm nb)).2.1)) → (lw ∈ SB.1) → (SB.2 lw = aN (cy 0) 320 ((vit tab ga na mm kk fg xg wg (stp mm nb)).2.2)) → (a ∈ SB.1) → (SB.2 a = .inr (7, [.ref a1, .int (nI na)])) → (a1 ∈ SB.1) → (SB.2 a1 = aN (cy 0) Na ga) → (b ∈ SB.1) → (SB.2 b = .inr (7, [.ref b1, .int (nI nb)])) → (b1 ∈ SB.1) → (SB.2 b1 = aN (cy 0) Nb (rtb gb nb mm (stp mm nb) (vit tab ga na mm kk fg xg wg (stp mm nb)).2.2 e2)) → (e2 ≤ (stp mm nb)) → (SB = pup (tri S lx lw lf (aN (cy 0) 16 ((vit tab ga na mm kk fg xg wg (stp mm nb)).2.1)) (aN (cy 0) 320 ((vit tab ga na mm kk fg xg wg (stp mm nb)).2.2)) (aN (cy 0) 16 ((vit tab ga na mm kk fg xg wg (stp mm nb)).1))) b1 (aN (cy 0) Nb (rtb gb nb mm (stp mm nb) (vit tab ga na mm kk fg xg wg (stp mm nb)).2.2 e2))) → pW D (pA S s.heap.size) s.heap SB H locs → lv_has ls 7 [(5, .int (nI ((stp mm nb) - e2) - nI 1)), (4, .int (nI (tbk mm (stp mm nb) (vit tab ga na mm kk fg xg wg (stp mm nb)).2.2 e2))), (3, .int (nI (stp mm nb))), (0, .ref h), (1, .ref a), (2, .ref b)] → W p l e (headSpec wsX9_decode ({ frames := 3, cells := 0, slots := 0, locals := 73 } : Room)).room s m ([.ref h, .ref a, .ref b]).toArray below meth c H locs 0 0 (MQ below (pQv D cy S s.heap.size (fun S' => S' = pup (tri S lx lw lf (aN (cy 0) 16 ((vit tab ga na mm kk fg xg wg (stp mm nb)).2.1)) (aN (cy 0) 320 ((vit tab ga na mm kk fg xg wg (stp mm nb)).2.2)) (aN (cy 0) 16 ((vit tab ga na mm kk fg xg wg (stp mm nb)).1))) b1 (aN (cy 0) Nb (rtb gb nb mm (stp mm nb) (vit tab ga na mm kk fg xg wg (stp mm nb)).2.2 (stp mm nb))))) ([.ref h, .ref a, .ref b]).toArray s 0 0 (pA S s.heap.size)) (F0 m 85 ls []) := by
          intro kf
          induction kf with
          | zero => intro e2 hm; exact absurd hm (Nat.not_lt_zero _)
          | succ kf ih85 =>
            intro e2 hm SB H locs ls hL47 hf48 hL49 hf50 hL51 hf52 hL53 hf54 hL55 hf56 hL57 hf58 hL59 hf60 hL61 hf62 hL63 hf64 hL65 hf66 he hSB hw hl
            have htk := tbk_lt (steps := (stp mm nb)) (wf := (vit tab ga na mm kk fg xg wg (stp mm nb)).2.2) hm1 hm4 e2
            refine lv_iload hx hb dX9_decode_85 (lv_at hl 0 rfl) ?_
            refine lv_if_lt (tgt := 131) hx hb dX9_decode_87 (by decide) (fun h_87 => ?_) (fun h_87 => ?_)
            · skip
              have hd0 : e2 = (stp mm nb) := by
                rcases Nat.lt_or_ge e2 (stp mm nb) with z | z
                · rw [pk_sub (by omega)] at h_87; exact absurd h_87 (nI_pos (by omega))
                · omega
              exact p_vret C hw (by rw [hSB, hd0]) hr hlocks dX9_decode_131
            · skip
              have hd1 : e2 < (stp mm nb) := by
                rcases Nat.lt_or_ge e2 (stp mm nb) with z | z
                · exact z
                · exact absurd (pk_sneg (by decide) (by omega)) h_87
              rw [pk_sub (by omega)] at hl
              refine lv_aload_n hx hb dX9_decode_90 rfl (lv_at hl 5 rfl) ?_
              refine lv_iload hx hb dX9_decode_91 (lv_at hl 0 rfl) ?_
              refine lv_iload hx hb dX9_decode_93 (lv_at hl 1 rfl) ?_
              refine lv_aload_n hx hb dX9_decode_95 rfl (lv_at hl 3 rfl) ?_
              refine p_get C hw (ci := 8) (Cn := RX9) (T := TX9) (N := 4) hL47 hf48 rfl hin_RX9 0 (by decide) (List.mem_of_getElem? (i := 3) rfl) rfl rfl dX9_decode_96 ?_
              refine lv_iconst (v := nI 1) hx hb dX9_decode_99 (by decide) ?_
              refine n_isub hx hb (by omega) dX9_decode_100 ?_
              refine n_iushr hx hb (by omega) (by omega) dX9_decode_101 ?_
              refine p_callv (va_runV (As := [.int (nI ((stp mm nb) - e2 - 1)), .int (nI ((tbk mm (stp mm nb) (vit tab ga na mm kk fg xg wg (stp mm nb)).2.2 e2) / 2 ^ (mm - 1)))]) (rest := []) C.fix (c_X7_put l D cy SB H.size b b1 Nb nb ((stp mm nb) - e2 - 1) ((tbk mm (stp mm nb) (vit tab ga na mm kk fg xg wg (stp mm nb)).2.2 e2) / 2 ^ (mm - 1)) (rtb gb nb mm (stp mm nb) (vit tab ga na mm kk fg xg wg (stp mm nb)).2.2 e2) hL63 hf64 hL65 hf66 hNb hnb (by omega)) (cwV 2 C.2.2.2.2.1 gX9_decode_X7_put rfl rfl rfl hdtrV_yX7_put_RX7 ⟨Nat.le_of_ble_eq_true rfl, Nat.le_of_ble_eq_true rfl⟩) (p_preV C hw hL63 hf64 rfl) rfl rfl hl.1 rfl (lv_room (Nat.le_of_ble_eq_true rfl)) dX9_decode_102 ⟨Nat.le_of_ble_eq_true rfl, Nat.le_of_ble_eq_true rfl⟩) hw hA (fun S67 H locs hpost hw => ?_)
              have hL69 : h ∈ S67.1 := by rw [hpost]; exact hL47
              have hf70 : S67.2 h = .inr (8, [.int (nI mm), .int (nI kk), .ref md, .ref lt]) := by rw [hpost]; exact (pup_n (ne_cells hf48 hf66 (by nofun))).trans hf48
              have hL71 : md ∈ S67.1 := by rw [hpost]; exact hL49
              have hf72 : S67.2 md = aN (cy 0) 32 tab := by rw [hpost]; exact (pup_n (by first | assumption | exact Ne.symm (by assumption))).trans hf50
              have hL73 : lt ∈ S67.1 := by rw [hpost]; exact hL51
              have hf74 : S67.2 lt = .inr (3, [.ref lf, .ref lx, .ref lw]) := by rw [hpost]; exact (pup_n (ne_cells hf52 hf66 (by nofun))).trans hf52
              have hL75 : lf ∈ S67.1 := by rw [hpost]; exact hL53
              have hf76 : S67.2 lf = aN (cy 0) 16 ((vit tab ga na mm kk fg xg wg (stp mm nb)).1) := by rw [hpost]; exact (pup_n (by first | assumption | exact Ne.symm (by assumption))).trans hf54
              have hL77 : lx ∈ S67.1 := by rw [hpost]; exact hL55
              have hf78 : S67.2 lx = aN (cy 0) 16 ((vit tab ga na mm kk fg xg wg (stp mm nb)).2.1) := by rw [hpost]; exact (pup_n (by first | assumption | exact Ne.symm (by assumption))).trans hf56
              have hL79 : lw ∈ S67.1 := by rw [hpost]; exact hL57
              have hf80 : S67.2 lw = aN (cy 0) 320 ((vit tab ga na mm kk fg xg wg (stp mm nb)).2.2) := by rw [hpost]; exact (pup_n (by first | assumption | exact Ne.symm (by assumption))).trans hf58
              have hL81 : a ∈ S67.1 := by rw [hpost]; exact hL59
              have hf82 : S67.2 a = .inr (7, [.ref a1, .int (nI na)]) := by rw [hpost]; exact (pup_n (ne_cells hf60 hf66 (by nofun))).trans hf60
              have hL83 : a1 ∈ S67.1 := by rw [hpost]; exact hL61
              have hf84 : S67.2 a1 = aN (cy 0) Na ga := by rw [hpost]; exact (pup_n (by first | assumption | exact Ne.symm (by assumption))).trans hf62
              have hL85 : b ∈ S67.1 := by rw [hpost]; exact hL63
              have hf86 : S67.2 b = .inr (7, [.ref b1, .int (nI nb)]) := by rw [hpost]; exact (pup_n (ne_cells hf64 hf66 (by nofun))).trans hf64
              have hL87 : b1 ∈ S67.1 := by rw [hpost]; exact hL65
              have hf88 : S67.2 b1 = aN (cy 0) Nb (rput (rtb gb nb mm (stp mm nb) (vit tab ga na mm kk fg xg wg (stp mm nb)).2.2 e2) nb ((stp mm nb) - e2 - 1) (tbk mm (stp mm nb) (vit tab ga na mm kk fg xg wg (stp mm nb)).2.2 e2 / 2 ^ (mm - 1))) := by rw [hpost]; exact pup_s
              refine lv_aload_n hx hb dX9_decode_105 rfl (lv_at hl 3 rfl) ?_
              refine lv_iload hx hb dX9_decode_106 (lv_at hl 1 rfl) ?_
              refine p_calli (va_runV (As := [.int (nI (tbk mm (stp mm nb) (vit tab ga na mm kk fg xg wg (stp mm nb)).2.2 e2))]) (rest := []) C.fix (c_X9_aheadOf l D cy S67 H.size h mm kk md lt (tbk mm (stp mm nb) (vit tab ga na mm kk fg xg wg (stp mm nb)).2.2 e2) hL69 hf70 hm4 (by omega)) (cwV 1 C.2.2.2.2.1 gX9_decode_X9_aheadOf rfl rfl rfl hdtrV_yX9_aheadOf_RX9 ⟨Nat.le_of_ble_eq_true rfl, Nat.le_of_ble_eq_true rfl⟩) (p_preV C hw hL69 hf70 rfl) rfl rfl hl.1 rfl (lv_room (Nat.le_of_ble_eq_true rfl)) dX9_decode_108 ⟨Nat.le_of_ble_eq_true rfl, Nat.le_of_ble_eq_true rfl⟩) hw hA (fun r90 S89 H locs hpost hw => ?_)
              obtain ⟨hr_, hS_⟩ := hpost
              subst hr_
              subst hS_
              refine lv_aload_n hx hb dX9_decode_111 rfl (lv_at hl 3 rfl) ?_
              refine p_get C hw (ci := 8) (Cn := RX9) (T := TX9) (N := 4) hL69 hf70 rfl hin_RX9 3 (by decide) (List.mem_of_getElem? (i := 1) rfl) rfl rfl dX9_decode_112 ?_
              refine lv_iload hx hb dX9_decode_115 (lv_at hl 0 rfl) ?_
              refine lv_iload hx hb dX9_decode_117 (lv_at hl 1 rfl) ?_
              refine p_calli (va_runV (As := [.int (nI ((stp mm nb) - e2 - 1)), .int (nI (tbk mm (stp mm nb) (vit tab ga na mm kk fg xg wg (stp mm nb)).2.2 e2))]) (rest := [.int (nI (ahd mm (tbk mm (stp mm nb) (vit tab ga na mm kk fg xg wg (stp mm nb)).2.2 e2)))]) C.fix (c_X3_cameFromGreater l D cy S67 H.size lt lf lx lw ((stp mm nb) - e2 - 1) (tbk mm (stp mm nb) (vit tab ga na mm kk fg xg wg (stp mm nb)).2.2 e2) (vit tab ga na mm kk fg xg wg (stp mm nb)).2.2 hL73 hf74 hL79 hf80 (by omega) (by omega) (vit_w hm4 hwg _)) (cwV 2 C.2.2.2.2.1 gX9_decode_X3_cameFromGreater rfl rfl rfl hdtrV_yX3_cameFromGreater_RX3 ⟨Nat.le_of_ble_eq_true rfl, Nat.le_of_ble_eq_true rfl⟩) (p_preV C hw hL73 hf74 rfl) rfl rfl hl.1 rfl (lv_room (Nat.le_of_ble_eq_true rfl)) dX9_decode_119 ⟨Nat.le_of_ble_eq_true rfl, Nat.le_of_ble_eq_true rfl⟩) hw hA (fun r92 S91 H locs hpost hw => ?_)
              obtain ⟨hr_, hS_⟩ := hpost
              subst hr_
              subst hS_
              refine n_iadd hx hb dX9_decode_122 ?_
              refine n_ren (b := tbk mm (stp mm nb) (vit tab ga na mm kk fg xg wg (stp mm nb)).2.2 (e2 + 1)) rfl ?_
              refine lv_istore (lv' := [(4, .int (nI (tbk mm (stp mm nb) (vit tab ga na mm kk fg xg wg (stp mm nb)).2.2 (e2 + 1)))), (5, .int (nI ((stp mm nb) - e2 - 1))), (3, .int (nI (stp mm nb))), (0, .ref h), (1, .ref a), (2, .ref b)]) hx hb dX9_decode_123 hl (by decide) rfl (fun ls hl => ?_)
              refine lv_iinc (v := (nI ((stp mm nb) - e2 - 1) - nI 1)) (lv' := [(5, .int (nI ((stp mm nb) - e2 - 1) - nI 1)), (4, .int (nI (tbk mm (stp mm nb) (vit tab ga na mm kk fg xg wg (stp mm nb)).2.2 (e2 + 1)))), (3, .int (nI (stp mm nb))), (0, .ref h), (1, .ref a), (2, .ref b)]) hx hb dX9_decode_125 hl (k := 1) rfl (n_xdec _) (by decide) rfl (fun ls hl => ?_)
              refine lv_goto (tgt := 85) hx hb dX9_decode_128 (by decide) ?_
              exact ih85 (e2 + 1) (by omega) S67 H locs ls hL69 hf70 hL71 hf72 hL73 hf74 hL75 hf76 hL77 hf78 hL79 hf80 hL81 hf82 hL83 hf84 hL85 hf86 hL87 (by rw [hpost, rtb_s (by omega)]; exact pup_s) (by omega) (by rw [hpost, hSB, pup_pup, rtb_s (by omega)]) hw (lv_sub hl [0, 1, 2, 3, 4, 5] rfl)
        exact loop85 ((stp mm nb) - 0 + 1) 0 (by omega) SA H locs ls hL27 hf28 hL29 hf30 hL31 hf32 hL33 hf34 hL35 hf36 hL37 hf38 hL39 hf40 hL41 hf42 hL43 hf44 hL45 (by rw [rtb_0]; assumption) (Nat.zero_le _) (by rw [rtb_0, hSA]; exact (pup_self ((tri_n hbb2 hbb3 hbb1).trans hf_b1)).symm) hw (lv_sub hl [0, 1, 2, 3, 4, 5] rfl)
      · skip
        have hik : i * kk ≤ 404 * 3 := Nat.mul_le_mul (by omega) hk3
        refine lv_aload_n hx hb dX9_decode_27 rfl (lv_at hl 3 rfl) ?_
        refine lv_iload hx hb dX9_decode_28 (lv_at hl 0 rfl) ?_
        refine lv_aload_n hx hb dX9_decode_30 rfl (lv_at hl 2 rfl) ?_
        refine p_get C hw (ci := 8) (Cn := RX9) (T := TX9) (N := 4) hL27 hf28 rfl hin_RX9 1 (by decide) (List.mem_of_getElem? (i := 2) rfl) rfl rfl dX9_decode_31 ?_
        refine n_imul hx hb dX9_decode_34 ?_
        refine lv_aload_n hx hb dX9_decode_35 rfl (lv_at hl 2 rfl) ?_
        refine p_get C hw (ci := 8) (Cn := RX9) (T := TX9) (N := 4) hL27 hf28 rfl hin_RX9 1 (by decide) (List.mem_of_getElem? (i := 2) rfl) rfl rfl dX9_decode_36 ?_
        refine p_calli (va_runV (As := [.int (nI (i * kk)), .int (nI kk)]) (rest := []) C.fix (c_X7_numberAt l D cy SA H.size a a1 Na na (i * kk) kk ga hL39 hf40 hL41 hf42 hNa hna (by omega) (by omega) hga) (cwV 2 C.2.2.2.2.1 gX9_decode_X7_numberAt rfl rfl rfl hdtrV_yX7_numberAt_RX7 ⟨Nat.le_of_ble_eq_true rfl, Nat.le_of_ble_eq_true rfl⟩) (p_preV C hw hL39 hf40 rfl) rfl rfl hl.1 rfl (lv_room (Nat.le_of_ble_eq_true rfl)) dX9_decode_39 ⟨Nat.le_of_ble_eq_true rfl, Nat.le_of_ble_eq_true rfl⟩) hw hA (fun r94 S93 H locs hpost hw => ?_)
        obtain ⟨hr_, hS_⟩ := hpost
        subst hr_
        subst hS_
        have hnb1 := numAt_b (g := ga) (n := na) (j := i * kk) (k := kk) (by omega)
        refine lv_istore (lv' := [(5, .int (nI (numAt ga na (i * kk) kk))), (4, .int (nI i)), (3, .int (nI (stp mm nb))), (0, .ref h), (1, .ref a), (2, .ref b)]) hx hb dX9_decode_42 hl (by decide) rfl (fun ls hl => ?_)
        refine lv_aload_n hx hb dX9_decode_44 rfl (lv_at hl 4 rfl) ?_
        refine lv_iload hx hb dX9_decode_45 (lv_at hl 1 rfl) ?_
        refine lv_aload_n hx hb dX9_decode_47 rfl (lv_at hl 3 rfl) ?_
        refine p_get C hw (ci := 8) (Cn := RX9) (T := TX9) (N := 4) hL27 hf28 rfl hin_RX9 1 (by decide) (List.mem_of_getElem? (i := 2) rfl) rfl rfl dX9_decode_48 ?_
        refine n_imul hx hb dX9_decode_51 ?_
        refine lv_aload_n hx hb dX9_decode_52 rfl (lv_at hl 3 rfl) ?_
        refine p_get C hw (ci := 8) (Cn := RX9) (T := TX9) (N := 4) hL27 hf28 rfl hin_RX9 1 (by decide) (List.mem_of_getElem? (i := 2) rfl) rfl rfl dX9_decode_53 ?_
        refine p_calli (va_runV (As := [.int (nI (i * kk)), .int (nI kk)]) (rest := []) C.fix (c_X7_knownAt l D cy SA H.size a a1 Na na (i * kk) kk ga hL39 hf40 hL41 hf42 hNa hna (by omega) (by omega) hga) (cwV 2 C.2.2.2.2.1 gX9_decode_X7_knownAt rfl rfl rfl hdtrV_yX7_knownAt_RX7 ⟨Nat.le_of_ble_eq_true rfl, Nat.le_of_ble_eq_true rfl⟩) (p_preV C hw hL39 hf40 rfl) rfl rfl hl.1 rfl (lv_room (Nat.le_of_ble_eq_true rfl)) dX9_decode_56 ⟨Nat.le_of_ble_eq_true rfl, Nat.le_of_ble_eq_true rfl⟩) hw hA (fun r96 S95 H locs hpost hw => ?_)
        obtain ⟨hr_, hS_⟩ := hpost
        subst hr_
        subst hS_
        have hnb2 := knoAt_b (g := ga) (n := na) (j := i * kk) (k := kk) (by omega)
        refine lv_istore (lv' := [(6, .int (nI (knoAt ga na (i * kk) kk))), (5, .int (nI (numAt ga na (i * kk) kk))), (4, .int (nI i)), (3, .int (nI (stp mm nb))), (0, .ref h), (1, .ref a), (2, .ref b)]) hx hb dX9_decode_59 hl (by decide) rfl (fun ls hl => ?_)
        refine lv_aload_n hx hb dX9_decode_61 rfl (lv_at hl 4 rfl) ?_
        refine lv_iload hx hb dX9_decode_62 (lv_at hl 2 rfl) ?_
        refine lv_iload hx hb dX9_decode_64 (lv_at hl 1 rfl) ?_
        refine lv_iload hx hb dX9_decode_66 (lv_at hl 0 rfl) ?_
        refine p_callv (va_runV (As := [.int (nI i), .int (nI (numAt ga na (i * kk) kk)), .int (nI (knoAt ga na (i * kk) kk))]) (rest := []) C.fix (c_X9_advance l D cy SA H.size h mm kk md lt lf lx lw i (numAt ga na (i * kk) kk) (knoAt ga na (i * kk) kk) (BB + 12 * i) tab (vit tab ga na mm kk fg xg wg i).1 (vit tab ga na mm kk fg xg wg i).2.1 (vit tab ga na mm kk fg xg wg i).2.2 hL27 hf28 hL29 hf30 hL31 hf32 hL33 hf34 hL35 hf36 hL37 hf38 hm1 hm4 (by omega) (by omega) (by omega) (vit_le hB0 hfg i) hxf hxw hwf hmf hmx hmw) (cwV 3 C.2.2.2.2.1 gX9_decode_X9_advance rfl rfl rfl hdtrV_yX9_advance_RX9 ⟨Nat.le_of_ble_eq_true rfl, Nat.le_of_ble_eq_true rfl⟩) (p_preV C hw hL27 hf28 rfl) rfl rfl hl.1 rfl (lv_room (Nat.le_of_ble_eq_true rfl)) dX9_decode_68 ⟨Nat.le_of_ble_eq_true rfl, Nat.le_of_ble_eq_true rfl⟩) hw hA (fun S97 H locs hpost hw => ?_)
        have hL99 : h ∈ S97.1 := by rw [hpost]; exact hL27
        have hf100 : S97.2 h = .inr (8, [.int (nI mm), .int (nI kk), .ref md, .ref lt]) := by rw [hpost]; exact (tri_n (ne_cells hf28 hf36 (by nofun)) (ne_cells hf28 hf38 (by nofun)) (ne_cells hf28 hf34 (by nofun))).trans hf28
        have hL101 : md ∈ S97.1 := by rw [hpost]; exact hL29
        have hf102 : S97.2 md = aN (cy 0) 32 tab := by rw [hpost]; exact (tri_n (by first | assumption | exact Ne.symm (by assumption)) (by first | assumption | exact Ne.symm (by assumption)) (by first | assumption | exact Ne.symm (by assumption))).trans hf30
        have hL103 : lt ∈ S97.1 := by rw [hpost]; exact hL31
        have hf104 : S97.2 lt = .inr (3, [.ref lf, .ref lx, .ref lw]) := by rw [hpost]; exact (tri_n (ne_cells hf32 hf36 (by nofun)) (ne_cells hf32 hf38 (by nofun)) (ne_cells hf32 hf34 (by nofun))).trans hf32
        have hL105 : lf ∈ S97.1 := by rw [hpost]; exact hL33
        have hf106 : S97.2 lf = aN (cy 0) 16 ((vit tab ga na mm kk fg xg wg (i + 1)).1) := by rw [hpost]; exact tri_lf
        have hL107 : lx ∈ S97.1 := by rw [hpost]; exact hL35
        have hf108 : S97.2 lx = aN (cy 0) 16 ((vit tab ga na mm kk fg xg wg (i + 1)).2.1) := by rw [hpost]; exact tri_lx hxf hxw
        have hL109 : lw ∈ S97.1 := by rw [hpost]; exact hL37
        have hf110 : S97.2 lw = aN (cy 0) 320 ((vit tab ga na mm kk fg xg wg (i + 1)).2.2) := by rw [hpost]; exact tri_lw hwf
        have hL111 : a ∈ S97.1 := by rw [hpost]; exact hL39
        have hf112 : S97.2 a = .inr (7, [.ref a1, .int (nI na)]) := by rw [hpost]; exact (tri_n (ne_cells hf40 hf36 (by nofun)) (ne_cells hf40 hf38 (by nofun)) (ne_cells hf40 hf34 (by nofun))).trans hf40
        have hL113 : a1 ∈ S97.1 := by rw [hpost]; exact hL41
        have hf114 : S97.2 a1 = aN (cy 0) Na ga := by rw [hpost]; exact (tri_n (by first | assumption | exact Ne.symm (by assumption)) (by first | assumption | exact Ne.symm (by assumption)) (by first | assumption | exact Ne.symm (by assumption))).trans hf42
        have hL115 : b ∈ S97.1 := by rw [hpost]; exact hL43
        have hf116 : S97.2 b = .inr (7, [.ref b1, .int (nI nb)]) := by rw [hpost]; exact (tri_n (ne_cells hf44 hf36 (by nofun)) (ne_cells hf44 hf38 (by nofun)) (ne_cells hf44 hf34 (by nofun))).trans hf44
        have hL117 : b1 ∈ S97.1 := by rw [hpost]; exact hL45
        have hf118 : S97.2 b1 = aN (cy 0) Nb gb := by rw [hpost]; exact (tri_n (by first | assumption | exact Ne.symm (by assumption)) (by first | assumption | exact Ne.symm (by assumption)) (by first | assumption | exact Ne.symm (by assumption))).trans hf46
        refine lv_iinc (v := (nI (i + 1))) (lv' := [(4, .int (nI (i + 1))), (6, .int (nI (knoAt ga na (i * kk) kk))), (5, .int (nI (numAt ga na (i * kk) kk))), (3, .int (nI (stp mm nb))), (0, .ref h), (1, .ref a), (2, .ref b)]) hx hb dX9_decode_71 hl (k := 2) rfl (by rw [show Int32.ofInt 1 = nI 1 from by decide, nI_add]) (by decide) rfl (fun ls hl => ?_)
        refine lv_goto (tgt := 21) hx hb dX9_decode_74 (by decide) ?_
        exact ih21 (i + 1) (by omega) S97 H locs ls hL99 hf100 hL101 hf102 hL103 hf104 hL105 hf106 hL107 hf108 hL109 hf110 hL111 hf112 hL113 hf114 hL115 hf116 hL117 hf118 (by omega) (by rw [hpost, hSA, tri_tri]; rfl) hw (lv_sub hl [0, 3, 4, 5, 6] rfl)
  exact loop21 ((stp mm nb) - 0 + 1) 0 (by omega) S5 H locs ls hL7 hf8 hL9 hf10 hL11 hf12 hL13 hf14 hL15 hf16 hL17 hf18 hL19 hf20 hL21 hf22 hL23 hf24 hL25 hf26 (Nat.zero_le _) (by rw [hpost0]; exact (tri_self hf_lx hf_lw).symm) hw (lv_sub hl [0, 1, 2, 3, 4] rfl)

theorem hdtrV_yX3_forget_RX3 : yX3_forget.cls = RX3 ∧ yX3_forget.cls ≠ "java/lang/invoke/MethodHandle" ∧ yX3_forget.cls ≠ "java/lang/invoke/VarHandle" ∧ (parseMethodDescriptor yX3_forget.desc).map (fun d => d.parameters.length) = some 1 := by decide +kernel
set_option maxHeartbeats 4000000 in
set_option maxRecDepth 100000 in
/-- Trail.apart -/
theorem c_X9_apart (l : Launch) (D : va_G) (cy : Nat → ClassId) (S : pS) (sz : Nat) (h mm kk md lt lf lx lw BB : Nat) (tab fg xg wg : Nat → Nat) (hL_h : h ∈ S.1) (hf_h : S.2 h = .inr (8, [.int (nI mm), .int (nI kk), .ref md, .ref lt])) (hL_md : md ∈ S.1) (hf_md : S.2 md = aN (cy 0) 32 tab) (hL_lt : lt ∈ S.1) (hf_lt : S.2 lt = .inr (3, [.ref lf, .ref lx, .ref lw])) (hL_lf : lf ∈ S.1) (hf_lf : S.2 lf = aN (cy 0) 16 fg) (hL_lx : lx ∈ S.1) (hf_lx : S.2 lx = aN (cy 0) 16 xg) (hL_lw : lw ∈ S.1) (hf_lw : S.2 lw = aN (cy 0) 320 wg) (hm1 : 1 ≤ mm) (hm4 : mm ≤ 4) (hk2 : 2 ≤ kk) (hk3 : kk ≤ 3) (htab : ∀ q, tab q < 8) (hB0 : 1000000 ≤ BB) (hB : BB < 2 ^ 28) (hfg : ∀ q, fg q ≤ BB) (hxf : lx ≠ lf) (hxw : lx ≠ lw) (hwf : lw ≠ lf) (hmf : md ≠ lf) (hmx : md ≠ lx) (hmw : md ≠ lw) : Met l yX9_apart wsX9_apart ({ frames := 3, cells := 0, slots := 0, locals := 73 }) (pPc D cy S sz [.ref h]) (pQi D cy S sz (fun r S' => r = nI (apr tab mm kk fg xg wg 19).2 ∧ S' = tri S lx lw lf (aN (cy 0) 16 ((apr tab mm kk fg xg wg 19).1.2.1)) (aN (cy 0) 320 ((apr tab mm kk fg xg wg 19).1.2.2)) (aN (cy 0) 16 ((apr tab mm kk fg xg wg 19).1.1)))) 0 0 (pA S sz) := by
  refine Met.ofW (cc := cX9_apart) (maxL := 4) (ret := (some .int)) (by decide) rfl ?_
  intro p e s m args below meth c s₁ B hml hv
  obtain ⟨rfl, rfl, C, hw, hA, hr, hlocks⟩ := p_start B hml hv
  have hx := C.1
  have hb := C.2.1
  have hl := lv_entry ([.ref h]) (n := 4) (Nat.le_of_ble_eq_true rfl)
  rw [lg_entry_eq]
  generalize (lg_sl ([.ref h]) ++ List.replicate (4 - (lg_sl ([.ref h])).length) Slot.unset).toArray = ls at hl ⊢
  have hl : lv_has ls 4 [(0, .ref h)] := hl
  have hin_RX9 : ∀ w ∈ u_ws RX9 TX9 4, w ∈ wsX9_apart := by decide +kernel
  have h24 := two_pow_4 hm4
  have h28 : 2 ^ kk ≤ 16 := two_pow_4 (by omega)
  have hpk : 1 ≤ 2 ^ kk := Nat.one_le_two_pow
  have hpm : 1 ≤ 2 ^ mm := Nat.one_le_two_pow
  refine lv_iconst (v := nI 1) hx hb dX9_apart_0 (by decide) ?_
  refine lv_aload_n hx hb dX9_apart_1 rfl (lv_at hl 0 rfl) ?_
  refine p_get C hw (ci := 8) (Cn := RX9) (T := TX9) (N := 4) hL_h hf_h rfl hin_RX9 1 (by decide) (List.mem_of_getElem? (i := 1) rfl) rfl rfl dX9_apart_2 ?_
  refine n_ishl hx hb (by omega) (by omega) dX9_apart_5 ?_
  refine lv_iconst (v := nI 1) hx hb dX9_apart_6 (by decide) ?_
  refine n_isub hx hb (by omega) dX9_apart_7 ?_
  refine lv_istore_n (lv' := [(1, .int (nI ((1 * 2 ^ kk) - 1))), (0, .ref h)]) hx hb dX9_apart_8 rfl hl (by decide) rfl (fun ls hl => ?_)
  refine lv_aload_n hx hb dX9_apart_9 rfl (lv_at hl 1 rfl) ?_
  refine p_get C hw (ci := 8) (Cn := RX9) (T := TX9) (N := 4) hL_h hf_h rfl hin_RX9 3 (by decide) (List.mem_of_getElem? (i := 2) rfl) rfl rfl dX9_apart_10 ?_
  refine lv_aload_n hx hb dX9_apart_13 rfl (lv_at hl 1 rfl) ?_
  refine p_calli (va_runV (As := []) (rest := [.ref lt]) C.fix (c_X9_states l D cy S s.heap.size h mm kk md lt hL_h hf_h hm4) (cwV 0 C.2.2.2.2.1 gX9_apart_X9_states rfl rfl rfl hdtrV_yX9_states_RX9 ⟨Nat.le_of_ble_eq_true rfl, Nat.le_of_ble_eq_true rfl⟩) (p_preV C hw hL_h hf_h rfl) rfl rfl hl.1 rfl (lv_room (Nat.le_of_ble_eq_true rfl)) dX9_apart_14 ⟨Nat.le_of_ble_eq_true rfl, Nat.le_of_ble_eq_true rfl⟩) hw hA (fun r2 S1 H locs hpost hw => ?_)
  obtain ⟨hr_, hS_⟩ := hpost
  subst hr_
  subst hS_
  refine lv_iconst (v := nI 2) hx hb dX9_apart_17 (by decide) ?_
  refine n_idiv hx hb (by omega) (by omega) (by omega) dX9_apart_18 ?_
  refine lv_aload_n hx hb dX9_apart_19 rfl (lv_at hl 1 rfl) ?_
  refine lv_aload_n hx hb dX9_apart_20 rfl (lv_at hl 1 rfl) ?_
  refine p_calli (va_runV (As := []) (rest := [.ref h, .int (nI ((2 ^ mm) / 2)), .ref lt]) C.fix (c_X9_states l D cy S H.size h mm kk md lt hL_h hf_h hm4) (cwV 0 C.2.2.2.2.1 gX9_apart_X9_states rfl rfl rfl hdtrV_yX9_states_RX9 ⟨Nat.le_of_ble_eq_true rfl, Nat.le_of_ble_eq_true rfl⟩) (p_preV C hw hL_h hf_h rfl) rfl rfl hl.1 rfl (lv_room (Nat.le_of_ble_eq_true rfl)) dX9_apart_21 ⟨Nat.le_of_ble_eq_true rfl, Nat.le_of_ble_eq_true rfl⟩) hw hA (fun r4 S3 H locs hpost hw => ?_)
  obtain ⟨hr_, hS_⟩ := hpost
  subst hr_
  subst hS_
  refine lv_iconst (v := nI 0) hx hb dX9_apart_24 (by decide) ?_
  refine lv_iload_n hx hb dX9_apart_25 rfl (lv_at hl 0 rfl) ?_
  refine p_calli (va_runV (As := [.int (nI (2 ^ mm)), .int (nI 0), .int (nI ((1 * 2 ^ kk) - 1))]) (rest := [.int (nI ((2 ^ mm) / 2)), .ref lt]) C.fix (c_X9_farnessOf l D cy S H.size h mm kk md lt (2 ^ mm) 0 ((1 * 2 ^ kk) - 1) tab hL_h hf_h hL_md hf_md (by omega) (by omega)) (cwV 3 C.2.2.2.2.1 gX9_apart_X9_farnessOf rfl rfl rfl hdtrV_yX9_farnessOf_RX9 ⟨Nat.le_of_ble_eq_true rfl, Nat.le_of_ble_eq_true rfl⟩) (p_preV C hw hL_h hf_h rfl) rfl rfl hl.1 rfl (lv_room (Nat.le_of_ble_eq_true rfl)) dX9_apart_26 ⟨Nat.le_of_ble_eq_true rfl, Nat.le_of_ble_eq_true rfl⟩) hw hA (fun r6 S5 H locs hpost hw => ?_)
  obtain ⟨hr_, hS_⟩ := hpost
  subst hr_
  subst hS_
  refine p_callv (va_runV (As := [.int (nI ((2 ^ mm) / 2)), .int (nI (farT tab 0 ((1 * 2 ^ kk) - 1) (2 ^ mm)))]) (rest := []) C.fix (c_X3_startAt l D cy S H.size lt lf lx lw ((2 ^ mm) / 2) (farT tab 0 ((1 * 2 ^ kk) - 1) (2 ^ mm)) fg hL_lt hf_lt hL_lf hf_lf (by omega)) (cwV 2 C.2.2.2.2.1 gX9_apart_X3_startAt rfl rfl rfl hdtrV_yX3_startAt_RX3 ⟨Nat.le_of_ble_eq_true rfl, Nat.le_of_ble_eq_true rfl⟩) (p_preV C hw hL_lt hf_lt rfl) rfl rfl hl.1 rfl (lv_room (Nat.le_of_ble_eq_true rfl)) dX9_apart_29 ⟨Nat.le_of_ble_eq_true rfl, Nat.le_of_ble_eq_true rfl⟩) hw hA (fun S7 H locs hpost hw => ?_)
  have hpost0 : S7 = _ := hpost
  have hL9 : h ∈ S7.1 := by rw [hpost]; exact hL_h
  have hf10 : S7.2 h = .inr (8, [.int (nI mm), .int (nI kk), .ref md, .ref lt]) := by rw [hpost]; exact (pup_n (ne_cells hf_h hf_lf (by nofun))).trans hf_h
  have hL11 : md ∈ S7.1 := by rw [hpost]; exact hL_md
  have hf12 : S7.2 md = aN (cy 0) 32 tab := by rw [hpost]; exact (pup_n (by first | assumption | exact Ne.symm (by assumption))).trans hf_md
  have hL13 : lt ∈ S7.1 := by rw [hpost]; exact hL_lt
  have hf14 : S7.2 lt = .inr (3, [.ref lf, .ref lx, .ref lw]) := by rw [hpost]; exact (pup_n (ne_cells hf_lt hf_lf (by nofun))).trans hf_lt
  have hL15 : lf ∈ S7.1 := by rw [hpost]; exact hL_lf
  have hf16 : S7.2 lf = aN (cy 0) 16 (lsta fg (2 ^ mm / 2) (farT tab 0 (1 * 2 ^ kk - 1) (2 ^ mm)) 16) := by rw [hpost]; exact pup_s
  have hL17 : lx ∈ S7.1 := by rw [hpost]; exact hL_lx
  have hf18 : S7.2 lx = aN (cy 0) 16 xg := by rw [hpost]; exact (pup_n (by first | assumption | exact Ne.symm (by assumption))).trans hf_lx
  have hL19 : lw ∈ S7.1 := by rw [hpost]; exact hL_lw
  have hf20 : S7.2 lw = aN (cy 0) 320 wg := by rw [hpost]; exact (pup_n (by first | assumption | exact Ne.symm (by assumption))).trans hf_lw
  refine lv_ldc (v := nI 1000000) hx hb C.2.2.2.1 (C.2.2.2.2.1 (.constant RX9 97 (1000000)) (List.mem_of_getElem? (i := 3) rfl)) dX9_apart_32 ?_
  refine lv_istore_n (lv' := [(2, .int (nI 1000000)), (1, .int (nI ((1 * 2 ^ kk) - 1))), (0, .ref h)]) hx hb dX9_apart_34 rfl hl (by decide) rfl (fun ls hl => ?_)
  refine lv_iconst (v := nI 2) hx hb dX9_apart_35 (by decide) ?_
  refine lv_istore_n (lv' := [(3, .int (nI 2)), (2, .int (nI 1000000)), (1, .int (nI ((1 * 2 ^ kk) - 1))), (0, .ref h)]) hx hb dX9_apart_36 rfl hl (by decide) rfl (fun ls hl => ?_)
  have loop37 : ∀ (kf : Nat) (i : Nat), 19 - i < kf → ∀ (SA : pS), ∀ (H : Heap) (locs : List Loc) (ls : Array Slot), (h ∈ SA.1) → (SA.2 h = .inr (8, [.int (nI mm), .int (nI kk), .ref md, .ref lt])) → (md ∈ SA.1) → (SA.2 md = aN (cy 0) 32 tab) → (lt ∈ SA.1) → (SA.2 lt = .inr (3, [.ref lf, .ref lx, .ref lw])) → (lf ∈ SA.1) → (SA.2 lf = aN (cy 0) 16 ((apr tab mm kk fg xg wg i).1.1)) → (lx ∈ SA.1) → (SA.2 lx = aN (cy 0) 16 ((apr tab mm kk fg xg wg i).1.2.1)) → (lw ∈ SA.1) → (SA.2 lw = aN (cy 0) 320 ((apr tab mm kk fg xg wg i).1.2.2)) → (i ≤ 19) → (SA = tri S lx lw lf (aN (cy 0) 16 ((apr tab mm kk fg xg wg i).1.2.1)) (aN (cy 0) 320 ((apr tab mm kk fg xg wg i).1.2.2)) (aN (cy 0) 16 ((apr tab mm kk fg xg wg i).1.1))) → pW D (pA S s.heap.size) s.heap SA H locs → lv_has ls 4 [(3, .int (nI (i + 2))), (2, .int (nI ((apr tab mm kk fg xg wg i).2))), (1, .int (nI ((1 * 2 ^ kk) - 1))), (0, .ref h)] → W p l e (headSpec wsX9_apart ({ frames := 3, cells := 0, slots := 0, locals := 73 } : Room)).room s m ([.ref h]).toArray below meth c H locs 0 0 (MQ below (pQi D cy S s.heap.size (fun r S' => r = nI (apr tab mm kk fg xg wg 19).2 ∧ S' = tri S lx lw lf (aN (cy 0) 16 ((apr tab mm kk fg xg wg 19).1.2.1)) (aN (cy 0) 320 ((apr tab mm kk fg xg wg 19).1.2.2)) (aN (cy 0) 16 ((apr tab mm kk fg xg wg 19).1.1)))) ([.ref h]).toArray s 0 0 (pA S s.heap.size)) (F0 m 37 ls []) := by
    intro kf
    induction kf with
    | zero => intro i hm; exact absurd hm (Nat.not_lt_zero _)
    | succ kf ih37 =>
      intro i hm SA H locs ls hL21 hf22 hL23 hf24 hL25 hf26 hL27 hf28 hL29 hf30 hL31 hf32 hi hSA hw hl
      have hal := apr_le (tab := tab) (mm := mm) (kk := kk) (xg := xg) (wg := wg) hB0 hfg i
      have hal2 := hal.2
      refine lv_iload_n hx hb dX9_apart_37 rfl (lv_at hl 0 rfl) ?_
      refine lv_bipush (v := nI 20) hx hb dX9_apart_38 (by decide) ?_
      refine n_icmp_gt (tgt := 77) hx hb (by omega) (by omega) dX9_apart_40 (by decide) (fun h_40 => ?_) (fun h_40 => ?_)
      · skip
        refine lv_iload_n hx hb dX9_apart_77 rfl (lv_at hl 1 rfl) ?_
        exact p_iret C hw ⟨by rw [show i = 19 from by omega], by rw [hSA, show i = 19 from by omega]⟩ hr hlocks dX9_apart_78
      · skip
        refine lv_aload_n hx hb dX9_apart_43 rfl (lv_at hl 3 rfl) ?_
        refine lv_iconst (v := nI 0) hx hb dX9_apart_44 (by decide) ?_
        refine lv_iconst (v := nI 0) hx hb dX9_apart_45 (by decide) ?_
        refine lv_iload_n hx hb dX9_apart_46 rfl (lv_at hl 2 rfl) ?_
        refine p_callv (va_runV (As := [.int (nI 0), .int (nI 0), .int (nI ((1 * 2 ^ kk) - 1))]) (rest := []) C.fix (c_X9_advance l D cy SA H.size h mm kk md lt lf lx lw 0 0 ((1 * 2 ^ kk) - 1) (BB + 12 * i) tab (apr tab mm kk fg xg wg i).1.1 (apr tab mm kk fg xg wg i).1.2.1 (apr tab mm kk fg xg wg i).1.2.2 hL21 hf22 hL23 hf24 hL25 hf26 hL27 hf28 hL29 hf30 hL31 hf32 hm1 hm4 (by omega) (by omega) (by omega) (apr_le hB0 hfg i).1 hxf hxw hwf hmf hmx hmw) (cwV 3 C.2.2.2.2.1 gX9_apart_X9_advance rfl rfl rfl hdtrV_yX9_advance_RX9 ⟨Nat.le_of_ble_eq_true rfl, Nat.le_of_ble_eq_true rfl⟩) (p_preV C hw hL21 hf22 rfl) rfl rfl hl.1 rfl (lv_room (Nat.le_of_ble_eq_true rfl)) dX9_apart_47 ⟨Nat.le_of_ble_eq_true rfl, Nat.le_of_ble_eq_true rfl⟩) hw hA (fun S33 H locs hpost hw => ?_)
        have hpost0 : S33 = _ := hpost
        have hL35 : h ∈ S33.1 := by rw [hpost]; exact hL21
        have hf36 : S33.2 h = .inr (8, [.int (nI mm), .int (nI kk), .ref md, .ref lt]) := by rw [hpost]; exact (tri_n (ne_cells hf22 hf30 (by nofun)) (ne_cells hf22 hf32 (by nofun)) (ne_cells hf22 hf28 (by nofun))).trans hf22
        have hL37 : md ∈ S33.1 := by rw [hpost]; exact hL23
        have hf38 : S33.2 md = aN (cy 0) 32 tab := by rw [hpost]; exact (tri_n (by first | assumption | exact Ne.symm (by assumption)) (by first | assumption | exact Ne.symm (by assumption)) (by first | assumption | exact Ne.symm (by assumption))).trans hf24
        have hL39 : lt ∈ S33.1 := by rw [hpost]; exact hL25
        have hf40 : S33.2 lt = .inr (3, [.ref lf, .ref lx, .ref lw]) := by rw [hpost]; exact (tri_n (ne_cells hf26 hf30 (by nofun)) (ne_cells hf26 hf32 (by nofun)) (ne_cells hf26 hf28 (by nofun))).trans hf26
        have hL41 : lf ∈ S33.1 := by rw [hpost]; exact hL27
        have hf42 : S33.2 lf = aN (cy 0) 16 (lcop (apr tab mm kk fg xg wg i).1.1 (nxt (apr tab mm kk fg xg wg i).1.1 tab mm 0 (1 * 2 ^ kk - 1) (apr tab mm kk fg xg wg i).1.2.1 (2 ^ mm)) (2 ^ mm)) := by rw [hpost]; exact tri_lf
        have hL43 : lx ∈ S33.1 := by rw [hpost]; exact hL29
        have hf44 : S33.2 lx = aN (cy 0) 16 (nxt (apr tab mm kk fg xg wg i).1.1 tab mm 0 (1 * 2 ^ kk - 1) (apr tab mm kk fg xg wg i).1.2.1 (2 ^ mm)) := by rw [hpost]; exact tri_lx hxf hxw
        have hL45 : lw ∈ S33.1 := by rw [hpost]; exact hL31
        have hf46 : S33.2 lw = aN (cy 0) 320 (nup (apr tab mm kk fg xg wg i).1.2.2 0 (frg (apr tab mm kk fg xg wg i).1.1 tab mm 0 (1 * 2 ^ kk - 1) (2 ^ mm))) := by rw [hpost]; exact tri_lw hwf
        refine lv_iload_n hx hb dX9_apart_50 rfl (lv_at hl 1 rfl) ?_
        refine lv_aload_n hx hb dX9_apart_51 rfl (lv_at hl 3 rfl) ?_
        refine p_get C hw (ci := 8) (Cn := RX9) (T := TX9) (N := 4) hL35 hf36 rfl hin_RX9 3 (by decide) (List.mem_of_getElem? (i := 2) rfl) rfl rfl dX9_apart_52 ?_
        refine lv_iconst (v := nI 0) hx hb dX9_apart_55 (by decide) ?_
        refine p_calli (va_runV (As := [.int (nI 0)]) (rest := [.int (nI ((apr tab mm kk fg xg wg i).2))]) C.fix (c_X3_farnessOf l D cy S33 H.size lt lf lx lw 0 (lcop (apr tab mm kk fg xg wg i).1.1 (nxt (apr tab mm kk fg xg wg i).1.1 tab mm 0 (1 * 2 ^ kk - 1) (apr tab mm kk fg xg wg i).1.2.1 (2 ^ mm)) (2 ^ mm)) hL39 hf40 hL41 hf42 (by omega)) (cwV 1 C.2.2.2.2.1 gX9_apart_X3_farnessOf rfl rfl rfl hdtrV_yX3_farnessOf_RX3 ⟨Nat.le_of_ble_eq_true rfl, Nat.le_of_ble_eq_true rfl⟩) (p_preV C hw hL39 hf40 rfl) rfl rfl hl.1 rfl (lv_room (Nat.le_of_ble_eq_true rfl)) dX9_apart_56 ⟨Nat.le_of_ble_eq_true rfl, Nat.le_of_ble_eq_true rfl⟩) hw hA (fun r48 S47 H locs hpost hw => ?_)
        obtain ⟨hr_, hS_⟩ := hpost
        subst hr_
        subst hS_
        have hl0 := lcop_nxt_le (tab := tab) (mm := mm) (bits := 0) (known := 1 * 2 ^ kk - 1) (xg := (apr tab mm kk fg xg wg i).1.2.1) hal.1 0
        refine n_mmin C hl.1.symm (index := 86) (List.mem_of_getElem? (i := 4) rfl) (List.mem_of_getElem? (i := 5) rfl) (List.mem_of_getElem? (i := 6) rfl) (List.mem_of_getElem? (i := 7) rfl) (Nat.le_of_ble_eq_true rfl) (Nat.le_of_ble_eq_true rfl) (Nat.le_of_ble_eq_true rfl) (Nat.le_of_ble_eq_true rfl) (by omega) (by omega) dX9_apart_59 ?_
        refine n_ren (b := (apr tab mm kk fg xg wg (i + 1)).2) rfl ?_
        refine lv_istore_n (lv' := [(2, .int (nI ((apr tab mm kk fg xg wg (i + 1)).2))), (3, .int (nI (i + 2))), (1, .int (nI ((1 * 2 ^ kk) - 1))), (0, .ref h)]) hx hb dX9_apart_62 rfl hl (by decide) rfl (fun ls hl => ?_)
        refine lv_aload_n hx hb dX9_apart_63 rfl (lv_at hl 3 rfl) ?_
        refine p_get C hw (ci := 8) (Cn := RX9) (T := TX9) (N := 4) hL35 hf36 rfl hin_RX9 3 (by decide) (List.mem_of_getElem? (i := 2) rfl) rfl rfl dX9_apart_64 ?_
        refine lv_iconst (v := nI 0) hx hb dX9_apart_67 (by decide) ?_
        refine p_callv (va_runV (As := [.int (nI 0)]) (rest := []) C.fix (c_X3_forget l D cy S33 H.size lt lf lx lw 0 (lcop (apr tab mm kk fg xg wg i).1.1 (nxt (apr tab mm kk fg xg wg i).1.1 tab mm 0 (1 * 2 ^ kk - 1) (apr tab mm kk fg xg wg i).1.2.1 (2 ^ mm)) (2 ^ mm)) hL39 hf40 hL41 hf42 (by omega)) (cwV 1 C.2.2.2.2.1 gX9_apart_X3_forget rfl rfl rfl hdtrV_yX3_forget_RX3 ⟨Nat.le_of_ble_eq_true rfl, Nat.le_of_ble_eq_true rfl⟩) (p_preV C hw hL39 hf40 rfl) rfl rfl hl.1 rfl (lv_room (Nat.le_of_ble_eq_true rfl)) dX9_apart_68 ⟨Nat.le_of_ble_eq_true rfl, Nat.le_of_ble_eq_true rfl⟩) hw hA (fun S49 H locs hpost hw => ?_)
        have hL51 : h ∈ S49.1 := by rw [hpost]; exact hL35
        have hf52 : S49.2 h = .inr (8, [.int (nI mm), .int (nI kk), .ref md, .ref lt]) := by rw [hpost]; exact (pup_n (ne_cells hf36 hf42 (by nofun))).trans hf36
        have hL53 : md ∈ S49.1 := by rw [hpost]; exact hL37
        have hf54 : S49.2 md = aN (cy 0) 32 tab := by rw [hpost]; exact (pup_n (by first | assumption | exact Ne.symm (by assumption))).trans hf38
        have hL55 : lt ∈ S49.1 := by rw [hpost]; exact hL39
        have hf56 : S49.2 lt = .inr (3, [.ref lf, .ref lx, .ref lw]) := by rw [hpost]; exact (pup_n (ne_cells hf40 hf42 (by nofun))).trans hf40
        have hL57 : lf ∈ S49.1 := by rw [hpost]; exact hL41
        have hf58 : S49.2 lf = aN (cy 0) 16 (nup (lcop (apr tab mm kk fg xg wg i).1.1 (nxt (apr tab mm kk fg xg wg i).1.1 tab mm 0 (1 * 2 ^ kk - 1) (apr tab mm kk fg xg wg i).1.2.1 (2 ^ mm)) (2 ^ mm)) 0 1000000) := by rw [hpost]; exact pup_s
        have hL59 : lx ∈ S49.1 := by rw [hpost]; exact hL43
        have hf60 : S49.2 lx = aN (cy 0) 16 (nxt (apr tab mm kk fg xg wg i).1.1 tab mm 0 (1 * 2 ^ kk - 1) (apr tab mm kk fg xg wg i).1.2.1 (2 ^ mm)) := by rw [hpost]; exact (pup_n (by first | assumption | exact Ne.symm (by assumption))).trans hf44
        have hL61 : lw ∈ S49.1 := by rw [hpost]; exact hL45
        have hf62 : S49.2 lw = aN (cy 0) 320 (nup (apr tab mm kk fg xg wg i).1.2.2 0 (frg (apr tab mm kk fg xg wg i).1.1 tab mm 0 (1 * 2 ^ kk - 1) (2 ^ mm))) := by rw [hpost]; exact (pup_n (by first | assumption | exact Ne.symm (by assumption))).trans hf46
        refine lv_iinc (v := (nI ((i + 2) + 1))) (lv' := [(3, .int (nI ((i + 2) + 1))), (2, .int (nI ((apr tab mm kk fg xg wg (i + 1)).2))), (1, .int (nI ((1 * 2 ^ kk) - 1))), (0, .ref h)]) hx hb dX9_apart_71 hl (k := 1) rfl (by rw [show Int32.ofInt 1 = nI 1 from by decide, nI_add]) (by decide) rfl (fun ls hl => ?_)
        refine lv_goto (tgt := 37) hx hb dX9_apart_74 (by decide) ?_
        exact ih37 (i + 1) (by omega) S49 H locs ls hL51 hf52 hL53 hf54 hL55 hf56 hL57 (by rw [hpost]; exact pup_s) hL59 hf60 hL61 hf62 (by omega) (by rw [hpost, hpost0, hSA, tri_tri, tri_pup]; rfl) hw (lv_sub hl [0, 1, 2, 3] rfl)
  exact loop37 (19 - 0 + 1) 0 (by omega) S7 H locs ls hL9 hf10 hL11 hf12 hL13 hf14 hL15 hf16 hL17 hf18 hL19 hf20 (Nat.zero_le _) (by rw [hpost0]; exact (tri_self hf_lx hf_lw).symm) hw (lv_sub hl [0, 1, 2, 3] rfl)
