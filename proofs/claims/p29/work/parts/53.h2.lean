theorem mul01 {a b N : Nat} (ha : a < N) (hb : b < 2) : a * b < N := by
  rcases (show b = 0 ∨ b = 1 by omega) with rfl | rfl
  · omega
  · omega
theorem two_pow_ge1 {a : Nat} (h : 1 ≤ a) : 2 ≤ 2 ^ a := by
  obtain ⟨d, rfl⟩ : ∃ d, a = d + 1 := ⟨a - 1, by omega⟩
  have := Nat.two_pow_pos d
  rw [Nat.pow_succ]; omega
theorem hdg_L_stage_S_0 : yL_below.cls ≠ "java/lang/invoke/MethodHandle" ∧ yL_below.cls ≠ "java/lang/invoke/VarHandle" ∧ (parseMethodDescriptor yL_below.desc).map (fun d => d.parameters.length) = some 2 := by decide +kernel
set_option maxHeartbeats 4000000 in
set_option maxRecDepth 100000 in
theorem g_L_stage (l : Launch) (D : va_G) (cy : Nat → ClassId) (S : pS) (sz : Nat)  (v : Int32) : Met l yL_stage (Cond.code yL_stage cL_stage 4 (some (.array .int)) :: lwU) ({ frames := 1, cells := 1, slots := 7, locals := 21 }) (pPc D cy S sz [.int v]) (pQq D cy S sz (fun r S' => ∃ (q : Nat) (g : Nat → Int32) (k a b c3 c4 c5 c6 : Nat), r = some q ∧ q ∉ S.1 ∧ Grw S S' ∧ Arr cy S' q 7 g ∧ Sev g k a b c3 c4 c5 c6 ∧ VSt k a b c3 c4 c5 c6)) 1 7 (pA S sz) := by
  refine Met.ofW (cc := cL_stage) (maxL := 4) (ret := (some (.array .int))) (by decide) rfl ?_
  intro p e s m args below meth c s₁ B hml hv
  obtain ⟨rfl, rfl, C, hw, hA, hr, hlocks⟩ := p_start B hml hv
  have hx := C.1
  have hb := C.2.1
  have hl := lv_entry ([.int v]) (n := 4) (Nat.le_of_ble_eq_true rfl)
  rw [lg_entry_eq]
  generalize (lg_sl ([.int v]) ++ List.replicate (4 - (lg_sl ([.int v])).length) Slot.unset).toArray = ls at hl ⊢
  have hl : lv_has ls 4 [(0, .int v)] := hl
  refine lv_iload_n hx hb dL_stage_0 rfl (lv_at hl 0 rfl) ?_
  refine lv_iconst (v := nI 5) hx hb dL_stage_1 (by decide) ?_
  refine p_calli (va_runS (As := [.int v, .int (nI 5)]) (rest := []) C.fix (g_L_below l D cy S s.heap.size v 5 (by first | decide | omega) (by first | decide | omega)) (va_cwS 2 C.2.2.2.2.1 (gU_S mw_82 mw_83 mw_79 (subU mw_84)) rfl rfl rfl hdg_L_stage_S_0 ⟨Nat.le_of_ble_eq_true rfl, Nat.le_of_ble_eq_true rfl⟩) (p_preS C hw) rfl rfl hl.1 rfl (lv_room (Nat.le_of_ble_eq_true rfl)) dL_stage_2 ⟨(Nat.le_of_ble_eq_true rfl), (Nat.le_of_ble_eq_true rfl)⟩) hw hA (fun r2 S1 H locs hpost hw => ?_)
  obtain ⟨kd, hkd, hr_, hS_⟩ := hpost
  subst hr_
  subst hS_
  rcases (show kd = 0 ∨ kd = 1 ∨ kd = 2 ∨ kd = 3 ∨ kd = 4 by omega) with rfl | rfl | rfl | rfl | rfl
  · skip
    refine lv_istore_n (lv' := [(1, .int (nI 0)), (0, .int v)]) hx hb dL_stage_5 rfl hl (by decide) rfl (fun ls hl => ?_)
    refine lv_bipush (v := nI 7) hx hb dL_stage_6 (by decide) ?_
    refine p_newa C hw hA (mU mw_3) 0 rfl (n := 7) (by first | decide | omega) (Nat.le_of_ble_eq_true rfl) (Nat.le_of_ble_eq_true rfl) dL_stage_8 (fun q2 H hq_q2 hw => ?_)
    obtain ⟨S3, hS3⟩ : ∃ z, z = pnew S q2 (.inl (cy 0, 7, .inl (fun _ => 0))) := ⟨_, rfl⟩
    replace hw : pW D (pA S s.heap.size) s.heap S3 H locs := by rw [hS3]; exact hw
    have hk4 : q2 ∉ S.1 := hq_q2
    have hs5 : Grw S S3 := by rw [hS3]; exact Grw.new hq_q2
    have hA6 : Arr cy S3 q2 7 (fun _ => 0) := by rw [hS3]; exact Arr.new
    refine lv_dup hx hb dL_stage_10 rfl ?_
    refine lv_iconst (v := nI 0) hx hb dL_stage_11 (by decide) ?_
    refine lv_iload_n hx hb dL_stage_12 rfl (lv_at hl 0 rfl) ?_
    refine p_ast C hw 0 rfl hA6.1 hA6.2 (by first | decide | omega) (by first | decide | omega) dL_stage_13 (fun H locs hw => ?_)
    obtain ⟨S7, hS7⟩ : ∃ z, z = pup S3 q2 (.inl (cy 0, 7, .inl (upd (fun _ => 0) 0 (nI 0)))) := ⟨_, rfl⟩
    replace hw : pW D (pA S s.heap.size) s.heap S7 H locs := by rw [hS7]; exact hw
    have hG8 : Grw S S7 := by rw [hS7]; exact Grw.up hs5 hk4
    have hA9 : Arr cy S7 q2 7 (upd (fun _ => 0) 0 (nI 0)) := by rw [hS7]; exact hA6.up
    refine lv_dup hx hb dL_stage_14 rfl ?_
    refine lv_iconst (v := nI 1) hx hb dL_stage_15 (by decide) ?_
    refine lv_iconst (v := nI 0) hx hb dL_stage_16 (by decide) ?_
    refine p_ast C hw 0 rfl hA9.1 hA9.2 (by first | decide | omega) (by first | decide | omega) dL_stage_17 (fun H locs hw => ?_)
    obtain ⟨S10, hS10⟩ : ∃ z, z = pup S7 q2 (.inl (cy 0, 7, .inl (upd (upd (fun _ => 0) 0 (nI 0)) 1 (nI 0)))) := ⟨_, rfl⟩
    replace hw : pW D (pA S s.heap.size) s.heap S10 H locs := by rw [hS10]; exact hw
    have hG11 : Grw S S10 := by rw [hS10]; exact Grw.up hG8 hk4
    have hA12 : Arr cy S10 q2 7 (upd (upd (fun _ => 0) 0 (nI 0)) 1 (nI 0)) := by rw [hS10]; exact hA9.up
    refine lv_dup hx hb dL_stage_18 rfl ?_
    refine lv_iconst (v := nI 2) hx hb dL_stage_19 (by decide) ?_
    refine lv_iconst (v := nI 0) hx hb dL_stage_20 (by decide) ?_
    refine p_ast C hw 0 rfl hA12.1 hA12.2 (by first | decide | omega) (by first | decide | omega) dL_stage_21 (fun H locs hw => ?_)
    obtain ⟨S13, hS13⟩ : ∃ z, z = pup S10 q2 (.inl (cy 0, 7, .inl (upd (upd (upd (fun _ => 0) 0 (nI 0)) 1 (nI 0)) 2 (nI 0)))) := ⟨_, rfl⟩
    replace hw : pW D (pA S s.heap.size) s.heap S13 H locs := by rw [hS13]; exact hw
    have hG14 : Grw S S13 := by rw [hS13]; exact Grw.up hG11 hk4
    have hA15 : Arr cy S13 q2 7 (upd (upd (upd (fun _ => 0) 0 (nI 0)) 1 (nI 0)) 2 (nI 0)) := by rw [hS13]; exact hA12.up
    refine lv_dup hx hb dL_stage_22 rfl ?_
    refine lv_iconst (v := nI 3) hx hb dL_stage_23 (by decide) ?_
    refine lv_iconst (v := nI 0) hx hb dL_stage_24 (by decide) ?_
    refine p_ast C hw 0 rfl hA15.1 hA15.2 (by first | decide | omega) (by first | decide | omega) dL_stage_25 (fun H locs hw => ?_)
    obtain ⟨S16, hS16⟩ : ∃ z, z = pup S13 q2 (.inl (cy 0, 7, .inl (upd (upd (upd (upd (fun _ => 0) 0 (nI 0)) 1 (nI 0)) 2 (nI 0)) 3 (nI 0)))) := ⟨_, rfl⟩
    replace hw : pW D (pA S s.heap.size) s.heap S16 H locs := by rw [hS16]; exact hw
    have hG17 : Grw S S16 := by rw [hS16]; exact Grw.up hG14 hk4
    have hA18 : Arr cy S16 q2 7 (upd (upd (upd (upd (fun _ => 0) 0 (nI 0)) 1 (nI 0)) 2 (nI 0)) 3 (nI 0)) := by rw [hS16]; exact hA15.up
    refine lv_dup hx hb dL_stage_26 rfl ?_
    refine lv_iconst (v := nI 4) hx hb dL_stage_27 (by decide) ?_
    refine lv_iconst (v := nI 0) hx hb dL_stage_28 (by decide) ?_
    refine p_ast C hw 0 rfl hA18.1 hA18.2 (by first | decide | omega) (by first | decide | omega) dL_stage_29 (fun H locs hw => ?_)
    obtain ⟨S19, hS19⟩ : ∃ z, z = pup S16 q2 (.inl (cy 0, 7, .inl (upd (upd (upd (upd (upd (fun _ => 0) 0 (nI 0)) 1 (nI 0)) 2 (nI 0)) 3 (nI 0)) 4 (nI 0)))) := ⟨_, rfl⟩
    replace hw : pW D (pA S s.heap.size) s.heap S19 H locs := by rw [hS19]; exact hw
    have hG20 : Grw S S19 := by rw [hS19]; exact Grw.up hG17 hk4
    have hA21 : Arr cy S19 q2 7 (upd (upd (upd (upd (upd (fun _ => 0) 0 (nI 0)) 1 (nI 0)) 2 (nI 0)) 3 (nI 0)) 4 (nI 0)) := by rw [hS19]; exact hA18.up
    refine lv_dup hx hb dL_stage_30 rfl ?_
    refine lv_iconst (v := nI 5) hx hb dL_stage_31 (by decide) ?_
    refine lv_iconst (v := nI 0) hx hb dL_stage_32 (by decide) ?_
    refine p_ast C hw 0 rfl hA21.1 hA21.2 (by first | decide | omega) (by first | decide | omega) dL_stage_33 (fun H locs hw => ?_)
    obtain ⟨S22, hS22⟩ : ∃ z, z = pup S19 q2 (.inl (cy 0, 7, .inl (upd (upd (upd (upd (upd (upd (fun _ => 0) 0 (nI 0)) 1 (nI 0)) 2 (nI 0)) 3 (nI 0)) 4 (nI 0)) 5 (nI 0)))) := ⟨_, rfl⟩
    replace hw : pW D (pA S s.heap.size) s.heap S22 H locs := by rw [hS22]; exact hw
    have hG23 : Grw S S22 := by rw [hS22]; exact Grw.up hG20 hk4
    have hA24 : Arr cy S22 q2 7 (upd (upd (upd (upd (upd (upd (fun _ => 0) 0 (nI 0)) 1 (nI 0)) 2 (nI 0)) 3 (nI 0)) 4 (nI 0)) 5 (nI 0)) := by rw [hS22]; exact hA21.up
    refine lv_dup hx hb dL_stage_34 rfl ?_
    refine lv_bipush (v := nI 6) hx hb dL_stage_35 (by decide) ?_
    refine lv_iconst (v := nI 0) hx hb dL_stage_37 (by decide) ?_
    refine p_ast C hw 0 rfl hA24.1 hA24.2 (by first | decide | omega) (by first | decide | omega) dL_stage_38 (fun H locs hw => ?_)
    obtain ⟨S25, hS25⟩ : ∃ z, z = pup S22 q2 (.inl (cy 0, 7, .inl (upd (upd (upd (upd (upd (upd (upd (fun _ => 0) 0 (nI 0)) 1 (nI 0)) 2 (nI 0)) 3 (nI 0)) 4 (nI 0)) 5 (nI 0)) 6 (nI 0)))) := ⟨_, rfl⟩
    replace hw : pW D (pA S s.heap.size) s.heap S25 H locs := by rw [hS25]; exact hw
    have hG26 : Grw S S25 := by rw [hS25]; exact Grw.up hG23 hk4
    have hA27 : Arr cy S25 q2 7 (upd (upd (upd (upd (upd (upd (upd (fun _ => 0) 0 (nI 0)) 1 (nI 0)) 2 (nI 0)) 3 (nI 0)) 4 (nI 0)) 5 (nI 0)) 6 (nI 0)) := by rw [hS25]; exact hA24.up
    refine lv_astore_n (lv' := [(2, .ref q2), (1, .int (nI 0)), (0, .int v)]) hx hb dL_stage_39 rfl hl (by decide) rfl (fun ls hl => ?_)
    refine lv_iload_n hx hb dL_stage_40 rfl (lv_at hl 1 rfl) ?_
    refine n_if_ne (tgt := 56) hx hb (by decide) dL_stage_41 (by decide) (fun h_41 => ?_) (fun h_41 => ?_)
    · exact absurd h_41 (by first | decide | omega)
    · skip
      refine lv_aload_n hx hb dL_stage_44 rfl (lv_at hl 0 rfl) ?_
      refine lv_iconst (v := nI 1) hx hb dL_stage_45 (by decide) ?_
      refine lv_iconst (v := nI 2) hx hb dL_stage_46 (by decide) ?_
      refine lv_iload_n hx hb dL_stage_47 rfl (lv_at hl 2 rfl) ?_
      refine lv_iconst (v := nI 2) hx hb dL_stage_48 (by decide) ?_
      refine lv_ishr hx hb dL_stage_49 ?_
      refine lv_iconst (v := nI 3) hx hb dL_stage_50 (by decide) ?_
      refine p_calli (va_runS (As := [.int (v >>> ((nI 2) &&& 31)), .int (nI 3)]) (rest := [.int (nI 2), .int (nI 1), .ref q2]) C.fix (g_L_below l D cy S25 H.size (v >>> ((nI 2) &&& 31)) 3 (by first | decide | omega) (by first | decide | omega)) (va_cwS 2 C.2.2.2.2.1 (gU_S mw_82 mw_83 mw_79 (subU mw_84)) rfl rfl rfl hdg_L_stage_S_0 ⟨Nat.le_of_ble_eq_true rfl, Nat.le_of_ble_eq_true rfl⟩) (p_preS C hw) rfl rfl hl.1 rfl (lv_room (Nat.le_of_ble_eq_true rfl)) dL_stage_51 ⟨(Nat.le_of_ble_eq_true rfl), (Nat.le_of_ble_eq_true rfl)⟩) hw hA (fun r29 S28 H locs hpost hw => ?_)
      obtain ⟨t0, ht0, hr_, hS_⟩ := hpost
      subst hr_
      subst hS_
      refine n_iadd hx hb dL_stage_54 ?_
      obtain ⟨sa, esa⟩ : ∃ z, z = 2 + t0 := ⟨_, rfl⟩
      refine n_ren (b := sa) esa.symm ?_
      refine p_ast C hw 0 rfl hA27.1 hA27.2 (by first | decide | omega) (by first | decide | omega) dL_stage_55 (fun H locs hw => ?_)
      obtain ⟨S30, hS30⟩ : ∃ z, z = pup S25 q2 (.inl (cy 0, 7, .inl (upd (upd (upd (upd (upd (upd (upd (upd (fun _ => 0) 0 (nI 0)) 1 (nI 0)) 2 (nI 0)) 3 (nI 0)) 4 (nI 0)) 5 (nI 0)) 6 (nI 0)) 1 (nI sa)))) := ⟨_, rfl⟩
      replace hw : pW D (pA S s.heap.size) s.heap S30 H locs := by rw [hS30]; exact hw
      have hG31 : Grw S S30 := by rw [hS30]; exact Grw.up hG26 hk4
      have hA32 : Arr cy S30 q2 7 (upd (upd (upd (upd (upd (upd (upd (upd (fun _ => 0) 0 (nI 0)) 1 (nI 0)) 2 (nI 0)) 3 (nI 0)) 4 (nI 0)) 5 (nI 0)) 6 (nI 0)) 1 (nI sa)) := by rw [hS30]; exact hA27.up
      refine lv_iload_n hx hb dL_stage_56 rfl (lv_at hl 1 rfl) ?_
      refine lv_iconst (v := nI 1) hx hb dL_stage_57 (by decide) ?_
      refine n_icmp_ne (tgt := 120) hx hb (by first | decide | omega) (by first | decide | omega) dL_stage_58 (by decide) (fun h_58 => ?_) (fun h_58 => ?_)
      · skip
        refine lv_iload_n hx hb dL_stage_120 rfl (lv_at hl 1 rfl) ?_
        refine lv_iconst (v := nI 2) hx hb dL_stage_121 (by decide) ?_
        refine n_icmp_ne (tgt := 151) hx hb (by first | decide | omega) (by first | decide | omega) dL_stage_122 (by decide) (fun h_122 => ?_) (fun h_122 => ?_)
        · skip
          refine lv_iload_n hx hb dL_stage_151 rfl (lv_at hl 1 rfl) ?_
          refine lv_iconst (v := nI 3) hx hb dL_stage_152 (by decide) ?_
          refine n_icmp_ne (tgt := 220) hx hb (by first | decide | omega) (by first | decide | omega) dL_stage_153 (by decide) (fun h_153 => ?_) (fun h_153 => ?_)
          · skip
            refine lv_iload_n hx hb dL_stage_220 rfl (lv_at hl 1 rfl) ?_
            refine lv_iconst (v := nI 4) hx hb dL_stage_221 (by decide) ?_
            refine n_icmp_ne (tgt := 249) hx hb (by first | decide | omega) (by first | decide | omega) dL_stage_222 (by decide) (fun h_222 => ?_) (fun h_222 => ?_)
            · skip
              refine lv_aload_n hx hb dL_stage_249 rfl (lv_at hl 0 rfl) ?_
              exact (p_qret C hw (v := some q2) ⟨_, _, 0, sa, 0, 0, 0, 0, 0, rfl, hk4, hG31, hA32, ⟨rfl, rfl, rfl, rfl, rfl, rfl, rfl⟩, Or.inl ⟨rfl, by omega, by omega⟩⟩ hr (by first | exact Or.inl ⟨_, rfl⟩ | exact Or.inr ⟨_, rfl⟩) hlocks dL_stage_250)
            · exact absurd h_222 (by first | decide | omega)
          · exact absurd h_153 (by first | decide | omega)
        · exact absurd h_122 (by first | decide | omega)
      · exact absurd h_58 (by first | decide | omega)
  · skip
    refine lv_istore_n (lv' := [(1, .int (nI 1)), (0, .int v)]) hx hb dL_stage_5 rfl hl (by decide) rfl (fun ls hl => ?_)
    refine lv_bipush (v := nI 7) hx hb dL_stage_6 (by decide) ?_
    refine p_newa C hw hA (mU mw_3) 0 rfl (n := 7) (by first | decide | omega) (Nat.le_of_ble_eq_true rfl) (Nat.le_of_ble_eq_true rfl) dL_stage_8 (fun q2 H hq_q2 hw => ?_)
    obtain ⟨S33, hS33⟩ : ∃ z, z = pnew S q2 (.inl (cy 0, 7, .inl (fun _ => 0))) := ⟨_, rfl⟩
    replace hw : pW D (pA S s.heap.size) s.heap S33 H locs := by rw [hS33]; exact hw
    have hk34 : q2 ∉ S.1 := hq_q2
    have hs35 : Grw S S33 := by rw [hS33]; exact Grw.new hq_q2
    have hA36 : Arr cy S33 q2 7 (fun _ => 0) := by rw [hS33]; exact Arr.new
    refine lv_dup hx hb dL_stage_10 rfl ?_
    refine lv_iconst (v := nI 0) hx hb dL_stage_11 (by decide) ?_
    refine lv_iload_n hx hb dL_stage_12 rfl (lv_at hl 0 rfl) ?_
    refine p_ast C hw 0 rfl hA36.1 hA36.2 (by first | decide | omega) (by first | decide | omega) dL_stage_13 (fun H locs hw => ?_)
    obtain ⟨S37, hS37⟩ : ∃ z, z = pup S33 q2 (.inl (cy 0, 7, .inl (upd (fun _ => 0) 0 (nI 1)))) := ⟨_, rfl⟩
    replace hw : pW D (pA S s.heap.size) s.heap S37 H locs := by rw [hS37]; exact hw
    have hG38 : Grw S S37 := by rw [hS37]; exact Grw.up hs35 hk34
    have hA39 : Arr cy S37 q2 7 (upd (fun _ => 0) 0 (nI 1)) := by rw [hS37]; exact hA36.up
    refine lv_dup hx hb dL_stage_14 rfl ?_
    refine lv_iconst (v := nI 1) hx hb dL_stage_15 (by decide) ?_
    refine lv_iconst (v := nI 0) hx hb dL_stage_16 (by decide) ?_
    refine p_ast C hw 0 rfl hA39.1 hA39.2 (by first | decide | omega) (by first | decide | omega) dL_stage_17 (fun H locs hw => ?_)
    obtain ⟨S40, hS40⟩ : ∃ z, z = pup S37 q2 (.inl (cy 0, 7, .inl (upd (upd (fun _ => 0) 0 (nI 1)) 1 (nI 0)))) := ⟨_, rfl⟩
    replace hw : pW D (pA S s.heap.size) s.heap S40 H locs := by rw [hS40]; exact hw
    have hG41 : Grw S S40 := by rw [hS40]; exact Grw.up hG38 hk34
    have hA42 : Arr cy S40 q2 7 (upd (upd (fun _ => 0) 0 (nI 1)) 1 (nI 0)) := by rw [hS40]; exact hA39.up
    refine lv_dup hx hb dL_stage_18 rfl ?_
    refine lv_iconst (v := nI 2) hx hb dL_stage_19 (by decide) ?_
    refine lv_iconst (v := nI 0) hx hb dL_stage_20 (by decide) ?_
    refine p_ast C hw 0 rfl hA42.1 hA42.2 (by first | decide | omega) (by first | decide | omega) dL_stage_21 (fun H locs hw => ?_)
    obtain ⟨S43, hS43⟩ : ∃ z, z = pup S40 q2 (.inl (cy 0, 7, .inl (upd (upd (upd (fun _ => 0) 0 (nI 1)) 1 (nI 0)) 2 (nI 0)))) := ⟨_, rfl⟩
    replace hw : pW D (pA S s.heap.size) s.heap S43 H locs := by rw [hS43]; exact hw
    have hG44 : Grw S S43 := by rw [hS43]; exact Grw.up hG41 hk34
    have hA45 : Arr cy S43 q2 7 (upd (upd (upd (fun _ => 0) 0 (nI 1)) 1 (nI 0)) 2 (nI 0)) := by rw [hS43]; exact hA42.up
    refine lv_dup hx hb dL_stage_22 rfl ?_
    refine lv_iconst (v := nI 3) hx hb dL_stage_23 (by decide) ?_
    refine lv_iconst (v := nI 0) hx hb dL_stage_24 (by decide) ?_
    refine p_ast C hw 0 rfl hA45.1 hA45.2 (by first | decide | omega) (by first | decide | omega) dL_stage_25 (fun H locs hw => ?_)
    obtain ⟨S46, hS46⟩ : ∃ z, z = pup S43 q2 (.inl (cy 0, 7, .inl (upd (upd (upd (upd (fun _ => 0) 0 (nI 1)) 1 (nI 0)) 2 (nI 0)) 3 (nI 0)))) := ⟨_, rfl⟩
    replace hw : pW D (pA S s.heap.size) s.heap S46 H locs := by rw [hS46]; exact hw
    have hG47 : Grw S S46 := by rw [hS46]; exact Grw.up hG44 hk34
    have hA48 : Arr cy S46 q2 7 (upd (upd (upd (upd (fun _ => 0) 0 (nI 1)) 1 (nI 0)) 2 (nI 0)) 3 (nI 0)) := by rw [hS46]; exact hA45.up
    refine lv_dup hx hb dL_stage_26 rfl ?_
    refine lv_iconst (v := nI 4) hx hb dL_stage_27 (by decide) ?_
    refine lv_iconst (v := nI 0) hx hb dL_stage_28 (by decide) ?_
    refine p_ast C hw 0 rfl hA48.1 hA48.2 (by first | decide | omega) (by first | decide | omega) dL_stage_29 (fun H locs hw => ?_)
    obtain ⟨S49, hS49⟩ : ∃ z, z = pup S46 q2 (.inl (cy 0, 7, .inl (upd (upd (upd (upd (upd (fun _ => 0) 0 (nI 1)) 1 (nI 0)) 2 (nI 0)) 3 (nI 0)) 4 (nI 0)))) := ⟨_, rfl⟩
    replace hw : pW D (pA S s.heap.size) s.heap S49 H locs := by rw [hS49]; exact hw
    have hG50 : Grw S S49 := by rw [hS49]; exact Grw.up hG47 hk34
    have hA51 : Arr cy S49 q2 7 (upd (upd (upd (upd (upd (fun _ => 0) 0 (nI 1)) 1 (nI 0)) 2 (nI 0)) 3 (nI 0)) 4 (nI 0)) := by rw [hS49]; exact hA48.up
    refine lv_dup hx hb dL_stage_30 rfl ?_
    refine lv_iconst (v := nI 5) hx hb dL_stage_31 (by decide) ?_
    refine lv_iconst (v := nI 0) hx hb dL_stage_32 (by decide) ?_
    refine p_ast C hw 0 rfl hA51.1 hA51.2 (by first | decide | omega) (by first | decide | omega) dL_stage_33 (fun H locs hw => ?_)
    obtain ⟨S52, hS52⟩ : ∃ z, z = pup S49 q2 (.inl (cy 0, 7, .inl (upd (upd (upd (upd (upd (upd (fun _ => 0) 0 (nI 1)) 1 (nI 0)) 2 (nI 0)) 3 (nI 0)) 4 (nI 0)) 5 (nI 0)))) := ⟨_, rfl⟩
    replace hw : pW D (pA S s.heap.size) s.heap S52 H locs := by rw [hS52]; exact hw
    have hG53 : Grw S S52 := by rw [hS52]; exact Grw.up hG50 hk34
    have hA54 : Arr cy S52 q2 7 (upd (upd (upd (upd (upd (upd (fun _ => 0) 0 (nI 1)) 1 (nI 0)) 2 (nI 0)) 3 (nI 0)) 4 (nI 0)) 5 (nI 0)) := by rw [hS52]; exact hA51.up
    refine lv_dup hx hb dL_stage_34 rfl ?_
    refine lv_bipush (v := nI 6) hx hb dL_stage_35 (by decide) ?_
    refine lv_iconst (v := nI 0) hx hb dL_stage_37 (by decide) ?_
    refine p_ast C hw 0 rfl hA54.1 hA54.2 (by first | decide | omega) (by first | decide | omega) dL_stage_38 (fun H locs hw => ?_)
    obtain ⟨S55, hS55⟩ : ∃ z, z = pup S52 q2 (.inl (cy 0, 7, .inl (upd (upd (upd (upd (upd (upd (upd (fun _ => 0) 0 (nI 1)) 1 (nI 0)) 2 (nI 0)) 3 (nI 0)) 4 (nI 0)) 5 (nI 0)) 6 (nI 0)))) := ⟨_, rfl⟩
    replace hw : pW D (pA S s.heap.size) s.heap S55 H locs := by rw [hS55]; exact hw
    have hG56 : Grw S S55 := by rw [hS55]; exact Grw.up hG53 hk34
    have hA57 : Arr cy S55 q2 7 (upd (upd (upd (upd (upd (upd (upd (fun _ => 0) 0 (nI 1)) 1 (nI 0)) 2 (nI 0)) 3 (nI 0)) 4 (nI 0)) 5 (nI 0)) 6 (nI 0)) := by rw [hS55]; exact hA54.up
    refine lv_astore_n (lv' := [(2, .ref q2), (1, .int (nI 1)), (0, .int v)]) hx hb dL_stage_39 rfl hl (by decide) rfl (fun ls hl => ?_)
    refine lv_iload_n hx hb dL_stage_40 rfl (lv_at hl 1 rfl) ?_
    refine n_if_ne (tgt := 56) hx hb (by decide) dL_stage_41 (by decide) (fun h_41 => ?_) (fun h_41 => ?_)
    · skip
      refine lv_iload_n hx hb dL_stage_56 rfl (lv_at hl 1 rfl) ?_
      refine lv_iconst (v := nI 1) hx hb dL_stage_57 (by decide) ?_
      refine n_icmp_ne (tgt := 120) hx hb (by first | decide | omega) (by first | decide | omega) dL_stage_58 (by decide) (fun h_58 => ?_) (fun h_58 => ?_)
      · exact absurd h_58 (by first | decide | omega)
      · skip
        refine lv_aload_n hx hb dL_stage_61 rfl (lv_at hl 0 rfl) ?_
        refine lv_iconst (v := nI 1) hx hb dL_stage_62 (by decide) ?_
        refine lv_iconst (v := nI 1) hx hb dL_stage_63 (by decide) ?_
        refine lv_iload_n hx hb dL_stage_64 rfl (lv_at hl 2 rfl) ?_
        refine lv_iconst (v := nI 2) hx hb dL_stage_65 (by decide) ?_
        refine lv_ishr hx hb dL_stage_66 ?_
        refine lv_iconst (v := nI 4) hx hb dL_stage_67 (by decide) ?_
        refine p_calli (va_runS (As := [.int (v >>> ((nI 2) &&& 31)), .int (nI 4)]) (rest := [.int (nI 1), .int (nI 1), .ref q2]) C.fix (g_L_below l D cy S55 H.size (v >>> ((nI 2) &&& 31)) 4 (by first | decide | omega) (by first | decide | omega)) (va_cwS 2 C.2.2.2.2.1 (gU_S mw_82 mw_83 mw_79 (subU mw_84)) rfl rfl rfl hdg_L_stage_S_0 ⟨Nat.le_of_ble_eq_true rfl, Nat.le_of_ble_eq_true rfl⟩) (p_preS C hw) rfl rfl hl.1 rfl (lv_room (Nat.le_of_ble_eq_true rfl)) dL_stage_68 ⟨(Nat.le_of_ble_eq_true rfl), (Nat.le_of_ble_eq_true rfl)⟩) hw hA (fun r59 S58 H locs hpost hw => ?_)
        obtain ⟨t1, ht1, hr_, hS_⟩ := hpost
        subst hr_
        subst hS_
        refine n_iadd hx hb dL_stage_71 ?_
        obtain ⟨sa, esa⟩ : ∃ z, z = 1 + t1 := ⟨_, rfl⟩
        refine n_ren (b := sa) esa.symm ?_
        refine p_ast C hw 0 rfl hA57.1 hA57.2 (by first | decide | omega) (by first | decide | omega) dL_stage_72 (fun H locs hw => ?_)
        obtain ⟨S60, hS60⟩ : ∃ z, z = pup S55 q2 (.inl (cy 0, 7, .inl (upd (upd (upd (upd (upd (upd (upd (upd (fun _ => 0) 0 (nI 1)) 1 (nI 0)) 2 (nI 0)) 3 (nI 0)) 4 (nI 0)) 5 (nI 0)) 6 (nI 0)) 1 (nI sa)))) := ⟨_, rfl⟩
        replace hw : pW D (pA S s.heap.size) s.heap S60 H locs := by rw [hS60]; exact hw
        have hG61 : Grw S S60 := by rw [hS60]; exact Grw.up hG56 hk34
        have hA62 : Arr cy S60 q2 7 (upd (upd (upd (upd (upd (upd (upd (upd (fun _ => 0) 0 (nI 1)) 1 (nI 0)) 2 (nI 0)) 3 (nI 0)) 4 (nI 0)) 5 (nI 0)) 6 (nI 0)) 1 (nI sa)) := by rw [hS60]; exact hA57.up
        refine lv_aload_n hx hb dL_stage_73 rfl (lv_at hl 0 rfl) ?_
        refine lv_iconst (v := nI 2) hx hb dL_stage_74 (by decide) ?_
        refine lv_aload_n hx hb dL_stage_75 rfl (lv_at hl 0 rfl) ?_
        refine lv_iconst (v := nI 1) hx hb dL_stage_76 (by decide) ?_
        refine p_ald C hw 0 rfl hA62.1 hA62.2 (by first | decide | omega) (by first | decide | omega) dL_stage_77 ?_
        refine x_ren (b := nI sa) rfl ?_
        refine lv_iload_n hx hb dL_stage_78 rfl (lv_at hl 2 rfl) ?_
        refine lv_iconst (v := nI 4) hx hb dL_stage_79 (by decide) ?_
        refine lv_ishr hx hb dL_stage_80 ?_
        refine lv_iconst (v := nI 4) hx hb dL_stage_81 (by decide) ?_
        refine p_calli (va_runS (As := [.int (v >>> ((nI 4) &&& 31)), .int (nI 4)]) (rest := [.int (nI sa), .int (nI 2), .ref q2]) C.fix (g_L_below l D cy S60 H.size (v >>> ((nI 4) &&& 31)) 4 (by first | decide | omega) (by first | decide | omega)) (va_cwS 2 C.2.2.2.2.1 (gU_S mw_82 mw_83 mw_79 (subU mw_84)) rfl rfl rfl hdg_L_stage_S_0 ⟨Nat.le_of_ble_eq_true rfl, Nat.le_of_ble_eq_true rfl⟩) (p_preS C hw) rfl rfl hl.1 rfl (lv_room (Nat.le_of_ble_eq_true rfl)) dL_stage_82 ⟨(Nat.le_of_ble_eq_true rfl), (Nat.le_of_ble_eq_true rfl)⟩) hw hA (fun r64 S63 H locs hpost hw => ?_)
        obtain ⟨t2, ht2, hr_, hS_⟩ := hpost
        subst hr_
        subst hS_
        refine n_iadd hx hb dL_stage_85 ?_
        obtain ⟨sb, esb⟩ : ∃ z, z = sa + t2 := ⟨_, rfl⟩
        have h2b : 2 ^ sb ≤ 1024 := two_pow_10 (by omega)
        have h2p := Nat.two_pow_pos sb
        refine n_ren (b := sb) esb.symm ?_
        refine p_ast C hw 0 rfl hA62.1 hA62.2 (by first | decide | omega) (by first | decide | omega) dL_stage_86 (fun H locs hw => ?_)
        obtain ⟨S65, hS65⟩ : ∃ z, z = pup S60 q2 (.inl (cy 0, 7, .inl (upd (upd (upd (upd (upd (upd (upd (upd (upd (fun _ => 0) 0 (nI 1)) 1 (nI 0)) 2 (nI 0)) 3 (nI 0)) 4 (nI 0)) 5 (nI 0)) 6 (nI 0)) 1 (nI sa)) 2 (nI sb)))) := ⟨_, rfl⟩
        replace hw : pW D (pA S s.heap.size) s.heap S65 H locs := by rw [hS65]; exact hw
        have hG66 : Grw S S65 := by rw [hS65]; exact Grw.up hG61 hk34
        have hA67 : Arr cy S65 q2 7 (upd (upd (upd (upd (upd (upd (upd (upd (upd (fun _ => 0) 0 (nI 1)) 1 (nI 0)) 2 (nI 0)) 3 (nI 0)) 4 (nI 0)) 5 (nI 0)) 6 (nI 0)) 1 (nI sa)) 2 (nI sb)) := by rw [hS65]; exact hA62.up
        refine lv_iconst (v := nI 0) hx hb dL_stage_87 (by decide) ?_
        refine lv_istore_n (lv' := [(3, .int (nI 0)), (2, .ref q2), (1, .int (nI 1)), (0, .int v)]) hx hb dL_stage_88 rfl hl (by decide) rfl (fun ls hl => ?_)
        have loop89_68 : ∀ (kf : Nat) (k : Nat), sa - k < kf → ∀ (Sx69 : pS)  (sq : Nat) (sg : Nat → Int32) (H : Heap) (locs : List Loc) (ls : Array Slot), Grw S Sx69 → Arr cy Sx69 sq 7 sg → sq ∉ S.1 → (k ≤ sa) → (sg 0 = nI 1) → (sg 1 = nI sa) → (sg 2 = nI sb) → (∀ j, 3 ≤ j → j < 7 → ∃ z, z < 2 ^ sb ∧ sg j = nI z) → pW D (pA S s.heap.size) s.heap Sx69 H locs → lv_has ls 4 [(3, .int (nI k)), (2, .ref sq), (1, .int (nI 1)), (0, .int v)] → W p l e (headSpec (Cond.code yL_stage cL_stage 4 (some (.array .int)) :: lwU) ({ frames := 1, cells := 1, slots := 7, locals := 21 } : Room)).room s m ([.int v]).toArray below meth c H locs 1 7 (MQ below (pQq D cy S s.heap.size (fun r S' => ∃ (q : Nat) (g : Nat → Int32) (k a b c3 c4 c5 c6 : Nat), r = some q ∧ q ∉ S.1 ∧ Grw S S' ∧ Arr cy S' q 7 g ∧ Sev g k a b c3 c4 c5 c6 ∧ VSt k a b c3 c4 c5 c6)) ([.int v]).toArray s 1 7 (pA S s.heap.size)) (F0 m 89 ls []) := by
          intro kf
          induction kf with
          | zero => intro k hm; exact absurd hm (Nat.not_lt_zero _)
          | succ kf ihloop89_68 =>
            intro k hm Sx69  sq sg H locs ls hG70 hA_sqx hk_sqx hk hg0 hg1 hg2 hz hw hl
            refine lv_iload_n hx hb dL_stage_89 rfl (lv_at hl 0 rfl) ?_
            refine lv_aload_n hx hb dL_stage_90 rfl (lv_at hl 1 rfl) ?_
            refine lv_iconst (v := nI 1) hx hb dL_stage_91 (by decide) ?_
            refine p_ald C hw 0 rfl hA_sqx.1 hA_sqx.2 (by decide) (by decide) dL_stage_92 ?_
            refine x_ren (b := nI sa) hg1 ?_
            refine n_icmp_ge (tgt := 120) hx hb (by omega) (by omega) dL_stage_93 (by decide) (fun h_93 => ?_) (fun h_93 => ?_)
            · skip
              refine lv_iload_n hx hb dL_stage_120 rfl (lv_at hl 2 rfl) ?_
              refine lv_iconst (v := nI 2) hx hb dL_stage_121 (by decide) ?_
              refine n_icmp_ne (tgt := 151) hx hb (by first | decide | omega) (by first | decide | omega) dL_stage_122 (by decide) (fun h_122 => ?_) (fun h_122 => ?_)
              · skip
                refine lv_iload_n hx hb dL_stage_151 rfl (lv_at hl 2 rfl) ?_
                refine lv_iconst (v := nI 3) hx hb dL_stage_152 (by decide) ?_
                refine n_icmp_ne (tgt := 220) hx hb (by first | decide | omega) (by first | decide | omega) dL_stage_153 (by decide) (fun h_153 => ?_) (fun h_153 => ?_)
                · skip
                  refine lv_iload_n hx hb dL_stage_220 rfl (lv_at hl 2 rfl) ?_
                  refine lv_iconst (v := nI 4) hx hb dL_stage_221 (by decide) ?_
                  refine n_icmp_ne (tgt := 249) hx hb (by first | decide | omega) (by first | decide | omega) dL_stage_222 (by decide) (fun h_222 => ?_) (fun h_222 => ?_)
                  · skip
                    refine lv_aload_n hx hb dL_stage_249 rfl (lv_at hl 1 rfl) ?_
                    obtain ⟨c3, b3, g3⟩ := hz 3 (by omega) (by omega)
                    obtain ⟨c4, b4, g4⟩ := hz 4 (by omega) (by omega)
                    obtain ⟨c5, b5, g5⟩ := hz 5 (by omega) (by omega)
                    obtain ⟨c6, b6, g6⟩ := hz 6 (by omega) (by omega)
                    exact (p_qret C hw (v := some sq) ⟨_, _, 1, sa, sb, c3, c4, c5, c6, rfl, hk_sqx, hG70, hA_sqx, ⟨hg0, hg1, hg2, g3, g4, g5, g6⟩, Or.inr (Or.inl ⟨rfl, by omega, by omega, by omega, by omega, b3, b4, b5, b6⟩)⟩ hr (by first | exact Or.inl ⟨_, rfl⟩ | exact Or.inr ⟨_, rfl⟩) hlocks dL_stage_250)
                  · exact absurd h_222 (by first | decide | omega)
                · exact absurd h_153 (by first | decide | omega)
              · exact absurd h_122 (by first | decide | omega)
            · skip
              refine lv_aload_n hx hb dL_stage_96 rfl (lv_at hl 1 rfl) ?_
              refine lv_iconst (v := nI 3) hx hb dL_stage_97 (by decide) ?_
              refine lv_iload_n hx hb dL_stage_98 rfl (lv_at hl 0 rfl) ?_
              refine n_iadd hx hb dL_stage_99 ?_
              refine lv_iload_n hx hb dL_stage_100 rfl (lv_at hl 3 rfl) ?_
              refine lv_iload_n hx hb dL_stage_101 rfl (lv_at hl 0 rfl) ?_
              refine lv_iconst (v := nI 1) hx hb dL_stage_102 (by decide) ?_
              refine n_iadd hx hb dL_stage_103 ?_
              refine lv_ishr hx hb dL_stage_104 ?_
              refine lv_iconst (v := nI 1) hx hb dL_stage_105 (by decide) ?_
              refine lv_aload_n hx hb dL_stage_106 rfl (lv_at hl 1 rfl) ?_
              refine lv_iconst (v := nI 2) hx hb dL_stage_107 (by decide) ?_
              refine p_ald C hw 0 rfl hA_sqx.1 hA_sqx.2 (by decide) (by decide) dL_stage_108 ?_
              refine x_ren (b := nI sb) hg2 ?_
              refine n_ishl hx hb (by omega) (by omega) dL_stage_109 ?_
              refine p_calli (va_runS (As := [.int (v >>> ((nI (k + 1)) &&& 31)), .int (nI (1 * 2 ^ sb))]) (rest := [.int (nI (3 + k)), .ref sq]) C.fix (g_L_below l D cy Sx69 H.size (v >>> ((nI (k + 1)) &&& 31)) (1 * 2 ^ sb) (by omega) (by omega)) (va_cwS 2 C.2.2.2.2.1 (gU_S mw_82 mw_83 mw_79 (subU mw_84)) rfl rfl rfl hdg_L_stage_S_0 ⟨Nat.le_of_ble_eq_true rfl, Nat.le_of_ble_eq_true rfl⟩) (p_preS C hw) rfl rfl hl.1 rfl (lv_room (Nat.le_of_ble_eq_true rfl)) dL_stage_110 ⟨(Nat.le_of_ble_eq_true rfl), (Nat.le_of_ble_eq_true rfl)⟩) hw hA (fun r72 S71 H locs hpost hw => ?_)
              obtain ⟨tw, htw, hr_, hS_⟩ := hpost
              subst hr_
              subst hS_
              refine p_ast C hw 0 rfl hA_sqx.1 hA_sqx.2 (by omega) (by omega) dL_stage_113 (fun H locs hw => ?_)
              obtain ⟨S73, hS73⟩ : ∃ z, z = pup Sx69 sq (.inl (cy 0, 7, .inl (upd sg (3 + k) (nI tw)))) := ⟨_, rfl⟩
              replace hw : pW D (pA S s.heap.size) s.heap S73 H locs := by rw [hS73]; exact hw
              have hG74 : Grw S S73 := by rw [hS73]; exact Grw.up hG70 hk_sqx
              have hA75 : Arr cy S73 sq 7 (upd sg (3 + k) (nI tw)) := by rw [hS73]; exact hA_sqx.up
              refine lv_iinc (v := (nI (k + 1))) (lv' := [(3, .int (nI (k + 1))), (2, .ref sq), (1, .int (nI 1)), (0, .int v)]) hx hb dL_stage_114 hl (k := 0) rfl (by rw [show Int32.ofInt 1 = nI 1 from by decide, nI_add]) (by decide) rfl (fun ls hl => ?_)
              refine lv_goto (tgt := 89) hx hb dL_stage_117 (by decide) ?_
              exact ihloop89_68  (k + 1) (by omega) S73  sq (upd sg (3 + k) (nI tw)) H locs ls hG74 (hA75.cast (by omega)) hk_sqx (by omega) (by rw [upd_ne (by omega)]; exact hg0) (by rw [upd_ne (by omega)]; exact hg1) (by rw [upd_ne (by omega)]; exact hg2) (fun j h1 h2 => dite (j = 3 + k) (fun e => ⟨tw, by omega, by rw [e, upd_at]⟩) (fun e => by rw [upd_ne e]; exact hz j h1 h2)) hw (lv_sub hl [0, 1, 2, 3] rfl)
        exact loop89_68 (sa - 0 + 1) 0 (by omega) S65  q2 (upd (upd (upd (upd (upd (upd (upd (upd (upd (fun _ => 0) 0 (nI 1)) 1 (nI 0)) 2 (nI 0)) 3 (nI 0)) 4 (nI 0)) 5 (nI 0)) 6 (nI 0)) 1 (nI sa)) 2 (nI sb)) H locs ls hG66 (hA67.cast (by omega)) hk34 (by omega) rfl rfl rfl (fun j h1 h2 => ⟨0, h2p, by rcases (show j = 3 ∨ j = 4 ∨ j = 5 ∨ j = 6 by omega) with rfl | rfl | rfl | rfl <;> rfl⟩) hw (lv_sub hl [0, 1, 2, 3] rfl)
    · exact absurd h_41 (by first | decide | omega)
  · skip
    refine lv_istore_n (lv' := [(1, .int (nI 2)), (0, .int v)]) hx hb dL_stage_5 rfl hl (by decide) rfl (fun ls hl => ?_)
    refine lv_bipush (v := nI 7) hx hb dL_stage_6 (by decide) ?_
    refine p_newa C hw hA (mU mw_3) 0 rfl (n := 7) (by first | decide | omega) (Nat.le_of_ble_eq_true rfl) (Nat.le_of_ble_eq_true rfl) dL_stage_8 (fun q2 H hq_q2 hw => ?_)
    obtain ⟨S76, hS76⟩ : ∃ z, z = pnew S q2 (.inl (cy 0, 7, .inl (fun _ => 0))) := ⟨_, rfl⟩
    replace hw : pW D (pA S s.heap.size) s.heap S76 H locs := by rw [hS76]; exact hw
    have hk77 : q2 ∉ S.1 := hq_q2
    have hs78 : Grw S S76 := by rw [hS76]; exact Grw.new hq_q2
    have hA79 : Arr cy S76 q2 7 (fun _ => 0) := by rw [hS76]; exact Arr.new
    refine lv_dup hx hb dL_stage_10 rfl ?_
    refine lv_iconst (v := nI 0) hx hb dL_stage_11 (by decide) ?_
    refine lv_iload_n hx hb dL_stage_12 rfl (lv_at hl 0 rfl) ?_
    refine p_ast C hw 0 rfl hA79.1 hA79.2 (by first | decide | omega) (by first | decide | omega) dL_stage_13 (fun H locs hw => ?_)
    obtain ⟨S80, hS80⟩ : ∃ z, z = pup S76 q2 (.inl (cy 0, 7, .inl (upd (fun _ => 0) 0 (nI 2)))) := ⟨_, rfl⟩
    replace hw : pW D (pA S s.heap.size) s.heap S80 H locs := by rw [hS80]; exact hw
    have hG81 : Grw S S80 := by rw [hS80]; exact Grw.up hs78 hk77
    have hA82 : Arr cy S80 q2 7 (upd (fun _ => 0) 0 (nI 2)) := by rw [hS80]; exact hA79.up
    refine lv_dup hx hb dL_stage_14 rfl ?_
    refine lv_iconst (v := nI 1) hx hb dL_stage_15 (by decide) ?_
    refine lv_iconst (v := nI 0) hx hb dL_stage_16 (by decide) ?_
    refine p_ast C hw 0 rfl hA82.1 hA82.2 (by first | decide | omega) (by first | decide | omega) dL_stage_17 (fun H locs hw => ?_)
    obtain ⟨S83, hS83⟩ : ∃ z, z = pup S80 q2 (.inl (cy 0, 7, .inl (upd (upd (fun _ => 0) 0 (nI 2)) 1 (nI 0)))) := ⟨_, rfl⟩
    replace hw : pW D (pA S s.heap.size) s.heap S83 H locs := by rw [hS83]; exact hw
    have hG84 : Grw S S83 := by rw [hS83]; exact Grw.up hG81 hk77
    have hA85 : Arr cy S83 q2 7 (upd (upd (fun _ => 0) 0 (nI 2)) 1 (nI 0)) := by rw [hS83]; exact hA82.up
    refine lv_dup hx hb dL_stage_18 rfl ?_
    refine lv_iconst (v := nI 2) hx hb dL_stage_19 (by decide) ?_
    refine lv_iconst (v := nI 0) hx hb dL_stage_20 (by decide) ?_
    refine p_ast C hw 0 rfl hA85.1 hA85.2 (by first | decide | omega) (by first | decide | omega) dL_stage_21 (fun H locs hw => ?_)
    obtain ⟨S86, hS86⟩ : ∃ z, z = pup S83 q2 (.inl (cy 0, 7, .inl (upd (upd (upd (fun _ => 0) 0 (nI 2)) 1 (nI 0)) 2 (nI 0)))) := ⟨_, rfl⟩
    replace hw : pW D (pA S s.heap.size) s.heap S86 H locs := by rw [hS86]; exact hw
    have hG87 : Grw S S86 := by rw [hS86]; exact Grw.up hG84 hk77
    have hA88 : Arr cy S86 q2 7 (upd (upd (upd (fun _ => 0) 0 (nI 2)) 1 (nI 0)) 2 (nI 0)) := by rw [hS86]; exact hA85.up
    refine lv_dup hx hb dL_stage_22 rfl ?_
    refine lv_iconst (v := nI 3) hx hb dL_stage_23 (by decide) ?_
    refine lv_iconst (v := nI 0) hx hb dL_stage_24 (by decide) ?_
    refine p_ast C hw 0 rfl hA88.1 hA88.2 (by first | decide | omega) (by first | decide | omega) dL_stage_25 (fun H locs hw => ?_)
    obtain ⟨S89, hS89⟩ : ∃ z, z = pup S86 q2 (.inl (cy 0, 7, .inl (upd (upd (upd (upd (fun _ => 0) 0 (nI 2)) 1 (nI 0)) 2 (nI 0)) 3 (nI 0)))) := ⟨_, rfl⟩
    replace hw : pW D (pA S s.heap.size) s.heap S89 H locs := by rw [hS89]; exact hw
    have hG90 : Grw S S89 := by rw [hS89]; exact Grw.up hG87 hk77
    have hA91 : Arr cy S89 q2 7 (upd (upd (upd (upd (fun _ => 0) 0 (nI 2)) 1 (nI 0)) 2 (nI 0)) 3 (nI 0)) := by rw [hS89]; exact hA88.up
    refine lv_dup hx hb dL_stage_26 rfl ?_
    refine lv_iconst (v := nI 4) hx hb dL_stage_27 (by decide) ?_
    refine lv_iconst (v := nI 0) hx hb dL_stage_28 (by decide) ?_
    refine p_ast C hw 0 rfl hA91.1 hA91.2 (by first | decide | omega) (by first | decide | omega) dL_stage_29 (fun H locs hw => ?_)
    obtain ⟨S92, hS92⟩ : ∃ z, z = pup S89 q2 (.inl (cy 0, 7, .inl (upd (upd (upd (upd (upd (fun _ => 0) 0 (nI 2)) 1 (nI 0)) 2 (nI 0)) 3 (nI 0)) 4 (nI 0)))) := ⟨_, rfl⟩
    replace hw : pW D (pA S s.heap.size) s.heap S92 H locs := by rw [hS92]; exact hw
    have hG93 : Grw S S92 := by rw [hS92]; exact Grw.up hG90 hk77
    have hA94 : Arr cy S92 q2 7 (upd (upd (upd (upd (upd (fun _ => 0) 0 (nI 2)) 1 (nI 0)) 2 (nI 0)) 3 (nI 0)) 4 (nI 0)) := by rw [hS92]; exact hA91.up
    refine lv_dup hx hb dL_stage_30 rfl ?_
    refine lv_iconst (v := nI 5) hx hb dL_stage_31 (by decide) ?_
    refine lv_iconst (v := nI 0) hx hb dL_stage_32 (by decide) ?_
    refine p_ast C hw 0 rfl hA94.1 hA94.2 (by first | decide | omega) (by first | decide | omega) dL_stage_33 (fun H locs hw => ?_)
    obtain ⟨S95, hS95⟩ : ∃ z, z = pup S92 q2 (.inl (cy 0, 7, .inl (upd (upd (upd (upd (upd (upd (fun _ => 0) 0 (nI 2)) 1 (nI 0)) 2 (nI 0)) 3 (nI 0)) 4 (nI 0)) 5 (nI 0)))) := ⟨_, rfl⟩
    replace hw : pW D (pA S s.heap.size) s.heap S95 H locs := by rw [hS95]; exact hw
    have hG96 : Grw S S95 := by rw [hS95]; exact Grw.up hG93 hk77
    have hA97 : Arr cy S95 q2 7 (upd (upd (upd (upd (upd (upd (fun _ => 0) 0 (nI 2)) 1 (nI 0)) 2 (nI 0)) 3 (nI 0)) 4 (nI 0)) 5 (nI 0)) := by rw [hS95]; exact hA94.up
    refine lv_dup hx hb dL_stage_34 rfl ?_
    refine lv_bipush (v := nI 6) hx hb dL_stage_35 (by decide) ?_
    refine lv_iconst (v := nI 0) hx hb dL_stage_37 (by decide) ?_
    refine p_ast C hw 0 rfl hA97.1 hA97.2 (by first | decide | omega) (by first | decide | omega) dL_stage_38 (fun H locs hw => ?_)
    obtain ⟨S98, hS98⟩ : ∃ z, z = pup S95 q2 (.inl (cy 0, 7, .inl (upd (upd (upd (upd (upd (upd (upd (fun _ => 0) 0 (nI 2)) 1 (nI 0)) 2 (nI 0)) 3 (nI 0)) 4 (nI 0)) 5 (nI 0)) 6 (nI 0)))) := ⟨_, rfl⟩
    replace hw : pW D (pA S s.heap.size) s.heap S98 H locs := by rw [hS98]; exact hw
    have hG99 : Grw S S98 := by rw [hS98]; exact Grw.up hG96 hk77
    have hA100 : Arr cy S98 q2 7 (upd (upd (upd (upd (upd (upd (upd (fun _ => 0) 0 (nI 2)) 1 (nI 0)) 2 (nI 0)) 3 (nI 0)) 4 (nI 0)) 5 (nI 0)) 6 (nI 0)) := by rw [hS98]; exact hA97.up
    refine lv_astore_n (lv' := [(2, .ref q2), (1, .int (nI 2)), (0, .int v)]) hx hb dL_stage_39 rfl hl (by decide) rfl (fun ls hl => ?_)
    refine lv_iload_n hx hb dL_stage_40 rfl (lv_at hl 1 rfl) ?_
    refine n_if_ne (tgt := 56) hx hb (by decide) dL_stage_41 (by decide) (fun h_41 => ?_) (fun h_41 => ?_)
    · skip
      refine lv_iload_n hx hb dL_stage_56 rfl (lv_at hl 1 rfl) ?_
      refine lv_iconst (v := nI 1) hx hb dL_stage_57 (by decide) ?_
      refine n_icmp_ne (tgt := 120) hx hb (by first | decide | omega) (by first | decide | omega) dL_stage_58 (by decide) (fun h_58 => ?_) (fun h_58 => ?_)
      · skip
        refine lv_iload_n hx hb dL_stage_120 rfl (lv_at hl 1 rfl) ?_
        refine lv_iconst (v := nI 2) hx hb dL_stage_121 (by decide) ?_
        refine n_icmp_ne (tgt := 151) hx hb (by first | decide | omega) (by first | decide | omega) dL_stage_122 (by decide) (fun h_122 => ?_) (fun h_122 => ?_)
        · exact absurd h_122 (by first | decide | omega)
        · skip
          refine lv_aload_n hx hb dL_stage_125 rfl (lv_at hl 0 rfl) ?_
          refine lv_iconst (v := nI 1) hx hb dL_stage_126 (by decide) ?_
          refine lv_iconst (v := nI 2) hx hb dL_stage_127 (by decide) ?_
          refine lv_iload_n hx hb dL_stage_128 rfl (lv_at hl 2 rfl) ?_
          refine lv_iconst (v := nI 2) hx hb dL_stage_129 (by decide) ?_
          refine lv_ishr hx hb dL_stage_130 ?_
          refine lv_bipush (v := nI 60) hx hb dL_stage_131 (by decide) ?_
          refine p_calli (va_runS (As := [.int (v >>> ((nI 2) &&& 31)), .int (nI 60)]) (rest := [.int (nI 2), .int (nI 1), .ref q2]) C.fix (g_L_below l D cy S98 H.size (v >>> ((nI 2) &&& 31)) 60 (by first | decide | omega) (by first | decide | omega)) (va_cwS 2 C.2.2.2.2.1 (gU_S mw_82 mw_83 mw_79 (subU mw_84)) rfl rfl rfl hdg_L_stage_S_0 ⟨Nat.le_of_ble_eq_true rfl, Nat.le_of_ble_eq_true rfl⟩) (p_preS C hw) rfl rfl hl.1 rfl (lv_room (Nat.le_of_ble_eq_true rfl)) dL_stage_133 ⟨(Nat.le_of_ble_eq_true rfl), (Nat.le_of_ble_eq_true rfl)⟩) hw hA (fun r102 S101 H locs hpost hw => ?_)
          obtain ⟨t3, ht3, hr_, hS_⟩ := hpost
          subst hr_
          subst hS_
          refine n_iadd hx hb dL_stage_136 ?_
          obtain ⟨sa, esa⟩ : ∃ z, z = 2 + t3 := ⟨_, rfl⟩
          refine n_ren (b := sa) esa.symm ?_
          refine p_ast C hw 0 rfl hA100.1 hA100.2 (by first | decide | omega) (by first | decide | omega) dL_stage_137 (fun H locs hw => ?_)
          obtain ⟨S103, hS103⟩ : ∃ z, z = pup S98 q2 (.inl (cy 0, 7, .inl (upd (upd (upd (upd (upd (upd (upd (upd (fun _ => 0) 0 (nI 2)) 1 (nI 0)) 2 (nI 0)) 3 (nI 0)) 4 (nI 0)) 5 (nI 0)) 6 (nI 0)) 1 (nI sa)))) := ⟨_, rfl⟩
          replace hw : pW D (pA S s.heap.size) s.heap S103 H locs := by rw [hS103]; exact hw
          have hG104 : Grw S S103 := by rw [hS103]; exact Grw.up hG99 hk77
          have hA105 : Arr cy S103 q2 7 (upd (upd (upd (upd (upd (upd (upd (upd (fun _ => 0) 0 (nI 2)) 1 (nI 0)) 2 (nI 0)) 3 (nI 0)) 4 (nI 0)) 5 (nI 0)) 6 (nI 0)) 1 (nI sa)) := by rw [hS103]; exact hA100.up
          refine lv_aload_n hx hb dL_stage_138 rfl (lv_at hl 0 rfl) ?_
          refine lv_iconst (v := nI 2) hx hb dL_stage_139 (by decide) ?_
          refine lv_iconst (v := nI 1) hx hb dL_stage_140 (by decide) ?_
          refine lv_iload_n hx hb dL_stage_141 rfl (lv_at hl 2 rfl) ?_
          refine lv_iconst (v := nI 3) hx hb dL_stage_142 (by decide) ?_
          refine lv_ishr hx hb dL_stage_143 ?_
          refine lv_bipush (v := nI 9) hx hb dL_stage_144 (by decide) ?_
          refine p_calli (va_runS (As := [.int (v >>> ((nI 3) &&& 31)), .int (nI 9)]) (rest := [.int (nI 1), .int (nI 2), .ref q2]) C.fix (g_L_below l D cy S103 H.size (v >>> ((nI 3) &&& 31)) 9 (by first | decide | omega) (by first | decide | omega)) (va_cwS 2 C.2.2.2.2.1 (gU_S mw_82 mw_83 mw_79 (subU mw_84)) rfl rfl rfl hdg_L_stage_S_0 ⟨Nat.le_of_ble_eq_true rfl, Nat.le_of_ble_eq_true rfl⟩) (p_preS C hw) rfl rfl hl.1 rfl (lv_room (Nat.le_of_ble_eq_true rfl)) dL_stage_146 ⟨(Nat.le_of_ble_eq_true rfl), (Nat.le_of_ble_eq_true rfl)⟩) hw hA (fun r107 S106 H locs hpost hw => ?_)
          obtain ⟨t4, ht4, hr_, hS_⟩ := hpost
          subst hr_
          subst hS_
          refine n_iadd hx hb dL_stage_149 ?_
          obtain ⟨sb, esb⟩ : ∃ z, z = 1 + t4 := ⟨_, rfl⟩
          refine n_ren (b := sb) esb.symm ?_
          refine p_ast C hw 0 rfl hA105.1 hA105.2 (by first | decide | omega) (by first | decide | omega) dL_stage_150 (fun H locs hw => ?_)
          obtain ⟨S108, hS108⟩ : ∃ z, z = pup S103 q2 (.inl (cy 0, 7, .inl (upd (upd (upd (upd (upd (upd (upd (upd (upd (fun _ => 0) 0 (nI 2)) 1 (nI 0)) 2 (nI 0)) 3 (nI 0)) 4 (nI 0)) 5 (nI 0)) 6 (nI 0)) 1 (nI sa)) 2 (nI sb)))) := ⟨_, rfl⟩
          replace hw : pW D (pA S s.heap.size) s.heap S108 H locs := by rw [hS108]; exact hw
          have hG109 : Grw S S108 := by rw [hS108]; exact Grw.up hG104 hk77
          have hA110 : Arr cy S108 q2 7 (upd (upd (upd (upd (upd (upd (upd (upd (upd (fun _ => 0) 0 (nI 2)) 1 (nI 0)) 2 (nI 0)) 3 (nI 0)) 4 (nI 0)) 5 (nI 0)) 6 (nI 0)) 1 (nI sa)) 2 (nI sb)) := by rw [hS108]; exact hA105.up
          refine lv_iload_n hx hb dL_stage_151 rfl (lv_at hl 1 rfl) ?_
          refine lv_iconst (v := nI 3) hx hb dL_stage_152 (by decide) ?_
          refine n_icmp_ne (tgt := 220) hx hb (by first | decide | omega) (by first | decide | omega) dL_stage_153 (by decide) (fun h_153 => ?_) (fun h_153 => ?_)
          · skip
            refine lv_iload_n hx hb dL_stage_220 rfl (lv_at hl 1 rfl) ?_
            refine lv_iconst (v := nI 4) hx hb dL_stage_221 (by decide) ?_
            refine n_icmp_ne (tgt := 249) hx hb (by first | decide | omega) (by first | decide | omega) dL_stage_222 (by decide) (fun h_222 => ?_) (fun h_222 => ?_)
            · skip
              refine lv_aload_n hx hb dL_stage_249 rfl (lv_at hl 0 rfl) ?_
              exact (p_qret C hw (v := some q2) ⟨_, _, 2, sa, sb, 0, 0, 0, 0, rfl, hk77, hG109, hA110, ⟨rfl, rfl, rfl, rfl, rfl, rfl, rfl⟩, Or.inr (Or.inr (Or.inl ⟨rfl, by omega, by omega, by omega, by omega⟩))⟩ hr (by first | exact Or.inl ⟨_, rfl⟩ | exact Or.inr ⟨_, rfl⟩) hlocks dL_stage_250)
            · exact absurd h_222 (by first | decide | omega)
          · exact absurd h_153 (by first | decide | omega)
      · exact absurd h_58 (by first | decide | omega)
    · exact absurd h_41 (by first | decide | omega)
  · skip
    refine lv_istore_n (lv' := [(1, .int (nI 3)), (0, .int v)]) hx hb dL_stage_5 rfl hl (by decide) rfl (fun ls hl => ?_)
    refine lv_bipush (v := nI 7) hx hb dL_stage_6 (by decide) ?_
    refine p_newa C hw hA (mU mw_3) 0 rfl (n := 7) (by first | decide | omega) (Nat.le_of_ble_eq_true rfl) (Nat.le_of_ble_eq_true rfl) dL_stage_8 (fun q2 H hq_q2 hw => ?_)
    obtain ⟨S111, hS111⟩ : ∃ z, z = pnew S q2 (.inl (cy 0, 7, .inl (fun _ => 0))) := ⟨_, rfl⟩
    replace hw : pW D (pA S s.heap.size) s.heap S111 H locs := by rw [hS111]; exact hw
    have hk112 : q2 ∉ S.1 := hq_q2
    have hs113 : Grw S S111 := by rw [hS111]; exact Grw.new hq_q2
    have hA114 : Arr cy S111 q2 7 (fun _ => 0) := by rw [hS111]; exact Arr.new
    refine lv_dup hx hb dL_stage_10 rfl ?_
    refine lv_iconst (v := nI 0) hx hb dL_stage_11 (by decide) ?_
    refine lv_iload_n hx hb dL_stage_12 rfl (lv_at hl 0 rfl) ?_
    refine p_ast C hw 0 rfl hA114.1 hA114.2 (by first | decide | omega) (by first | decide | omega) dL_stage_13 (fun H locs hw => ?_)
    obtain ⟨S115, hS115⟩ : ∃ z, z = pup S111 q2 (.inl (cy 0, 7, .inl (upd (fun _ => 0) 0 (nI 3)))) := ⟨_, rfl⟩
    replace hw : pW D (pA S s.heap.size) s.heap S115 H locs := by rw [hS115]; exact hw
    have hG116 : Grw S S115 := by rw [hS115]; exact Grw.up hs113 hk112
    have hA117 : Arr cy S115 q2 7 (upd (fun _ => 0) 0 (nI 3)) := by rw [hS115]; exact hA114.up
    refine lv_dup hx hb dL_stage_14 rfl ?_
    refine lv_iconst (v := nI 1) hx hb dL_stage_15 (by decide) ?_
    refine lv_iconst (v := nI 0) hx hb dL_stage_16 (by decide) ?_
    refine p_ast C hw 0 rfl hA117.1 hA117.2 (by first | decide | omega) (by first | decide | omega) dL_stage_17 (fun H locs hw => ?_)
    obtain ⟨S118, hS118⟩ : ∃ z, z = pup S115 q2 (.inl (cy 0, 7, .inl (upd (upd (fun _ => 0) 0 (nI 3)) 1 (nI 0)))) := ⟨_, rfl⟩
    replace hw : pW D (pA S s.heap.size) s.heap S118 H locs := by rw [hS118]; exact hw
    have hG119 : Grw S S118 := by rw [hS118]; exact Grw.up hG116 hk112
    have hA120 : Arr cy S118 q2 7 (upd (upd (fun _ => 0) 0 (nI 3)) 1 (nI 0)) := by rw [hS118]; exact hA117.up
    refine lv_dup hx hb dL_stage_18 rfl ?_
    refine lv_iconst (v := nI 2) hx hb dL_stage_19 (by decide) ?_
    refine lv_iconst (v := nI 0) hx hb dL_stage_20 (by decide) ?_
    refine p_ast C hw 0 rfl hA120.1 hA120.2 (by first | decide | omega) (by first | decide | omega) dL_stage_21 (fun H locs hw => ?_)
    obtain ⟨S121, hS121⟩ : ∃ z, z = pup S118 q2 (.inl (cy 0, 7, .inl (upd (upd (upd (fun _ => 0) 0 (nI 3)) 1 (nI 0)) 2 (nI 0)))) := ⟨_, rfl⟩
    replace hw : pW D (pA S s.heap.size) s.heap S121 H locs := by rw [hS121]; exact hw
    have hG122 : Grw S S121 := by rw [hS121]; exact Grw.up hG119 hk112
    have hA123 : Arr cy S121 q2 7 (upd (upd (upd (fun _ => 0) 0 (nI 3)) 1 (nI 0)) 2 (nI 0)) := by rw [hS121]; exact hA120.up
    refine lv_dup hx hb dL_stage_22 rfl ?_
    refine lv_iconst (v := nI 3) hx hb dL_stage_23 (by decide) ?_
    refine lv_iconst (v := nI 0) hx hb dL_stage_24 (by decide) ?_
    refine p_ast C hw 0 rfl hA123.1 hA123.2 (by first | decide | omega) (by first | decide | omega) dL_stage_25 (fun H locs hw => ?_)
    obtain ⟨S124, hS124⟩ : ∃ z, z = pup S121 q2 (.inl (cy 0, 7, .inl (upd (upd (upd (upd (fun _ => 0) 0 (nI 3)) 1 (nI 0)) 2 (nI 0)) 3 (nI 0)))) := ⟨_, rfl⟩
    replace hw : pW D (pA S s.heap.size) s.heap S124 H locs := by rw [hS124]; exact hw
    have hG125 : Grw S S124 := by rw [hS124]; exact Grw.up hG122 hk112
    have hA126 : Arr cy S124 q2 7 (upd (upd (upd (upd (fun _ => 0) 0 (nI 3)) 1 (nI 0)) 2 (nI 0)) 3 (nI 0)) := by rw [hS124]; exact hA123.up
    refine lv_dup hx hb dL_stage_26 rfl ?_
    refine lv_iconst (v := nI 4) hx hb dL_stage_27 (by decide) ?_
    refine lv_iconst (v := nI 0) hx hb dL_stage_28 (by decide) ?_
    refine p_ast C hw 0 rfl hA126.1 hA126.2 (by first | decide | omega) (by first | decide | omega) dL_stage_29 (fun H locs hw => ?_)
    obtain ⟨S127, hS127⟩ : ∃ z, z = pup S124 q2 (.inl (cy 0, 7, .inl (upd (upd (upd (upd (upd (fun _ => 0) 0 (nI 3)) 1 (nI 0)) 2 (nI 0)) 3 (nI 0)) 4 (nI 0)))) := ⟨_, rfl⟩
    replace hw : pW D (pA S s.heap.size) s.heap S127 H locs := by rw [hS127]; exact hw
    have hG128 : Grw S S127 := by rw [hS127]; exact Grw.up hG125 hk112
    have hA129 : Arr cy S127 q2 7 (upd (upd (upd (upd (upd (fun _ => 0) 0 (nI 3)) 1 (nI 0)) 2 (nI 0)) 3 (nI 0)) 4 (nI 0)) := by rw [hS127]; exact hA126.up
    refine lv_dup hx hb dL_stage_30 rfl ?_
    refine lv_iconst (v := nI 5) hx hb dL_stage_31 (by decide) ?_
    refine lv_iconst (v := nI 0) hx hb dL_stage_32 (by decide) ?_
    refine p_ast C hw 0 rfl hA129.1 hA129.2 (by first | decide | omega) (by first | decide | omega) dL_stage_33 (fun H locs hw => ?_)
    obtain ⟨S130, hS130⟩ : ∃ z, z = pup S127 q2 (.inl (cy 0, 7, .inl (upd (upd (upd (upd (upd (upd (fun _ => 0) 0 (nI 3)) 1 (nI 0)) 2 (nI 0)) 3 (nI 0)) 4 (nI 0)) 5 (nI 0)))) := ⟨_, rfl⟩
    replace hw : pW D (pA S s.heap.size) s.heap S130 H locs := by rw [hS130]; exact hw
    have hG131 : Grw S S130 := by rw [hS130]; exact Grw.up hG128 hk112
    have hA132 : Arr cy S130 q2 7 (upd (upd (upd (upd (upd (upd (fun _ => 0) 0 (nI 3)) 1 (nI 0)) 2 (nI 0)) 3 (nI 0)) 4 (nI 0)) 5 (nI 0)) := by rw [hS130]; exact hA129.up
    refine lv_dup hx hb dL_stage_34 rfl ?_
    refine lv_bipush (v := nI 6) hx hb dL_stage_35 (by decide) ?_
    refine lv_iconst (v := nI 0) hx hb dL_stage_37 (by decide) ?_
    refine p_ast C hw 0 rfl hA132.1 hA132.2 (by first | decide | omega) (by first | decide | omega) dL_stage_38 (fun H locs hw => ?_)
    obtain ⟨S133, hS133⟩ : ∃ z, z = pup S130 q2 (.inl (cy 0, 7, .inl (upd (upd (upd (upd (upd (upd (upd (fun _ => 0) 0 (nI 3)) 1 (nI 0)) 2 (nI 0)) 3 (nI 0)) 4 (nI 0)) 5 (nI 0)) 6 (nI 0)))) := ⟨_, rfl⟩
    replace hw : pW D (pA S s.heap.size) s.heap S133 H locs := by rw [hS133]; exact hw
    have hG134 : Grw S S133 := by rw [hS133]; exact Grw.up hG131 hk112
    have hA135 : Arr cy S133 q2 7 (upd (upd (upd (upd (upd (upd (upd (fun _ => 0) 0 (nI 3)) 1 (nI 0)) 2 (nI 0)) 3 (nI 0)) 4 (nI 0)) 5 (nI 0)) 6 (nI 0)) := by rw [hS133]; exact hA132.up
    refine lv_astore_n (lv' := [(2, .ref q2), (1, .int (nI 3)), (0, .int v)]) hx hb dL_stage_39 rfl hl (by decide) rfl (fun ls hl => ?_)
    refine lv_iload_n hx hb dL_stage_40 rfl (lv_at hl 1 rfl) ?_
    refine n_if_ne (tgt := 56) hx hb (by decide) dL_stage_41 (by decide) (fun h_41 => ?_) (fun h_41 => ?_)
    · skip
      refine lv_iload_n hx hb dL_stage_56 rfl (lv_at hl 1 rfl) ?_
      refine lv_iconst (v := nI 1) hx hb dL_stage_57 (by decide) ?_
      refine n_icmp_ne (tgt := 120) hx hb (by first | decide | omega) (by first | decide | omega) dL_stage_58 (by decide) (fun h_58 => ?_) (fun h_58 => ?_)
      · skip
        refine lv_iload_n hx hb dL_stage_120 rfl (lv_at hl 1 rfl) ?_
        refine lv_iconst (v := nI 2) hx hb dL_stage_121 (by decide) ?_
        refine n_icmp_ne (tgt := 151) hx hb (by first | decide | omega) (by first | decide | omega) dL_stage_122 (by decide) (fun h_122 => ?_) (fun h_122 => ?_)
        · skip
          refine lv_iload_n hx hb dL_stage_151 rfl (lv_at hl 1 rfl) ?_
          refine lv_iconst (v := nI 3) hx hb dL_stage_152 (by decide) ?_
          refine n_icmp_ne (tgt := 220) hx hb (by first | decide | omega) (by first | decide | omega) dL_stage_153 (by decide) (fun h_153 => ?_) (fun h_153 => ?_)
          · exact absurd h_153 (by first | decide | omega)
          · skip
            refine lv_aload_n hx hb dL_stage_156 rfl (lv_at hl 0 rfl) ?_
            refine lv_iconst (v := nI 1) hx hb dL_stage_157 (by decide) ?_
            refine lv_iconst (v := nI 1) hx hb dL_stage_158 (by decide) ?_
            refine lv_iload_n hx hb dL_stage_159 rfl (lv_at hl 2 rfl) ?_
            refine lv_iconst (v := nI 2) hx hb dL_stage_160 (by decide) ?_
            refine lv_ishr hx hb dL_stage_161 ?_
            refine lv_iconst (v := nI 3) hx hb dL_stage_162 (by decide) ?_
            refine p_calli (va_runS (As := [.int (v >>> ((nI 2) &&& 31)), .int (nI 3)]) (rest := [.int (nI 1), .int (nI 1), .ref q2]) C.fix (g_L_below l D cy S133 H.size (v >>> ((nI 2) &&& 31)) 3 (by first | decide | omega) (by first | decide | omega)) (va_cwS 2 C.2.2.2.2.1 (gU_S mw_82 mw_83 mw_79 (subU mw_84)) rfl rfl rfl hdg_L_stage_S_0 ⟨Nat.le_of_ble_eq_true rfl, Nat.le_of_ble_eq_true rfl⟩) (p_preS C hw) rfl rfl hl.1 rfl (lv_room (Nat.le_of_ble_eq_true rfl)) dL_stage_163 ⟨(Nat.le_of_ble_eq_true rfl), (Nat.le_of_ble_eq_true rfl)⟩) hw hA (fun r137 S136 H locs hpost hw => ?_)
            obtain ⟨t5, ht5, hr_, hS_⟩ := hpost
            subst hr_
            subst hS_
            refine n_iadd hx hb dL_stage_166 ?_
            obtain ⟨sa, esa⟩ : ∃ z, z = 1 + t5 := ⟨_, rfl⟩
            have h2a : 2 ^ sa ≤ 16 := two_pow_4 (by omega)
            have h2p : 2 ≤ 2 ^ sa := two_pow_ge1 (by omega)
            have h2s : 2 ^ (sa + 1) = 2 ^ sa * 2 := Nat.pow_succ 2 sa
            refine n_ren (b := sa) esa.symm ?_
            refine p_ast C hw 0 rfl hA135.1 hA135.2 (by first | decide | omega) (by first | decide | omega) dL_stage_167 (fun H locs hw => ?_)
            obtain ⟨S138, hS138⟩ : ∃ z, z = pup S133 q2 (.inl (cy 0, 7, .inl (upd (upd (upd (upd (upd (upd (upd (upd (fun _ => 0) 0 (nI 3)) 1 (nI 0)) 2 (nI 0)) 3 (nI 0)) 4 (nI 0)) 5 (nI 0)) 6 (nI 0)) 1 (nI sa)))) := ⟨_, rfl⟩
            replace hw : pW D (pA S s.heap.size) s.heap S138 H locs := by rw [hS138]; exact hw
            have hG139 : Grw S S138 := by rw [hS138]; exact Grw.up hG134 hk112
            have hA140 : Arr cy S138 q2 7 (upd (upd (upd (upd (upd (upd (upd (upd (fun _ => 0) 0 (nI 3)) 1 (nI 0)) 2 (nI 0)) 3 (nI 0)) 4 (nI 0)) 5 (nI 0)) 6 (nI 0)) 1 (nI sa)) := by rw [hS138]; exact hA135.up
            refine lv_iconst (v := nI 2) hx hb dL_stage_168 (by decide) ?_
            refine lv_aload_n hx hb dL_stage_169 rfl (lv_at hl 0 rfl) ?_
            refine lv_iconst (v := nI 1) hx hb dL_stage_170 (by decide) ?_
            refine p_ald C hw 0 rfl hA140.1 hA140.2 (by first | decide | omega) (by first | decide | omega) dL_stage_171 ?_
            refine x_ren (b := nI sa) rfl ?_
            refine n_ishl hx hb (by omega) (by omega) dL_stage_172 ?_
            refine lv_iconst (v := nI 1) hx hb dL_stage_173 (by decide) ?_
            refine n_isub hx hb (by omega) dL_stage_174 ?_
            refine n_ren (b := 2 ^ (sa + 1) - 1) (by omega) ?_
            refine lv_istore_n (lv' := [(3, .int (nI (2 ^ (sa + 1) - 1))), (2, .ref q2), (1, .int (nI 3)), (0, .int v)]) hx hb dL_stage_175 rfl hl (by decide) rfl (fun ls hl => ?_)
            refine lv_aload_n hx hb dL_stage_176 rfl (lv_at hl 1 rfl) ?_
            refine lv_iconst (v := nI 3) hx hb dL_stage_177 (by decide) ?_
            refine lv_iconst (v := nI 1) hx hb dL_stage_178 (by decide) ?_
            refine lv_iload_n hx hb dL_stage_179 rfl (lv_at hl 3 rfl) ?_
            refine lv_iconst (v := nI 3) hx hb dL_stage_180 (by decide) ?_
            refine lv_ishr hx hb dL_stage_181 ?_
            refine lv_iload_n hx hb dL_stage_182 rfl (lv_at hl 0 rfl) ?_
            refine p_calli (va_runS (As := [.int (v >>> ((nI 3) &&& 31)), .int (nI (2 ^ (sa + 1) - 1))]) (rest := [.int (nI 1), .int (nI 3), .ref q2]) C.fix (g_L_below l D cy S138 H.size (v >>> ((nI 3) &&& 31)) (2 ^ (sa + 1) - 1) (by omega) (by omega)) (va_cwS 2 C.2.2.2.2.1 (gU_S mw_82 mw_83 mw_79 (subU mw_84)) rfl rfl rfl hdg_L_stage_S_0 ⟨Nat.le_of_ble_eq_true rfl, Nat.le_of_ble_eq_true rfl⟩) (p_preS C hw) rfl rfl hl.1 rfl (lv_room (Nat.le_of_ble_eq_true rfl)) dL_stage_183 ⟨(Nat.le_of_ble_eq_true rfl), (Nat.le_of_ble_eq_true rfl)⟩) hw hA (fun r142 S141 H locs hpost hw => ?_)
            obtain ⟨t6, ht6, hr_, hS_⟩ := hpost
            subst hr_
            subst hS_
            refine n_iadd hx hb dL_stage_186 ?_
            obtain ⟨s3, es3⟩ : ∃ z, z = 1 + t6 := ⟨_, rfl⟩
            refine n_ren (b := s3) es3.symm ?_
            refine p_ast C hw 0 rfl hA140.1 hA140.2 (by first | decide | omega) (by first | decide | omega) dL_stage_187 (fun H locs hw => ?_)
            obtain ⟨S143, hS143⟩ : ∃ z, z = pup S138 q2 (.inl (cy 0, 7, .inl (upd (upd (upd (upd (upd (upd (upd (upd (upd (fun _ => 0) 0 (nI 3)) 1 (nI 0)) 2 (nI 0)) 3 (nI 0)) 4 (nI 0)) 5 (nI 0)) 6 (nI 0)) 1 (nI sa)) 3 (nI s3)))) := ⟨_, rfl⟩
            replace hw : pW D (pA S s.heap.size) s.heap S143 H locs := by rw [hS143]; exact hw
            have hG144 : Grw S S143 := by rw [hS143]; exact Grw.up hG139 hk112
            have hA145 : Arr cy S143 q2 7 (upd (upd (upd (upd (upd (upd (upd (upd (upd (fun _ => 0) 0 (nI 3)) 1 (nI 0)) 2 (nI 0)) 3 (nI 0)) 4 (nI 0)) 5 (nI 0)) 6 (nI 0)) 1 (nI sa)) 3 (nI s3)) := by rw [hS143]; exact hA140.up
            refine lv_aload_n hx hb dL_stage_188 rfl (lv_at hl 1 rfl) ?_
            refine lv_iconst (v := nI 4) hx hb dL_stage_189 (by decide) ?_
            refine lv_iconst (v := nI 1) hx hb dL_stage_190 (by decide) ?_
            refine lv_iload_n hx hb dL_stage_191 rfl (lv_at hl 3 rfl) ?_
            refine lv_iconst (v := nI 5) hx hb dL_stage_192 (by decide) ?_
            refine lv_ishr hx hb dL_stage_193 ?_
            refine lv_iload_n hx hb dL_stage_194 rfl (lv_at hl 0 rfl) ?_
            refine p_calli (va_runS (As := [.int (v >>> ((nI 5) &&& 31)), .int (nI (2 ^ (sa + 1) - 1))]) (rest := [.int (nI 1), .int (nI 4), .ref q2]) C.fix (g_L_below l D cy S143 H.size (v >>> ((nI 5) &&& 31)) (2 ^ (sa + 1) - 1) (by omega) (by omega)) (va_cwS 2 C.2.2.2.2.1 (gU_S mw_82 mw_83 mw_79 (subU mw_84)) rfl rfl rfl hdg_L_stage_S_0 ⟨Nat.le_of_ble_eq_true rfl, Nat.le_of_ble_eq_true rfl⟩) (p_preS C hw) rfl rfl hl.1 rfl (lv_room (Nat.le_of_ble_eq_true rfl)) dL_stage_195 ⟨(Nat.le_of_ble_eq_true rfl), (Nat.le_of_ble_eq_true rfl)⟩) hw hA (fun r147 S146 H locs hpost hw => ?_)
            obtain ⟨t7, ht7, hr_, hS_⟩ := hpost
            subst hr_
            subst hS_
            refine n_iadd hx hb dL_stage_198 ?_
            obtain ⟨s4, es4⟩ : ∃ z, z = 1 + t7 := ⟨_, rfl⟩
            refine n_ren (b := s4) es4.symm ?_
            refine p_ast C hw 0 rfl hA145.1 hA145.2 (by first | decide | omega) (by first | decide | omega) dL_stage_199 (fun H locs hw => ?_)
            obtain ⟨S148, hS148⟩ : ∃ z, z = pup S143 q2 (.inl (cy 0, 7, .inl (upd (upd (upd (upd (upd (upd (upd (upd (upd (upd (fun _ => 0) 0 (nI 3)) 1 (nI 0)) 2 (nI 0)) 3 (nI 0)) 4 (nI 0)) 5 (nI 0)) 6 (nI 0)) 1 (nI sa)) 3 (nI s3)) 4 (nI s4)))) := ⟨_, rfl⟩
            replace hw : pW D (pA S s.heap.size) s.heap S148 H locs := by rw [hS148]; exact hw
            have hG149 : Grw S S148 := by rw [hS148]; exact Grw.up hG144 hk112
            have hA150 : Arr cy S148 q2 7 (upd (upd (upd (upd (upd (upd (upd (upd (upd (upd (fun _ => 0) 0 (nI 3)) 1 (nI 0)) 2 (nI 0)) 3 (nI 0)) 4 (nI 0)) 5 (nI 0)) 6 (nI 0)) 1 (nI sa)) 3 (nI s3)) 4 (nI s4)) := by rw [hS148]; exact hA145.up
            refine lv_aload_n hx hb dL_stage_200 rfl (lv_at hl 1 rfl) ?_
            refine lv_iconst (v := nI 5) hx hb dL_stage_201 (by decide) ?_
            refine lv_iload_n hx hb dL_stage_202 rfl (lv_at hl 3 rfl) ?_
            refine lv_iconst (v := nI 4) hx hb dL_stage_203 (by decide) ?_
            refine lv_ishr hx hb dL_stage_204 ?_
            refine lv_iload_n hx hb dL_stage_205 rfl (lv_at hl 0 rfl) ?_
            refine lv_iconst (v := nI 1) hx hb dL_stage_206 (by decide) ?_
            refine n_iadd hx hb dL_stage_207 ?_
            refine n_ren (b := 2 ^ (sa + 1)) (by omega) ?_
            refine p_calli (va_runS (As := [.int (v >>> ((nI 4) &&& 31)), .int (nI (2 ^ (sa + 1)))]) (rest := [.int (nI 5), .ref q2]) C.fix (g_L_below l D cy S148 H.size (v >>> ((nI 4) &&& 31)) (2 ^ (sa + 1)) (by omega) (by omega)) (va_cwS 2 C.2.2.2.2.1 (gU_S mw_82 mw_83 mw_79 (subU mw_84)) rfl rfl rfl hdg_L_stage_S_0 ⟨Nat.le_of_ble_eq_true rfl, Nat.le_of_ble_eq_true rfl⟩) (p_preS C hw) rfl rfl hl.1 rfl (lv_room (Nat.le_of_ble_eq_true rfl)) dL_stage_208 ⟨(Nat.le_of_ble_eq_true rfl), (Nat.le_of_ble_eq_true rfl)⟩) hw hA (fun r152 S151 H locs hpost hw => ?_)
            obtain ⟨t8, ht8, hr_, hS_⟩ := hpost
            subst hr_
            subst hS_
            refine lv_iload_n hx hb dL_stage_211 rfl (lv_at hl 3 rfl) ?_
            refine lv_iconst (v := nI 1) hx hb dL_stage_212 (by decide) ?_
            refine lv_ishr hx hb dL_stage_213 ?_
            refine lv_iconst (v := nI 2) hx hb dL_stage_214 (by decide) ?_
            refine p_calli (va_runS (As := [.int (v >>> ((nI 1) &&& 31)), .int (nI 2)]) (rest := [.int (nI t8), .int (nI 5), .ref q2]) C.fix (g_L_below l D cy S148 H.size (v >>> ((nI 1) &&& 31)) 2 (by first | decide | omega) (by first | decide | omega)) (va_cwS 2 C.2.2.2.2.1 (gU_S mw_82 mw_83 mw_79 (subU mw_84)) rfl rfl rfl hdg_L_stage_S_0 ⟨Nat.le_of_ble_eq_true rfl, Nat.le_of_ble_eq_true rfl⟩) (p_preS C hw) rfl rfl hl.1 rfl (lv_room (Nat.le_of_ble_eq_true rfl)) dL_stage_215 ⟨(Nat.le_of_ble_eq_true rfl), (Nat.le_of_ble_eq_true rfl)⟩) hw hA (fun r154 S153 H locs hpost hw => ?_)
            obtain ⟨t9, ht9, hr_, hS_⟩ := hpost
            subst hr_
            subst hS_
            refine n_imul hx hb dL_stage_218 ?_
            obtain ⟨s5, es5⟩ : ∃ z, z = t8 * t9 := ⟨_, rfl⟩
            have hs5 : s5 < 2 ^ (sa + 1) := by rw [es5]; exact mul01 ht8 ht9
            refine n_ren (b := s5) es5.symm ?_
            refine p_ast C hw 0 rfl hA150.1 hA150.2 (by first | decide | omega) (by first | decide | omega) dL_stage_219 (fun H locs hw => ?_)
            obtain ⟨S155, hS155⟩ : ∃ z, z = pup S148 q2 (.inl (cy 0, 7, .inl (upd (upd (upd (upd (upd (upd (upd (upd (upd (upd (upd (fun _ => 0) 0 (nI 3)) 1 (nI 0)) 2 (nI 0)) 3 (nI 0)) 4 (nI 0)) 5 (nI 0)) 6 (nI 0)) 1 (nI sa)) 3 (nI s3)) 4 (nI s4)) 5 (nI s5)))) := ⟨_, rfl⟩
            replace hw : pW D (pA S s.heap.size) s.heap S155 H locs := by rw [hS155]; exact hw
            have hG156 : Grw S S155 := by rw [hS155]; exact Grw.up hG149 hk112
            have hA157 : Arr cy S155 q2 7 (upd (upd (upd (upd (upd (upd (upd (upd (upd (upd (upd (fun _ => 0) 0 (nI 3)) 1 (nI 0)) 2 (nI 0)) 3 (nI 0)) 4 (nI 0)) 5 (nI 0)) 6 (nI 0)) 1 (nI sa)) 3 (nI s3)) 4 (nI s4)) 5 (nI s5)) := by rw [hS155]; exact hA150.up
            refine lv_iload_n hx hb dL_stage_220 rfl (lv_at hl 2 rfl) ?_
            refine lv_iconst (v := nI 4) hx hb dL_stage_221 (by decide) ?_
            refine n_icmp_ne (tgt := 249) hx hb (by first | decide | omega) (by first | decide | omega) dL_stage_222 (by decide) (fun h_222 => ?_) (fun h_222 => ?_)
            · skip
              refine lv_aload_n hx hb dL_stage_249 rfl (lv_at hl 1 rfl) ?_
              exact (p_qret C hw (v := some q2) ⟨_, _, 3, sa, 0, s3, s4, s5, 0, rfl, hk112, hG156, hA157, ⟨rfl, rfl, rfl, rfl, rfl, rfl, rfl⟩, Or.inr (Or.inr (Or.inr (Or.inl ⟨rfl, by omega, by omega, by omega, by omega, by omega, by omega, hs5⟩)))⟩ hr (by first | exact Or.inl ⟨_, rfl⟩ | exact Or.inr ⟨_, rfl⟩) hlocks dL_stage_250)
            · exact absurd h_222 (by first | decide | omega)
        · exact absurd h_122 (by first | decide | omega)
      · exact absurd h_58 (by first | decide | omega)
    · exact absurd h_41 (by first | decide | omega)
  · skip
    refine lv_istore_n (lv' := [(1, .int (nI 4)), (0, .int v)]) hx hb dL_stage_5 rfl hl (by decide) rfl (fun ls hl => ?_)
    refine lv_bipush (v := nI 7) hx hb dL_stage_6 (by decide) ?_
    refine p_newa C hw hA (mU mw_3) 0 rfl (n := 7) (by first | decide | omega) (Nat.le_of_ble_eq_true rfl) (Nat.le_of_ble_eq_true rfl) dL_stage_8 (fun q2 H hq_q2 hw => ?_)
    obtain ⟨S158, hS158⟩ : ∃ z, z = pnew S q2 (.inl (cy 0, 7, .inl (fun _ => 0))) := ⟨_, rfl⟩
    replace hw : pW D (pA S s.heap.size) s.heap S158 H locs := by rw [hS158]; exact hw
    have hk159 : q2 ∉ S.1 := hq_q2
    have hs160 : Grw S S158 := by rw [hS158]; exact Grw.new hq_q2
    have hA161 : Arr cy S158 q2 7 (fun _ => 0) := by rw [hS158]; exact Arr.new
    refine lv_dup hx hb dL_stage_10 rfl ?_
    refine lv_iconst (v := nI 0) hx hb dL_stage_11 (by decide) ?_
    refine lv_iload_n hx hb dL_stage_12 rfl (lv_at hl 0 rfl) ?_
    refine p_ast C hw 0 rfl hA161.1 hA161.2 (by first | decide | omega) (by first | decide | omega) dL_stage_13 (fun H locs hw => ?_)
    obtain ⟨S162, hS162⟩ : ∃ z, z = pup S158 q2 (.inl (cy 0, 7, .inl (upd (fun _ => 0) 0 (nI 4)))) := ⟨_, rfl⟩
    replace hw : pW D (pA S s.heap.size) s.heap S162 H locs := by rw [hS162]; exact hw
    have hG163 : Grw S S162 := by rw [hS162]; exact Grw.up hs160 hk159
    have hA164 : Arr cy S162 q2 7 (upd (fun _ => 0) 0 (nI 4)) := by rw [hS162]; exact hA161.up
    refine lv_dup hx hb dL_stage_14 rfl ?_
    refine lv_iconst (v := nI 1) hx hb dL_stage_15 (by decide) ?_
    refine lv_iconst (v := nI 0) hx hb dL_stage_16 (by decide) ?_
    refine p_ast C hw 0 rfl hA164.1 hA164.2 (by first | decide | omega) (by first | decide | omega) dL_stage_17 (fun H locs hw => ?_)
    obtain ⟨S165, hS165⟩ : ∃ z, z = pup S162 q2 (.inl (cy 0, 7, .inl (upd (upd (fun _ => 0) 0 (nI 4)) 1 (nI 0)))) := ⟨_, rfl⟩
    replace hw : pW D (pA S s.heap.size) s.heap S165 H locs := by rw [hS165]; exact hw
    have hG166 : Grw S S165 := by rw [hS165]; exact Grw.up hG163 hk159
    have hA167 : Arr cy S165 q2 7 (upd (upd (fun _ => 0) 0 (nI 4)) 1 (nI 0)) := by rw [hS165]; exact hA164.up
    refine lv_dup hx hb dL_stage_18 rfl ?_
    refine lv_iconst (v := nI 2) hx hb dL_stage_19 (by decide) ?_
    refine lv_iconst (v := nI 0) hx hb dL_stage_20 (by decide) ?_
    refine p_ast C hw 0 rfl hA167.1 hA167.2 (by first | decide | omega) (by first | decide | omega) dL_stage_21 (fun H locs hw => ?_)
    obtain ⟨S168, hS168⟩ : ∃ z, z = pup S165 q2 (.inl (cy 0, 7, .inl (upd (upd (upd (fun _ => 0) 0 (nI 4)) 1 (nI 0)) 2 (nI 0)))) := ⟨_, rfl⟩
    replace hw : pW D (pA S s.heap.size) s.heap S168 H locs := by rw [hS168]; exact hw
    have hG169 : Grw S S168 := by rw [hS168]; exact Grw.up hG166 hk159
    have hA170 : Arr cy S168 q2 7 (upd (upd (upd (fun _ => 0) 0 (nI 4)) 1 (nI 0)) 2 (nI 0)) := by rw [hS168]; exact hA167.up
    refine lv_dup hx hb dL_stage_22 rfl ?_
    refine lv_iconst (v := nI 3) hx hb dL_stage_23 (by decide) ?_
    refine lv_iconst (v := nI 0) hx hb dL_stage_24 (by decide) ?_
    refine p_ast C hw 0 rfl hA170.1 hA170.2 (by first | decide | omega) (by first | decide | omega) dL_stage_25 (fun H locs hw => ?_)
    obtain ⟨S171, hS171⟩ : ∃ z, z = pup S168 q2 (.inl (cy 0, 7, .inl (upd (upd (upd (upd (fun _ => 0) 0 (nI 4)) 1 (nI 0)) 2 (nI 0)) 3 (nI 0)))) := ⟨_, rfl⟩
    replace hw : pW D (pA S s.heap.size) s.heap S171 H locs := by rw [hS171]; exact hw
    have hG172 : Grw S S171 := by rw [hS171]; exact Grw.up hG169 hk159
    have hA173 : Arr cy S171 q2 7 (upd (upd (upd (upd (fun _ => 0) 0 (nI 4)) 1 (nI 0)) 2 (nI 0)) 3 (nI 0)) := by rw [hS171]; exact hA170.up
    refine lv_dup hx hb dL_stage_26 rfl ?_
    refine lv_iconst (v := nI 4) hx hb dL_stage_27 (by decide) ?_
    refine lv_iconst (v := nI 0) hx hb dL_stage_28 (by decide) ?_
    refine p_ast C hw 0 rfl hA173.1 hA173.2 (by first | decide | omega) (by first | decide | omega) dL_stage_29 (fun H locs hw => ?_)
    obtain ⟨S174, hS174⟩ : ∃ z, z = pup S171 q2 (.inl (cy 0, 7, .inl (upd (upd (upd (upd (upd (fun _ => 0) 0 (nI 4)) 1 (nI 0)) 2 (nI 0)) 3 (nI 0)) 4 (nI 0)))) := ⟨_, rfl⟩
    replace hw : pW D (pA S s.heap.size) s.heap S174 H locs := by rw [hS174]; exact hw
    have hG175 : Grw S S174 := by rw [hS174]; exact Grw.up hG172 hk159
    have hA176 : Arr cy S174 q2 7 (upd (upd (upd (upd (upd (fun _ => 0) 0 (nI 4)) 1 (nI 0)) 2 (nI 0)) 3 (nI 0)) 4 (nI 0)) := by rw [hS174]; exact hA173.up
    refine lv_dup hx hb dL_stage_30 rfl ?_
    refine lv_iconst (v := nI 5) hx hb dL_stage_31 (by decide) ?_
    refine lv_iconst (v := nI 0) hx hb dL_stage_32 (by decide) ?_
    refine p_ast C hw 0 rfl hA176.1 hA176.2 (by first | decide | omega) (by first | decide | omega) dL_stage_33 (fun H locs hw => ?_)
    obtain ⟨S177, hS177⟩ : ∃ z, z = pup S174 q2 (.inl (cy 0, 7, .inl (upd (upd (upd (upd (upd (upd (fun _ => 0) 0 (nI 4)) 1 (nI 0)) 2 (nI 0)) 3 (nI 0)) 4 (nI 0)) 5 (nI 0)))) := ⟨_, rfl⟩
    replace hw : pW D (pA S s.heap.size) s.heap S177 H locs := by rw [hS177]; exact hw
    have hG178 : Grw S S177 := by rw [hS177]; exact Grw.up hG175 hk159
    have hA179 : Arr cy S177 q2 7 (upd (upd (upd (upd (upd (upd (fun _ => 0) 0 (nI 4)) 1 (nI 0)) 2 (nI 0)) 3 (nI 0)) 4 (nI 0)) 5 (nI 0)) := by rw [hS177]; exact hA176.up
    refine lv_dup hx hb dL_stage_34 rfl ?_
    refine lv_bipush (v := nI 6) hx hb dL_stage_35 (by decide) ?_
    refine lv_iconst (v := nI 0) hx hb dL_stage_37 (by decide) ?_
    refine p_ast C hw 0 rfl hA179.1 hA179.2 (by first | decide | omega) (by first | decide | omega) dL_stage_38 (fun H locs hw => ?_)
    obtain ⟨S180, hS180⟩ : ∃ z, z = pup S177 q2 (.inl (cy 0, 7, .inl (upd (upd (upd (upd (upd (upd (upd (fun _ => 0) 0 (nI 4)) 1 (nI 0)) 2 (nI 0)) 3 (nI 0)) 4 (nI 0)) 5 (nI 0)) 6 (nI 0)))) := ⟨_, rfl⟩
    replace hw : pW D (pA S s.heap.size) s.heap S180 H locs := by rw [hS180]; exact hw
    have hG181 : Grw S S180 := by rw [hS180]; exact Grw.up hG178 hk159
    have hA182 : Arr cy S180 q2 7 (upd (upd (upd (upd (upd (upd (upd (fun _ => 0) 0 (nI 4)) 1 (nI 0)) 2 (nI 0)) 3 (nI 0)) 4 (nI 0)) 5 (nI 0)) 6 (nI 0)) := by rw [hS180]; exact hA179.up
    refine lv_astore_n (lv' := [(2, .ref q2), (1, .int (nI 4)), (0, .int v)]) hx hb dL_stage_39 rfl hl (by decide) rfl (fun ls hl => ?_)
    refine lv_iload_n hx hb dL_stage_40 rfl (lv_at hl 1 rfl) ?_
    refine n_if_ne (tgt := 56) hx hb (by decide) dL_stage_41 (by decide) (fun h_41 => ?_) (fun h_41 => ?_)
    · skip
      refine lv_iload_n hx hb dL_stage_56 rfl (lv_at hl 1 rfl) ?_
      refine lv_iconst (v := nI 1) hx hb dL_stage_57 (by decide) ?_
      refine n_icmp_ne (tgt := 120) hx hb (by first | decide | omega) (by first | decide | omega) dL_stage_58 (by decide) (fun h_58 => ?_) (fun h_58 => ?_)
      · skip
        refine lv_iload_n hx hb dL_stage_120 rfl (lv_at hl 1 rfl) ?_
        refine lv_iconst (v := nI 2) hx hb dL_stage_121 (by decide) ?_
        refine n_icmp_ne (tgt := 151) hx hb (by first | decide | omega) (by first | decide | omega) dL_stage_122 (by decide) (fun h_122 => ?_) (fun h_122 => ?_)
        · skip
          refine lv_iload_n hx hb dL_stage_151 rfl (lv_at hl 1 rfl) ?_
          refine lv_iconst (v := nI 3) hx hb dL_stage_152 (by decide) ?_
          refine n_icmp_ne (tgt := 220) hx hb (by first | decide | omega) (by first | decide | omega) dL_stage_153 (by decide) (fun h_153 => ?_) (fun h_153 => ?_)
          · skip
            refine lv_iload_n hx hb dL_stage_220 rfl (lv_at hl 1 rfl) ?_
            refine lv_iconst (v := nI 4) hx hb dL_stage_221 (by decide) ?_
            refine n_icmp_ne (tgt := 249) hx hb (by first | decide | omega) (by first | decide | omega) dL_stage_222 (by decide) (fun h_222 => ?_) (fun h_222 => ?_)
            · exact absurd h_222 (by first | decide | omega)
            · skip
              refine lv_aload_n hx hb dL_stage_225 rfl (lv_at hl 0 rfl) ?_
              refine lv_iconst (v := nI 1) hx hb dL_stage_226 (by decide) ?_
              refine lv_iconst (v := nI 1) hx hb dL_stage_227 (by decide) ?_
              refine lv_iload_n hx hb dL_stage_228 rfl (lv_at hl 2 rfl) ?_
              refine lv_iconst (v := nI 2) hx hb dL_stage_229 (by decide) ?_
              refine lv_ishr hx hb dL_stage_230 ?_
              refine lv_iconst (v := nI 4) hx hb dL_stage_231 (by decide) ?_
              refine p_calli (va_runS (As := [.int (v >>> ((nI 2) &&& 31)), .int (nI 4)]) (rest := [.int (nI 1), .int (nI 1), .ref q2]) C.fix (g_L_below l D cy S180 H.size (v >>> ((nI 2) &&& 31)) 4 (by first | decide | omega) (by first | decide | omega)) (va_cwS 2 C.2.2.2.2.1 (gU_S mw_82 mw_83 mw_79 (subU mw_84)) rfl rfl rfl hdg_L_stage_S_0 ⟨Nat.le_of_ble_eq_true rfl, Nat.le_of_ble_eq_true rfl⟩) (p_preS C hw) rfl rfl hl.1 rfl (lv_room (Nat.le_of_ble_eq_true rfl)) dL_stage_232 ⟨(Nat.le_of_ble_eq_true rfl), (Nat.le_of_ble_eq_true rfl)⟩) hw hA (fun r184 S183 H locs hpost hw => ?_)
              obtain ⟨ta, hta, hr_, hS_⟩ := hpost
              subst hr_
              subst hS_
              refine n_iadd hx hb dL_stage_235 ?_
              obtain ⟨sa, esa⟩ : ∃ z, z = 1 + ta := ⟨_, rfl⟩
              refine n_ren (b := sa) esa.symm ?_
              refine p_ast C hw 0 rfl hA182.1 hA182.2 (by first | decide | omega) (by first | decide | omega) dL_stage_236 (fun H locs hw => ?_)
              obtain ⟨S185, hS185⟩ : ∃ z, z = pup S180 q2 (.inl (cy 0, 7, .inl (upd (upd (upd (upd (upd (upd (upd (upd (fun _ => 0) 0 (nI 4)) 1 (nI 0)) 2 (nI 0)) 3 (nI 0)) 4 (nI 0)) 5 (nI 0)) 6 (nI 0)) 1 (nI sa)))) := ⟨_, rfl⟩
              replace hw : pW D (pA S s.heap.size) s.heap S185 H locs := by rw [hS185]; exact hw
              have hG186 : Grw S S185 := by rw [hS185]; exact Grw.up hG181 hk159
              have hA187 : Arr cy S185 q2 7 (upd (upd (upd (upd (upd (upd (upd (upd (fun _ => 0) 0 (nI 4)) 1 (nI 0)) 2 (nI 0)) 3 (nI 0)) 4 (nI 0)) 5 (nI 0)) 6 (nI 0)) 1 (nI sa)) := by rw [hS185]; exact hA182.up
              refine lv_aload_n hx hb dL_stage_237 rfl (lv_at hl 0 rfl) ?_
              refine lv_iconst (v := nI 2) hx hb dL_stage_238 (by decide) ?_
              refine lv_iconst (v := nI 1) hx hb dL_stage_239 (by decide) ?_
              refine lv_iload_n hx hb dL_stage_240 rfl (lv_at hl 2 rfl) ?_
              refine lv_iconst (v := nI 3) hx hb dL_stage_241 (by decide) ?_
              refine lv_ishr hx hb dL_stage_242 ?_
              refine lv_iconst (v := nI 4) hx hb dL_stage_243 (by decide) ?_
              refine p_calli (va_runS (As := [.int (v >>> ((nI 3) &&& 31)), .int (nI 4)]) (rest := [.int (nI 1), .int (nI 2), .ref q2]) C.fix (g_L_below l D cy S185 H.size (v >>> ((nI 3) &&& 31)) 4 (by first | decide | omega) (by first | decide | omega)) (va_cwS 2 C.2.2.2.2.1 (gU_S mw_82 mw_83 mw_79 (subU mw_84)) rfl rfl rfl hdg_L_stage_S_0 ⟨Nat.le_of_ble_eq_true rfl, Nat.le_of_ble_eq_true rfl⟩) (p_preS C hw) rfl rfl hl.1 rfl (lv_room (Nat.le_of_ble_eq_true rfl)) dL_stage_244 ⟨(Nat.le_of_ble_eq_true rfl), (Nat.le_of_ble_eq_true rfl)⟩) hw hA (fun r189 S188 H locs hpost hw => ?_)
              obtain ⟨tb, htb, hr_, hS_⟩ := hpost
              subst hr_
              subst hS_
              refine n_iadd hx hb dL_stage_247 ?_
              obtain ⟨sb, esb⟩ : ∃ z, z = 1 + tb := ⟨_, rfl⟩
              refine n_ren (b := sb) esb.symm ?_
              refine p_ast C hw 0 rfl hA187.1 hA187.2 (by first | decide | omega) (by first | decide | omega) dL_stage_248 (fun H locs hw => ?_)
              obtain ⟨S190, hS190⟩ : ∃ z, z = pup S185 q2 (.inl (cy 0, 7, .inl (upd (upd (upd (upd (upd (upd (upd (upd (upd (fun _ => 0) 0 (nI 4)) 1 (nI 0)) 2 (nI 0)) 3 (nI 0)) 4 (nI 0)) 5 (nI 0)) 6 (nI 0)) 1 (nI sa)) 2 (nI sb)))) := ⟨_, rfl⟩
              replace hw : pW D (pA S s.heap.size) s.heap S190 H locs := by rw [hS190]; exact hw
              have hG191 : Grw S S190 := by rw [hS190]; exact Grw.up hG186 hk159
              have hA192 : Arr cy S190 q2 7 (upd (upd (upd (upd (upd (upd (upd (upd (upd (fun _ => 0) 0 (nI 4)) 1 (nI 0)) 2 (nI 0)) 3 (nI 0)) 4 (nI 0)) 5 (nI 0)) 6 (nI 0)) 1 (nI sa)) 2 (nI sb)) := by rw [hS190]; exact hA187.up
              refine lv_aload_n hx hb dL_stage_249 rfl (lv_at hl 0 rfl) ?_
              exact (p_qret C hw (v := some q2) ⟨_, _, 4, sa, sb, 0, 0, 0, 0, rfl, hk159, hG191, hA192, ⟨rfl, rfl, rfl, rfl, rfl, rfl, rfl⟩, Or.inr (Or.inr (Or.inr (Or.inr ⟨rfl, by omega, by omega, by omega, by omega⟩)))⟩ hr (by first | exact Or.inl ⟨_, rfl⟩ | exact Or.inr ⟨_, rfl⟩) hlocks dL_stage_250)
          · exact absurd h_153 (by first | decide | omega)
        · exact absurd h_122 (by first | decide | omega)
      · exact absurd h_58 (by first | decide | omega)
    · exact absurd h_41 (by first | decide | omega)
