theorem hdg_X11_write_S_0 : yX11_fits.cls ≠ "java/lang/invoke/MethodHandle" ∧ yX11_fits.cls ≠ "java/lang/invoke/VarHandle" ∧ (parseMethodDescriptor yX11_fits.desc).map (fun d => d.parameters.length) = some 2 := by decide +kernel
theorem hdg_X11_write_V_1 : yX4_at.cls = RX4 ∧ yX4_at.cls ≠ "java/lang/invoke/MethodHandle" ∧ yX4_at.cls ≠ "java/lang/invoke/VarHandle" ∧ (parseMethodDescriptor yX4_at.desc).map (fun d => d.parameters.length) = some 1 := by decide +kernel
theorem hdg_X11_write_V_2 : yX7_size.cls = RX7 ∧ yX7_size.cls ≠ "java/lang/invoke/MethodHandle" ∧ yX7_size.cls ≠ "java/lang/invoke/VarHandle" ∧ (parseMethodDescriptor yX7_size.desc).map (fun d => d.parameters.length) = some 0 := by decide +kernel
theorem hdg_X11_write_V_3 : yX1_sizeAtEnd.cls = RX1 ∧ yX1_sizeAtEnd.cls ≠ "java/lang/invoke/MethodHandle" ∧ yX1_sizeAtEnd.cls ≠ "java/lang/invoke/VarHandle" ∧ (parseMethodDescriptor yX1_sizeAtEnd.desc).map (fun d => d.parameters.length) = some 1 := by decide +kernel
theorem hdg_X11_write_V_4 : yX7_resize.cls = RX7 ∧ yX7_resize.cls ≠ "java/lang/invoke/MethodHandle" ∧ yX7_resize.cls ≠ "java/lang/invoke/VarHandle" ∧ (parseMethodDescriptor yX7_resize.desc).map (fun d => d.parameters.length) = some 1 := by decide +kernel
theorem hdg_X11_write_V_5 : yX7_putNumber.cls = RX7 ∧ yX7_putNumber.cls ≠ "java/lang/invoke/MethodHandle" ∧ yX7_putNumber.cls ≠ "java/lang/invoke/VarHandle" ∧ (parseMethodDescriptor yX7_putNumber.desc).map (fun d => d.parameters.length) = some 3 := by decide +kernel
theorem hdg_X11_write_V_6 : yX11_settle.cls = RX11 ∧ yX11_settle.cls ≠ "java/lang/invoke/MethodHandle" ∧ yX11_settle.cls ≠ "java/lang/invoke/VarHandle" ∧ (parseMethodDescriptor yX11_settle.desc).map (fun d => d.parameters.length) = some 0 := by decide +kernel
set_option maxHeartbeats 4000000 in
set_option maxRecDepth 100000 in
theorem g_X11_write (l : Launch) (D : va_G) (cy : Nat → ClassId) (S : pS) (sz : Nat) {G T : Nat → Nat} {ws : Nat → WV} {l2 : va_E} {V : RV} {k0 a0 b0 c0 : Nat} (hP : Pic cy S G T 0 ws (.inr (5, [.int (nI k0), .int (nI a0), .int (nI b0), .int (nI c0)])) l2 V) (hk : k0 ≤ 3) (hla : a0 < 2 ^ 30) (hlb : b0 < 2 ^ 30) (hlc : c0 < 2 ^ 30) (v mm : Nat) (hm1 : 1 ≤ mm) (hm16 : mm ≤ 16) (hvv : v < 2 ^ mm) (h32 : V.1 0 + mm ≤ 32) : Met l yX11_write (Cond.code yX11_write cX11_write 6 (some .int) :: lwU) ({ frames := 6, cells := 0, slots := 0, locals := 144 }) (pPc D cy S sz [.ref (G 0), .int (nI v), .int (nI mm)]) (pQi D cy S sz (fun r S' => ∃ V', r = nI (V.1 0 + mm) ∧ Pic cy S' G T 0 ws (.inr (5, [.int (nI k0), .int (nI a0), .int (nI b0), .int (nI c0)])) l2 V' ∧ Frm G S S' ∧ Stl 0 ws k0 a0 b0 c0 V' ∧ V'.1 0 = V.1 0 + mm ∧ V'.2 0 = rnum (V.2 0) (V.1 0 + mm) (V.1 0) v mm mm ∧ V'.2 15 = V.2 15)) 0 0 (pA S sz) := by
  refine Met.ofW (cc := cX11_write) (maxL := 6) (ret := (some .int)) (by decide) rfl ?_
  intro p e s m args below meth c s₁ B hml hv
  obtain ⟨rfl, rfl, C, hw, hA, hr, hlocks⟩ := p_start B hml hv
  have hx := C.1
  have hb := C.2.1
  have hl := lv_entry ([.ref (G 0), .int (nI v), .int (nI mm)]) (n := 6) (Nat.le_of_ble_eq_true rfl)
  rw [lg_entry_eq]
  generalize (lg_sl ([.ref (G 0), .int (nI v), .int (nI mm)]) ++ List.replicate (6 - (lg_sl ([.ref (G 0), .int (nI v), .int (nI mm)])).length) Slot.unset).toArray = ls at hl ⊢
  have hl : lv_has ls 6 [(0, .ref (G 0)), (1, .int (nI v)), (2, .int (nI mm))] := hl
  have hin_RX11 : ∀ w ∈ u_ws RX11 TX11 8, w ∈ (Cond.code yX11_write cX11_write 6 (some .int) :: lwU) := fun w h => mU (sub_RX11 w h)
  have hn4 := hP.n4
  have hv31 := Nat.lt_of_lt_of_le hvv (two_pow_16 hm16)
  refine lv_iload_n hx hb dX11_write_0 rfl (lv_at hl 2 rfl) ?_
  refine lv_iconst (v := nI 1) hx hb dX11_write_1 (by decide) ?_
  refine n_icmp_lt (tgt := 11) hx hb (by omega) (by omega) dX11_write_2 (by decide) (fun h_2 => ?_) (fun h_2 => ?_)
  · omega
  · skip
    refine lv_iload_n hx hb dX11_write_5 rfl (lv_at hl 2 rfl) ?_
    refine lv_bipush (v := nI 16) hx hb dX11_write_6 (by decide) ?_
    refine n_icmp_le (tgt := 21) hx hb (by omega) (by omega) dX11_write_8 (by decide) (fun h_8 => ?_) (fun h_8 => ?_)
    · skip
      refine lv_iload_n hx hb dX11_write_21 rfl (lv_at hl 1 rfl) ?_
      refine lv_iload_n hx hb dX11_write_22 rfl (lv_at hl 2 rfl) ?_
      refine p_calli (va_runS (As := [.int (nI v), .int (nI mm)]) (rest := []) C.fix (c_X11_fits l D cy S s.heap.size (nI v) mm (by omega)) (va_cwS 2 C.2.2.2.2.1 (gU_S mw_108 mw_109 mw_2 sub_X11_fits) rfl rfl rfl hdg_X11_write_S_0 ⟨Nat.le_of_ble_eq_true rfl, Nat.le_of_ble_eq_true rfl⟩) (p_preS C hw) rfl rfl hl.1 rfl (lv_room (Nat.le_of_ble_eq_true rfl)) dX11_write_23 ⟨(Nat.le_of_ble_eq_true rfl), (Nat.le_of_ble_eq_true rfl)⟩) hw hA (fun r2 S1 H locs hpost hw => ?_)
      obtain ⟨hr_, hS_⟩ := hpost
      have hr_ := hr_.trans (fits1 (by omega) hvv)
      subst hr_
      subst hS_
      refine n_if_ne (tgt := 39) hx hb (by first | decide | omega) dX11_write_26 (by decide) (fun h_26 => ?_) (fun h_26 => ?_)
      · skip
        refine lv_aload_n hx hb dX11_write_39 rfl (lv_at hl 0 rfl) ?_
        refine p_get C hw (ci := 10) (Cn := RX11) (T := TX11) (N := 8) (hP.mem (k := 0) (by omega)) hP.c0 rfl hin_RX11 4 (by decide) (mU mw_26) rfl rfl dX11_write_40 ?_
        refine lv_iconst (v := nI 0) hx hb dX11_write_43 (by decide) ?_
        obtain ⟨rq5, erq5, frq5⟩ := hP.leq (L := 0) (by omega)
        refine p_callq (va_runV (As := [.int (nI 0)]) (rest := []) C.fix (c_X4_at l D cy S H.size (G 9) (G (12 + 0)) (G (15 + 0)) 0 (G (21 + 0)) rq5 (hP.mem (by omega)) (hP.lev (L := 0) (by omega)) (hP.mem (by omega)) erq5 (by omega) (frq5 0 (by omega))) (cwV 1 C.2.2.2.2.1 (gU_V mw_111 mw_112 mw_113 mw_25 sub_X4_at) rfl rfl rfl hdg_X11_write_V_1 ⟨Nat.le_of_ble_eq_true rfl, Nat.le_of_ble_eq_true rfl⟩) (p_preV C hw (hP.mem (k := 9 + 0) (by omega)) (hP.lev (L := 0) (by omega)) rfl) rfl rfl hl.1 rfl (lv_room (Nat.le_of_ble_eq_true rfl)) dX11_write_44 ⟨(Nat.le_of_ble_eq_true rfl), (Nat.le_of_ble_eq_true rfl)⟩) hw hA (fun r7 S6 H locs hpost hw => ?_)
        obtain ⟨hr_, hS_⟩ := hpost
        subst hr_
        subst hS_
        refine lv_astore_n (lv' := [(3, .ref (G (21 + 0))), (0, .ref (G 0)), (1, .int (nI v)), (2, .int (nI mm))]) hx hb dX11_write_47 rfl hl (by decide) rfl (fun ls hl => ?_)
        refine lv_aload_n hx hb dX11_write_48 rfl (lv_at hl 0 rfl) ?_
        refine p_calli (va_runV (As := []) (rest := []) C.fix (c_X7_size l D cy S H.size (G (21 + 0)) (G (37 + 0)) (V.1 0) (hP.mem (by omega)) (hP.rh (r := 0) (by omega))) (cwV 0 C.2.2.2.2.1 (gU_V mw_115 mw_116 mw_117 mw_21 sub_X7_size) rfl rfl rfl hdg_X11_write_V_2 ⟨Nat.le_of_ble_eq_true rfl, Nat.le_of_ble_eq_true rfl⟩) (p_preV C hw (hP.mem (k := 21 + 0) (by omega)) (hP.rh (r := 0) (by omega)) rfl) rfl rfl hl.1 rfl (lv_room (Nat.le_of_ble_eq_true rfl)) dX11_write_49 ⟨(Nat.le_of_ble_eq_true rfl), (Nat.le_of_ble_eq_true rfl)⟩) hw hA (fun r11 S10 H locs hpost hw => ?_)
        obtain ⟨hr_, hS_⟩ := hpost
        subst hr_
        subst hS_
        refine lv_istore (lv' := [(4, .int (nI (V.1 0))), (3, .ref (G (21 + 0))), (0, .ref (G 0)), (1, .int (nI v)), (2, .int (nI mm))]) hx hb dX11_write_52 hl (by decide) rfl (fun ls hl => ?_)
        refine lv_iload hx hb dX11_write_54 (lv_at hl 0 rfl) ?_
        refine lv_iload_n hx hb dX11_write_56 rfl (lv_at hl 4 rfl) ?_
        refine n_iadd hx hb dX11_write_57 ?_
        refine lv_istore (lv' := [(5, .int (nI ((V.1 0) + mm))), (4, .int (nI (V.1 0))), (3, .ref (G (21 + 0))), (0, .ref (G 0)), (1, .int (nI v)), (2, .int (nI mm))]) hx hb dX11_write_58 hl (by decide) rfl (fun ls hl => ?_)
        refine lv_iload hx hb dX11_write_60 (lv_at hl 0 rfl) ?_
        refine lv_bipush (v := nI 32) hx hb dX11_write_62 (by decide) ?_
        refine n_icmp_le (tgt := 77) hx hb (by omega) (by omega) dX11_write_64 (by decide) (fun h_64 => ?_) (fun h_64 => ?_)
        · skip
          refine lv_aload_n hx hb dX11_write_77 rfl (lv_at hl 3 rfl) ?_
          refine p_get C hw (ci := 10) (Cn := RX11) (T := TX11) (N := 8) (hP.mem (k := 0) (by omega)) hP.c0 rfl hin_RX11 0 (by decide) (mU mw_13) rfl rfl dX11_write_78 ?_
          refine lv_iload hx hb dX11_write_81 (lv_at hl 0 rfl) ?_
          refine p_calli (va_runV (As := [.int (nI ((V.1 0) + mm))]) (rest := []) C.fix (g_X1_sizeAtEnd l D cy S H.size hP ((V.1 0) + mm)) (cwV 1 C.2.2.2.2.1 (gU_V mw_119 mw_120 mw_121 mw_12 (subU mw_122)) rfl rfl rfl hdg_X11_write_V_3 ⟨Nat.le_of_ble_eq_true rfl, Nat.le_of_ble_eq_true rfl⟩) (p_preV C hw (hP.mem (k := 1) (by omega)) hP.c1 rfl) rfl rfl hl.1 rfl (lv_room (Nat.le_of_ble_eq_true rfl)) dX11_write_83 ⟨(Nat.le_of_ble_eq_true rfl), (Nat.le_of_ble_eq_true rfl)⟩) hw hA (fun r15 S14 H locs hpost hw => ?_)
          obtain ⟨hr_, hS_⟩ := hpost
          subst hr_
          subst hS_
          refine lv_sipush (v := nI 320) hx hb dX11_write_86 (by decide) ?_
          refine n_icmp_le (tgt := 102) hx hb (by omega) (by omega) dX11_write_89 (by decide) (fun h_89 => ?_) (fun h_89 => ?_)
          · skip
            refine lv_aload_n hx hb dX11_write_102 rfl (lv_at hl 2 rfl) ?_
            refine lv_iload hx hb dX11_write_103 (lv_at hl 0 rfl) ?_
            refine p_callv (va_runV (As := [.int (nI ((V.1 0) + mm))]) (rest := []) C.fix (q_resize l D cy S H.size hP 0 ((V.1 0) + mm) (by omega) (by omega)) (cwV 1 C.2.2.2.2.1 (gU_V mw_56 mw_57 mw_58 mw_21 sub_X7_resize) rfl rfl rfl hdg_X11_write_V_4 ⟨Nat.le_of_ble_eq_true rfl, Nat.le_of_ble_eq_true rfl⟩) (p_preV C hw (hP.mem (k := 21 + 0) (by omega)) (hP.rh (r := 0) (by omega)) rfl) rfl rfl hl.1 rfl (lv_room (Nat.le_of_ble_eq_true rfl)) dX11_write_105 ⟨(Nat.le_of_ble_eq_true rfl), (Nat.le_of_ble_eq_true rfl)⟩) hw hA (fun S18 H locs hpost hw => ?_)
            obtain ⟨hP20, hF21⟩ := hpost
            obtain ⟨V22, hV22⟩ : ∃ z : RV, z = (va_up V.1 0 (min ((V.1 0) + mm) (gcap 0)), V.2) := ⟨_, rfl⟩
            rw [← hV22] at hP20
            refine lv_aload_n hx hb dX11_write_108 rfl (lv_at hl 2 rfl) ?_
            refine lv_iload hx hb dX11_write_109 (lv_at hl 1 rfl) ?_
            refine lv_iload_n hx hb dX11_write_111 rfl (lv_at hl 4 rfl) ?_
            refine lv_iload_n hx hb dX11_write_112 rfl (lv_at hl 5 rfl) ?_
            refine p_callv (va_runV (As := [.int (nI (V.1 0)), .int (nI v), .int (nI mm)]) (rest := []) C.fix (q_putNumber l D cy S18 H.size hP20 0 (V.1 0) v mm (by omega) (by omega) (by omega) (by omega)) (cwV 3 C.2.2.2.2.1 (gU_V mw_164 mw_165 mw_166 mw_21 sub_X7_putNumber) rfl rfl rfl hdg_X11_write_V_5 ⟨Nat.le_of_ble_eq_true rfl, Nat.le_of_ble_eq_true rfl⟩) (p_preV C hw (hP20.mem (k := 21 + 0) (by omega)) (hP20.rh (r := 0) (by omega)) rfl) rfl rfl hl.1 rfl (lv_room (Nat.le_of_ble_eq_true rfl)) dX11_write_113 ⟨(Nat.le_of_ble_eq_true rfl), (Nat.le_of_ble_eq_true rfl)⟩) hw hA (fun S23 H locs hpost hw => ?_)
            obtain ⟨hP25, hF26⟩ := hpost
            obtain ⟨V27, hV27⟩ : ∃ z : RV, z = (V22.1, va_up V22.2 0 (rnum (V22.2 0) (V22.1 0) (V.1 0) v mm mm)) := ⟨_, rfl⟩
            rw [← hV27] at hP25
            have hT28 := hF21.trans hF26
            have hw9 := write_b (v := v) h32 hV22 hV27
            refine lv_aload_n hx hb dX11_write_116 rfl (lv_at hl 3 rfl) ?_
            refine p_callv (va_runV (As := []) (rest := []) C.fix (g_X11_settle l D cy S23 H.size hP25 a0 b0 c0 hk hla hlb hlc (fun _ => ⟨rfl, rfl, rfl⟩) (fun _ => ⟨rfl, rfl⟩) (fun j hj => by have e : j = 0 := (by omega); subst e; show V27.1 0 ≤ 320; rw [hw9.1]; omega)) (cwV 0 C.2.2.2.2.1 (gU_V mw_172 mw_173 mw_174 mw_2 (subU mw_175)) rfl rfl rfl hdg_X11_write_V_6 ⟨Nat.le_of_ble_eq_true rfl, Nat.le_of_ble_eq_true rfl⟩) (p_preV C hw (hP25.mem (k := 0) (by omega)) hP25.c0 rfl) rfl rfl hl.1 rfl (lv_room (Nat.le_of_ble_eq_true rfl)) dX11_write_117 ⟨(Nat.le_of_ble_eq_true rfl), (Nat.le_of_ble_eq_true rfl)⟩) hw hA (fun S29 H locs hpost hw => ?_)
            obtain ⟨V33, hP31, hF32, hK34⟩ := hpost
            have hT35 := hT28.trans hF32
            refine lv_iload hx hb dX11_write_120 (lv_at hl 0 rfl) ?_
            exact (p_iret C hw ⟨V33, rfl, hP31, hT35, hK34.1, hK34.2.1.trans hw9.1, hK34.2.2.1.trans hw9.2.1, hK34.2.2.2.trans hw9.2.2⟩ hr hlocks dX11_write_122)
          · omega
        · omega
      · exact absurd h_26 (by first | decide | omega)
    · omega

theorem hdg_X11_channel0_V_0 : yX5_kind.cls = RX5 ∧ yX5_kind.cls ≠ "java/lang/invoke/MethodHandle" ∧ yX5_kind.cls ≠ "java/lang/invoke/VarHandle" ∧ (parseMethodDescriptor yX5_kind.desc).map (fun d => d.parameters.length) = some 0 := by decide +kernel
theorem hdg_X11_channel0_V_1 : yX5_become.cls = RX5 ∧ yX5_become.cls ≠ "java/lang/invoke/MethodHandle" ∧ yX5_become.cls ≠ "java/lang/invoke/VarHandle" ∧ (parseMethodDescriptor yX5_become.desc).map (fun d => d.parameters.length) = some 4 := by decide +kernel
theorem hdg_X11_channel0_V_2 : yX11_settle.cls = RX11 ∧ yX11_settle.cls ≠ "java/lang/invoke/MethodHandle" ∧ yX11_settle.cls ≠ "java/lang/invoke/VarHandle" ∧ (parseMethodDescriptor yX11_settle.desc).map (fun d => d.parameters.length) = some 0 := by decide +kernel
set_option maxHeartbeats 4000000 in
set_option maxRecDepth 100000 in
theorem g_X11_channel0 (l : Launch) (D : va_G) (cy : Nat → ClassId) (S : pS) (sz : Nat) {G T : Nat → Nat} {n : Nat} {ws : Nat → WV} {l2 : va_E} {V : RV} {k0 a0 b0 c0 : Nat} (hP : Pic cy S G T n ws (.inr (5, [.int (nI k0), .int (nI a0), .int (nI b0), .int (nI c0)])) l2 V) (xa xb xc : Nat) (hxa : xa < 2 ^ 30) (hxb : xb < 2 ^ 30) (hxc : xc < 2 ^ 30) (hz : ∀ j, j ≤ n → cz ws (V.1 0) j ≤ 320) : Met l yX11_channel (Cond.code yX11_channel cX11_channel 6 (some .int) :: lwU) ({ frames := 6, cells := 0, slots := 0, locals := 144 }) (pPc D cy S sz [.ref (G 0), .int (nI 0), .int (nI xa), .int (nI xb), .int (nI xc)]) (pQi D cy S sz (fun r S' => ∃ V', r = nI k0 ∧ Pic cy S' G T n ws (.inr (5, [.int (nI 0), .int (nI xa), .int (nI xb), .int (nI xc)])) l2 V' ∧ Frm G S S' ∧ Nw n ws 0 xa xb xc V V')) 0 0 (pA S sz) := by
  refine Met.ofW (cc := cX11_channel) (maxL := 6) (ret := (some .int)) (by decide) rfl ?_
  intro p e s m args below meth c s₁ B hml hv
  obtain ⟨rfl, rfl, C, hw, hA, hr, hlocks⟩ := p_start B hml hv
  have hx := C.1
  have hb := C.2.1
  have hl := lv_entry ([.ref (G 0), .int (nI 0), .int (nI xa), .int (nI xb), .int (nI xc)]) (n := 6) (Nat.le_of_ble_eq_true rfl)
  rw [lg_entry_eq]
  generalize (lg_sl ([.ref (G 0), .int (nI 0), .int (nI xa), .int (nI xb), .int (nI xc)]) ++ List.replicate (6 - (lg_sl ([.ref (G 0), .int (nI 0), .int (nI xa), .int (nI xb), .int (nI xc)])).length) Slot.unset).toArray = ls at hl ⊢
  have hl : lv_has ls 6 [(0, .ref (G 0)), (1, .int (nI 0)), (2, .int (nI xa)), (3, .int (nI xb)), (4, .int (nI xc))] := hl
  have hin_RX11 : ∀ w ∈ u_ws RX11 TX11 8, w ∈ (Cond.code yX11_channel cX11_channel 6 (some .int) :: lwU) := fun w h => mU (sub_RX11 w h)
  have hn4 := hP.n4
  refine lv_iload_n hx hb dX11_channel_0 rfl (lv_at hl 1 rfl) ?_
  refine n_if_lt (tgt := 9) hx hb (by decide) dX11_channel_1 (by decide) ?_
  refine lv_iload_n hx hb dX11_channel_4 rfl (lv_at hl 1 rfl) ?_
  refine lv_iconst (v := nI 3) hx hb dX11_channel_5 (by decide) ?_
  refine n_icmp_le (tgt := 19) hx hb (by first | decide | omega) (by first | decide | omega) dX11_channel_6 (by decide) (fun h_6 => ?_) (fun h_6 => ?_)
  · skip
    refine lv_iload_n hx hb dX11_channel_19 rfl (lv_at hl 1 rfl) ?_
    refine lv_iconst (v := nI 1) hx hb dX11_channel_20 (by decide) ?_
    refine n_icmp_eq (tgt := 29) hx hb (by first | decide | omega) (by first | decide | omega) dX11_channel_21 (by decide) (fun h_21 => ?_) (fun h_21 => ?_)
    · exact absurd h_21 (by first | decide | omega)
    · skip
      refine lv_iload_n hx hb dX11_channel_24 rfl (lv_at hl 1 rfl) ?_
      refine lv_iconst (v := nI 3) hx hb dX11_channel_25 (by decide) ?_
      refine n_icmp_ne (tgt := 60) hx hb (by first | decide | omega) (by first | decide | omega) dX11_channel_26 (by decide) (fun h_26 => ?_) (fun h_26 => ?_)
      · skip
        refine lv_iload_n hx hb dX11_channel_60 rfl (lv_at hl 1 rfl) ?_
        refine lv_iconst (v := nI 2) hx hb dX11_channel_61 (by decide) ?_
        refine n_icmp_ne (tgt := 111) hx hb (by first | decide | omega) (by first | decide | omega) dX11_channel_62 (by decide) (fun h_62 => ?_) (fun h_62 => ?_)
        · skip
          refine lv_aload_n hx hb dX11_channel_111 rfl (lv_at hl 0 rfl) ?_
          refine p_get C hw (ci := 10) (Cn := RX11) (T := TX11) (N := 8) (hP.mem (k := 0) (by omega)) hP.c0 rfl hin_RX11 1 (by decide) (mU mw_17) rfl rfl dX11_channel_112 ?_
          refine p_calli (va_runV (As := []) (rest := []) C.fix (c_X5_kind l D cy S s.heap.size (G 3) k0 (nI a0) (nI b0) (nI c0) (hP.mem (by omega)) hP.c3) (cwV 0 C.2.2.2.2.1 (gU_V mw_616 mw_617 mw_618 mw_16 sub_X5_kind) rfl rfl rfl hdg_X11_channel0_V_0 ⟨Nat.le_of_ble_eq_true rfl, Nat.le_of_ble_eq_true rfl⟩) (p_preV C hw (hP.mem (k := 3) (by omega)) hP.c3 rfl) rfl rfl hl.1 rfl (lv_room (Nat.le_of_ble_eq_true rfl)) dX11_channel_115 ⟨(Nat.le_of_ble_eq_true rfl), (Nat.le_of_ble_eq_true rfl)⟩) hw hA (fun r2 S1 H locs hpost hw => ?_)
          obtain ⟨hr_, hS_⟩ := hpost
          subst hr_
          subst hS_
          refine lv_istore (lv' := [(5, .int (nI k0)), (0, .ref (G 0)), (1, .int (nI 0)), (2, .int (nI xa)), (3, .int (nI xb)), (4, .int (nI xc))]) hx hb dX11_channel_118 hl (by decide) rfl (fun ls hl => ?_)
          refine lv_aload_n hx hb dX11_channel_120 rfl (lv_at hl 1 rfl) ?_
          refine p_get C hw (ci := 10) (Cn := RX11) (T := TX11) (N := 8) (hP.mem (k := 0) (by omega)) hP.c0 rfl hin_RX11 1 (by decide) (mU mw_17) rfl rfl dX11_channel_121 ?_
          refine lv_iload_n hx hb dX11_channel_124 rfl (lv_at hl 2 rfl) ?_
          refine lv_iload_n hx hb dX11_channel_125 rfl (lv_at hl 3 rfl) ?_
          refine lv_iload_n hx hb dX11_channel_126 rfl (lv_at hl 4 rfl) ?_
          refine lv_iload hx hb dX11_channel_127 (lv_at hl 5 rfl) ?_
          refine p_callv (va_runV (As := [.int (nI 0), .int (nI xa), .int (nI xb), .int (nI xc)]) (rest := []) C.fix (q_become1 l D cy S H.size hP k0 (nI a0) (nI b0) (nI c0) 0 (nI xa) (nI xb) (nI xc) hP.c3) (cwV 4 C.2.2.2.2.1 (gU_V mw_620 mw_621 mw_622 mw_16 sub_X5_become) rfl rfl rfl hdg_X11_channel0_V_1 ⟨Nat.le_of_ble_eq_true rfl, Nat.le_of_ble_eq_true rfl⟩) (p_preV C hw (hP.mem (k := 3) (by omega)) hP.c3 rfl) rfl rfl hl.1 rfl (lv_room (Nat.le_of_ble_eq_true rfl)) dX11_channel_129 ⟨(Nat.le_of_ble_eq_true rfl), (Nat.le_of_ble_eq_true rfl)⟩) hw hA (fun S5 H locs hpost hw => ?_)
          obtain ⟨hP7, hF8⟩ := hpost
          refine lv_aload_n hx hb dX11_channel_132 rfl (lv_at hl 1 rfl) ?_
          refine p_callv (va_runV (As := []) (rest := []) C.fix (g_X11_settle l D cy S5 H.size hP7 xa xb xc (by decide) hxa hxb hxc (fun _ => ⟨rfl, rfl, rfl⟩) (fun _ => ⟨rfl, rfl⟩) hz) (cwV 0 C.2.2.2.2.1 (gU_V mw_172 mw_173 mw_174 mw_2 (subU mw_175)) rfl rfl rfl hdg_X11_channel0_V_2 ⟨Nat.le_of_ble_eq_true rfl, Nat.le_of_ble_eq_true rfl⟩) (p_preV C hw (hP7.mem (k := 0) (by omega)) hP7.c0 rfl) rfl rfl hl.1 rfl (lv_room (Nat.le_of_ble_eq_true rfl)) dX11_channel_133 ⟨(Nat.le_of_ble_eq_true rfl), (Nat.le_of_ble_eq_true rfl)⟩) hw hA (fun S9 H locs hpost hw => ?_)
          obtain ⟨V13, hP11, hF12, hK14⟩ := hpost
          have hT15 := hF8.trans hF12
          refine lv_iload hx hb dX11_channel_136 (lv_at hl 0 rfl) ?_
          exact (p_iret C hw ⟨V13, rfl, hP11, hT15, hK14⟩ hr hlocks dX11_channel_138)
        · exact absurd h_62 (by first | decide | omega)
      · exact absurd h_26 (by first | decide | omega)
  · exact absurd h_6 (by first | decide | omega)

theorem hdg_X11_channel1_V_0 : yX5_kind.cls = RX5 ∧ yX5_kind.cls ≠ "java/lang/invoke/MethodHandle" ∧ yX5_kind.cls ≠ "java/lang/invoke/VarHandle" ∧ (parseMethodDescriptor yX5_kind.desc).map (fun d => d.parameters.length) = some 0 := by decide +kernel
theorem hdg_X11_channel1_V_1 : yX5_become.cls = RX5 ∧ yX5_become.cls ≠ "java/lang/invoke/MethodHandle" ∧ yX5_become.cls ≠ "java/lang/invoke/VarHandle" ∧ (parseMethodDescriptor yX5_become.desc).map (fun d => d.parameters.length) = some 4 := by decide +kernel
theorem hdg_X11_channel1_V_2 : yX11_settle.cls = RX11 ∧ yX11_settle.cls ≠ "java/lang/invoke/MethodHandle" ∧ yX11_settle.cls ≠ "java/lang/invoke/VarHandle" ∧ (parseMethodDescriptor yX11_settle.desc).map (fun d => d.parameters.length) = some 0 := by decide +kernel
set_option maxHeartbeats 4000000 in
set_option maxRecDepth 100000 in
theorem g_X11_channel1 (l : Launch) (D : va_G) (cy : Nat → ClassId) (S : pS) (sz : Nat) {G T : Nat → Nat} {n : Nat} {ws : Nat → WV} {l2 : va_E} {V : RV} {k0 a0 b0 c0 : Nat} (hP : Pic cy S G T n ws (.inr (5, [.int (nI k0), .int (nI a0), .int (nI b0), .int (nI c0)])) l2 V) (xa xb xc : Nat) (hxa : xa < 2 ^ 30) (hxb : xb < 2 ^ 30) (hxc : xc < 2 ^ 30) (h1 : xa ≤ 1000) (h2 : xb ≤ 1000000) (hz : ∀ j, j ≤ n → cz ws (V.1 0) j ≤ 320) : Met l yX11_channel (Cond.code yX11_channel cX11_channel 6 (some .int) :: lwU) ({ frames := 6, cells := 0, slots := 0, locals := 144 }) (pPc D cy S sz [.ref (G 0), .int (nI 1), .int (nI xa), .int (nI xb), .int (nI xc)]) (pQi D cy S sz (fun r S' => ∃ V', r = nI k0 ∧ Pic cy S' G T n ws (.inr (5, [.int (nI 1), .int (nI xa), .int (nI xb), .int (nI xc)])) l2 V' ∧ Frm G S S' ∧ Nw n ws 1 xa xb xc V V')) 0 0 (pA S sz) := by
  refine Met.ofW (cc := cX11_channel) (maxL := 6) (ret := (some .int)) (by decide) rfl ?_
  intro p e s m args below meth c s₁ B hml hv
  obtain ⟨rfl, rfl, C, hw, hA, hr, hlocks⟩ := p_start B hml hv
  have hx := C.1
  have hb := C.2.1
  have hl := lv_entry ([.ref (G 0), .int (nI 1), .int (nI xa), .int (nI xb), .int (nI xc)]) (n := 6) (Nat.le_of_ble_eq_true rfl)
  rw [lg_entry_eq]
  generalize (lg_sl ([.ref (G 0), .int (nI 1), .int (nI xa), .int (nI xb), .int (nI xc)]) ++ List.replicate (6 - (lg_sl ([.ref (G 0), .int (nI 1), .int (nI xa), .int (nI xb), .int (nI xc)])).length) Slot.unset).toArray = ls at hl ⊢
  have hl : lv_has ls 6 [(0, .ref (G 0)), (1, .int (nI 1)), (2, .int (nI xa)), (3, .int (nI xb)), (4, .int (nI xc))] := hl
  have hin_RX11 : ∀ w ∈ u_ws RX11 TX11 8, w ∈ (Cond.code yX11_channel cX11_channel 6 (some .int) :: lwU) := fun w h => mU (sub_RX11 w h)
  have hn4 := hP.n4
  refine lv_iload_n hx hb dX11_channel_0 rfl (lv_at hl 1 rfl) ?_
  refine n_if_lt (tgt := 9) hx hb (by decide) dX11_channel_1 (by decide) ?_
  refine lv_iload_n hx hb dX11_channel_4 rfl (lv_at hl 1 rfl) ?_
  refine lv_iconst (v := nI 3) hx hb dX11_channel_5 (by decide) ?_
  refine n_icmp_le (tgt := 19) hx hb (by first | decide | omega) (by first | decide | omega) dX11_channel_6 (by decide) (fun h_6 => ?_) (fun h_6 => ?_)
  · skip
    refine lv_iload_n hx hb dX11_channel_19 rfl (lv_at hl 1 rfl) ?_
    refine lv_iconst (v := nI 1) hx hb dX11_channel_20 (by decide) ?_
    refine n_icmp_eq (tgt := 29) hx hb (by first | decide | omega) (by first | decide | omega) dX11_channel_21 (by decide) (fun h_21 => ?_) (fun h_21 => ?_)
    · skip
      refine lv_iload_n hx hb dX11_channel_29 rfl (lv_at hl 2 rfl) ?_
      refine n_if_lt (tgt := 50) hx hb (by omega) dX11_channel_30 (by decide) ?_
      refine lv_iload_n hx hb dX11_channel_33 rfl (lv_at hl 2 rfl) ?_
      refine lv_sipush (v := nI 1000) hx hb dX11_channel_34 (by decide) ?_
      refine n_icmp_gt (tgt := 50) hx hb (by omega) (by omega) dX11_channel_37 (by decide) (fun h_37 => ?_) (fun h_37 => ?_)
      · omega
      · skip
        refine lv_iload_n hx hb dX11_channel_40 rfl (lv_at hl 3 rfl) ?_
        refine n_if_lt (tgt := 50) hx hb (by omega) dX11_channel_41 (by decide) ?_
        refine lv_iload_n hx hb dX11_channel_44 rfl (lv_at hl 3 rfl) ?_
        refine lv_ldc (v := nI 1000000) hx hb C.2.2.2.1 (C.2.2.2.2.1 (.constant RX11 152 (1000000)) (mU mw_615)) dX11_channel_45 ?_
        refine n_icmp_le (tgt := 60) hx hb (by omega) (by omega) dX11_channel_47 (by decide) (fun h_47 => ?_) (fun h_47 => ?_)
        · skip
          refine lv_iload_n hx hb dX11_channel_60 rfl (lv_at hl 1 rfl) ?_
          refine lv_iconst (v := nI 2) hx hb dX11_channel_61 (by decide) ?_
          refine n_icmp_ne (tgt := 111) hx hb (by first | decide | omega) (by first | decide | omega) dX11_channel_62 (by decide) (fun h_62 => ?_) (fun h_62 => ?_)
          · skip
            refine lv_aload_n hx hb dX11_channel_111 rfl (lv_at hl 0 rfl) ?_
            refine p_get C hw (ci := 10) (Cn := RX11) (T := TX11) (N := 8) (hP.mem (k := 0) (by omega)) hP.c0 rfl hin_RX11 1 (by decide) (mU mw_17) rfl rfl dX11_channel_112 ?_
            refine p_calli (va_runV (As := []) (rest := []) C.fix (c_X5_kind l D cy S s.heap.size (G 3) k0 (nI a0) (nI b0) (nI c0) (hP.mem (by omega)) hP.c3) (cwV 0 C.2.2.2.2.1 (gU_V mw_616 mw_617 mw_618 mw_16 sub_X5_kind) rfl rfl rfl hdg_X11_channel1_V_0 ⟨Nat.le_of_ble_eq_true rfl, Nat.le_of_ble_eq_true rfl⟩) (p_preV C hw (hP.mem (k := 3) (by omega)) hP.c3 rfl) rfl rfl hl.1 rfl (lv_room (Nat.le_of_ble_eq_true rfl)) dX11_channel_115 ⟨(Nat.le_of_ble_eq_true rfl), (Nat.le_of_ble_eq_true rfl)⟩) hw hA (fun r2 S1 H locs hpost hw => ?_)
            obtain ⟨hr_, hS_⟩ := hpost
            subst hr_
            subst hS_
            refine lv_istore (lv' := [(5, .int (nI k0)), (0, .ref (G 0)), (1, .int (nI 1)), (2, .int (nI xa)), (3, .int (nI xb)), (4, .int (nI xc))]) hx hb dX11_channel_118 hl (by decide) rfl (fun ls hl => ?_)
            refine lv_aload_n hx hb dX11_channel_120 rfl (lv_at hl 1 rfl) ?_
            refine p_get C hw (ci := 10) (Cn := RX11) (T := TX11) (N := 8) (hP.mem (k := 0) (by omega)) hP.c0 rfl hin_RX11 1 (by decide) (mU mw_17) rfl rfl dX11_channel_121 ?_
            refine lv_iload_n hx hb dX11_channel_124 rfl (lv_at hl 2 rfl) ?_
            refine lv_iload_n hx hb dX11_channel_125 rfl (lv_at hl 3 rfl) ?_
            refine lv_iload_n hx hb dX11_channel_126 rfl (lv_at hl 4 rfl) ?_
            refine lv_iload hx hb dX11_channel_127 (lv_at hl 5 rfl) ?_
            refine p_callv (va_runV (As := [.int (nI 1), .int (nI xa), .int (nI xb), .int (nI xc)]) (rest := []) C.fix (q_become1 l D cy S H.size hP k0 (nI a0) (nI b0) (nI c0) 1 (nI xa) (nI xb) (nI xc) hP.c3) (cwV 4 C.2.2.2.2.1 (gU_V mw_620 mw_621 mw_622 mw_16 sub_X5_become) rfl rfl rfl hdg_X11_channel1_V_1 ⟨Nat.le_of_ble_eq_true rfl, Nat.le_of_ble_eq_true rfl⟩) (p_preV C hw (hP.mem (k := 3) (by omega)) hP.c3 rfl) rfl rfl hl.1 rfl (lv_room (Nat.le_of_ble_eq_true rfl)) dX11_channel_129 ⟨(Nat.le_of_ble_eq_true rfl), (Nat.le_of_ble_eq_true rfl)⟩) hw hA (fun S5 H locs hpost hw => ?_)
            obtain ⟨hP7, hF8⟩ := hpost
            refine lv_aload_n hx hb dX11_channel_132 rfl (lv_at hl 1 rfl) ?_
            refine p_callv (va_runV (As := []) (rest := []) C.fix (g_X11_settle l D cy S5 H.size hP7 xa xb xc (by decide) hxa hxb hxc (fun _ => ⟨rfl, rfl, rfl⟩) (fun _ => ⟨rfl, rfl⟩) hz) (cwV 0 C.2.2.2.2.1 (gU_V mw_172 mw_173 mw_174 mw_2 (subU mw_175)) rfl rfl rfl hdg_X11_channel1_V_2 ⟨Nat.le_of_ble_eq_true rfl, Nat.le_of_ble_eq_true rfl⟩) (p_preV C hw (hP7.mem (k := 0) (by omega)) hP7.c0 rfl) rfl rfl hl.1 rfl (lv_room (Nat.le_of_ble_eq_true rfl)) dX11_channel_133 ⟨(Nat.le_of_ble_eq_true rfl), (Nat.le_of_ble_eq_true rfl)⟩) hw hA (fun S9 H locs hpost hw => ?_)
            obtain ⟨V13, hP11, hF12, hK14⟩ := hpost
            have hT15 := hF8.trans hF12
            refine lv_iload hx hb dX11_channel_136 (lv_at hl 0 rfl) ?_
            exact (p_iret C hw ⟨V13, rfl, hP11, hT15, hK14⟩ hr hlocks dX11_channel_138)
          · exact absurd h_62 (by first | decide | omega)
        · omega
    · exact absurd h_21 (by first | decide | omega)
  · exact absurd h_6 (by first | decide | omega)

theorem hdg_X11_channel2_V_0 : yX5_kind.cls = RX5 ∧ yX5_kind.cls ≠ "java/lang/invoke/MethodHandle" ∧ yX5_kind.cls ≠ "java/lang/invoke/VarHandle" ∧ (parseMethodDescriptor yX5_kind.desc).map (fun d => d.parameters.length) = some 0 := by decide +kernel
theorem hdg_X11_channel2_V_1 : yX5_become.cls = RX5 ∧ yX5_become.cls ≠ "java/lang/invoke/MethodHandle" ∧ yX5_become.cls ≠ "java/lang/invoke/VarHandle" ∧ (parseMethodDescriptor yX5_become.desc).map (fun d => d.parameters.length) = some 4 := by decide +kernel
theorem hdg_X11_channel2_V_2 : yX11_settle.cls = RX11 ∧ yX11_settle.cls ≠ "java/lang/invoke/MethodHandle" ∧ yX11_settle.cls ≠ "java/lang/invoke/VarHandle" ∧ (parseMethodDescriptor yX11_settle.desc).map (fun d => d.parameters.length) = some 0 := by decide +kernel
set_option maxHeartbeats 4000000 in
set_option maxRecDepth 100000 in
theorem g_X11_channel2 (l : Launch) (D : va_G) (cy : Nat → ClassId) (S : pS) (sz : Nat) {G T : Nat → Nat} {n : Nat} {ws : Nat → WV} {l2 : va_E} {V : RV} {k0 a0 b0 c0 : Nat} (hP : Pic cy S G T n ws (.inr (5, [.int (nI k0), .int (nI a0), .int (nI b0), .int (nI c0)])) l2 V) (xa xb xc : Nat) (hxa : xa < 2 ^ 30) (hxb : xb < 2 ^ 30) (hxc : xc < 2 ^ 30) (h1 : xa ≤ 320) (h2 : 1 ≤ xb) (h3 : xb ≤ 50) (h4 : xb ≤ xc) (h5 : xc ≤ 320) (hz : ∀ j, j ≤ n → cz ws (V.1 0) j ≤ 320) : Met l yX11_channel (Cond.code yX11_channel cX11_channel 6 (some .int) :: lwU) ({ frames := 6, cells := 0, slots := 0, locals := 144 }) (pPc D cy S sz [.ref (G 0), .int (nI 2), .int (nI xa), .int (nI xb), .int (nI xc)]) (pQi D cy S sz (fun r S' => ∃ V', r = nI k0 ∧ Pic cy S' G T n ws (.inr (5, [.int (nI 2), .int (nI xa), .int (nI xb), .int (nI xc)])) l2 V' ∧ Frm G S S' ∧ Nw n ws 2 xa xb xc V V')) 0 0 (pA S sz) := by
  refine Met.ofW (cc := cX11_channel) (maxL := 6) (ret := (some .int)) (by decide) rfl ?_
  intro p e s m args below meth c s₁ B hml hv
  obtain ⟨rfl, rfl, C, hw, hA, hr, hlocks⟩ := p_start B hml hv
  have hx := C.1
  have hb := C.2.1
  have hl := lv_entry ([.ref (G 0), .int (nI 2), .int (nI xa), .int (nI xb), .int (nI xc)]) (n := 6) (Nat.le_of_ble_eq_true rfl)
  rw [lg_entry_eq]
  generalize (lg_sl ([.ref (G 0), .int (nI 2), .int (nI xa), .int (nI xb), .int (nI xc)]) ++ List.replicate (6 - (lg_sl ([.ref (G 0), .int (nI 2), .int (nI xa), .int (nI xb), .int (nI xc)])).length) Slot.unset).toArray = ls at hl ⊢
  have hl : lv_has ls 6 [(0, .ref (G 0)), (1, .int (nI 2)), (2, .int (nI xa)), (3, .int (nI xb)), (4, .int (nI xc))] := hl
  have hin_RX11 : ∀ w ∈ u_ws RX11 TX11 8, w ∈ (Cond.code yX11_channel cX11_channel 6 (some .int) :: lwU) := fun w h => mU (sub_RX11 w h)
  have hn4 := hP.n4
  refine lv_iload_n hx hb dX11_channel_0 rfl (lv_at hl 1 rfl) ?_
  refine n_if_lt (tgt := 9) hx hb (by decide) dX11_channel_1 (by decide) ?_
  refine lv_iload_n hx hb dX11_channel_4 rfl (lv_at hl 1 rfl) ?_
  refine lv_iconst (v := nI 3) hx hb dX11_channel_5 (by decide) ?_
  refine n_icmp_le (tgt := 19) hx hb (by first | decide | omega) (by first | decide | omega) dX11_channel_6 (by decide) (fun h_6 => ?_) (fun h_6 => ?_)
  · skip
    refine lv_iload_n hx hb dX11_channel_19 rfl (lv_at hl 1 rfl) ?_
    refine lv_iconst (v := nI 1) hx hb dX11_channel_20 (by decide) ?_
    refine n_icmp_eq (tgt := 29) hx hb (by first | decide | omega) (by first | decide | omega) dX11_channel_21 (by decide) (fun h_21 => ?_) (fun h_21 => ?_)
    · exact absurd h_21 (by first | decide | omega)
    · skip
      refine lv_iload_n hx hb dX11_channel_24 rfl (lv_at hl 1 rfl) ?_
      refine lv_iconst (v := nI 3) hx hb dX11_channel_25 (by decide) ?_
      refine n_icmp_ne (tgt := 60) hx hb (by first | decide | omega) (by first | decide | omega) dX11_channel_26 (by decide) (fun h_26 => ?_) (fun h_26 => ?_)
      · skip
        refine lv_iload_n hx hb dX11_channel_60 rfl (lv_at hl 1 rfl) ?_
        refine lv_iconst (v := nI 2) hx hb dX11_channel_61 (by decide) ?_
        refine n_icmp_ne (tgt := 111) hx hb (by first | decide | omega) (by first | decide | omega) dX11_channel_62 (by decide) (fun h_62 => ?_) (fun h_62 => ?_)
        · exact absurd h_62 (by first | decide | omega)
        · skip
          refine lv_iload_n hx hb dX11_channel_65 rfl (lv_at hl 2 rfl) ?_
          refine n_if_lt (tgt := 101) hx hb (by omega) dX11_channel_66 (by decide) ?_
          refine lv_iload_n hx hb dX11_channel_69 rfl (lv_at hl 2 rfl) ?_
          refine lv_sipush (v := nI 320) hx hb dX11_channel_70 (by decide) ?_
          refine n_icmp_gt (tgt := 101) hx hb (by omega) (by omega) dX11_channel_73 (by decide) (fun h_73 => ?_) (fun h_73 => ?_)
          · omega
          · skip
            refine lv_iload_n hx hb dX11_channel_76 rfl (lv_at hl 3 rfl) ?_
            refine lv_iconst (v := nI 1) hx hb dX11_channel_77 (by decide) ?_
            refine n_icmp_lt (tgt := 101) hx hb (by omega) (by omega) dX11_channel_78 (by decide) (fun h_78 => ?_) (fun h_78 => ?_)
            · omega
            · skip
              refine lv_iload_n hx hb dX11_channel_81 rfl (lv_at hl 3 rfl) ?_
              refine lv_bipush (v := nI 50) hx hb dX11_channel_82 (by decide) ?_
              refine n_icmp_gt (tgt := 101) hx hb (by omega) (by omega) dX11_channel_84 (by decide) (fun h_84 => ?_) (fun h_84 => ?_)
              · omega
              · skip
                refine lv_iload hx hb dX11_channel_87 (lv_at hl 4 rfl) ?_
                refine lv_iload_n hx hb dX11_channel_89 rfl (lv_at hl 3 rfl) ?_
                refine n_icmp_lt (tgt := 101) hx hb (by omega) (by omega) dX11_channel_90 (by decide) (fun h_90 => ?_) (fun h_90 => ?_)
                · omega
                · skip
                  refine lv_iload hx hb dX11_channel_93 (lv_at hl 4 rfl) ?_
                  refine lv_sipush (v := nI 320) hx hb dX11_channel_95 (by decide) ?_
                  refine n_icmp_le (tgt := 111) hx hb (by omega) (by omega) dX11_channel_98 (by decide) (fun h_98 => ?_) (fun h_98 => ?_)
                  · skip
                    refine lv_aload_n hx hb dX11_channel_111 rfl (lv_at hl 0 rfl) ?_
                    refine p_get C hw (ci := 10) (Cn := RX11) (T := TX11) (N := 8) (hP.mem (k := 0) (by omega)) hP.c0 rfl hin_RX11 1 (by decide) (mU mw_17) rfl rfl dX11_channel_112 ?_
                    refine p_calli (va_runV (As := []) (rest := []) C.fix (c_X5_kind l D cy S s.heap.size (G 3) k0 (nI a0) (nI b0) (nI c0) (hP.mem (by omega)) hP.c3) (cwV 0 C.2.2.2.2.1 (gU_V mw_616 mw_617 mw_618 mw_16 sub_X5_kind) rfl rfl rfl hdg_X11_channel2_V_0 ⟨Nat.le_of_ble_eq_true rfl, Nat.le_of_ble_eq_true rfl⟩) (p_preV C hw (hP.mem (k := 3) (by omega)) hP.c3 rfl) rfl rfl hl.1 rfl (lv_room (Nat.le_of_ble_eq_true rfl)) dX11_channel_115 ⟨(Nat.le_of_ble_eq_true rfl), (Nat.le_of_ble_eq_true rfl)⟩) hw hA (fun r2 S1 H locs hpost hw => ?_)
                    obtain ⟨hr_, hS_⟩ := hpost
                    subst hr_
                    subst hS_
                    refine lv_istore (lv' := [(5, .int (nI k0)), (0, .ref (G 0)), (1, .int (nI 2)), (2, .int (nI xa)), (3, .int (nI xb)), (4, .int (nI xc))]) hx hb dX11_channel_118 hl (by decide) rfl (fun ls hl => ?_)
                    refine lv_aload_n hx hb dX11_channel_120 rfl (lv_at hl 1 rfl) ?_
                    refine p_get C hw (ci := 10) (Cn := RX11) (T := TX11) (N := 8) (hP.mem (k := 0) (by omega)) hP.c0 rfl hin_RX11 1 (by decide) (mU mw_17) rfl rfl dX11_channel_121 ?_
                    refine lv_iload_n hx hb dX11_channel_124 rfl (lv_at hl 2 rfl) ?_
                    refine lv_iload_n hx hb dX11_channel_125 rfl (lv_at hl 3 rfl) ?_
                    refine lv_iload_n hx hb dX11_channel_126 rfl (lv_at hl 4 rfl) ?_
                    refine lv_iload hx hb dX11_channel_127 (lv_at hl 5 rfl) ?_
                    refine p_callv (va_runV (As := [.int (nI 2), .int (nI xa), .int (nI xb), .int (nI xc)]) (rest := []) C.fix (q_become1 l D cy S H.size hP k0 (nI a0) (nI b0) (nI c0) 2 (nI xa) (nI xb) (nI xc) hP.c3) (cwV 4 C.2.2.2.2.1 (gU_V mw_620 mw_621 mw_622 mw_16 sub_X5_become) rfl rfl rfl hdg_X11_channel2_V_1 ⟨Nat.le_of_ble_eq_true rfl, Nat.le_of_ble_eq_true rfl⟩) (p_preV C hw (hP.mem (k := 3) (by omega)) hP.c3 rfl) rfl rfl hl.1 rfl (lv_room (Nat.le_of_ble_eq_true rfl)) dX11_channel_129 ⟨(Nat.le_of_ble_eq_true rfl), (Nat.le_of_ble_eq_true rfl)⟩) hw hA (fun S5 H locs hpost hw => ?_)
                    obtain ⟨hP7, hF8⟩ := hpost
                    refine lv_aload_n hx hb dX11_channel_132 rfl (lv_at hl 1 rfl) ?_
                    refine p_callv (va_runV (As := []) (rest := []) C.fix (g_X11_settle l D cy S5 H.size hP7 xa xb xc (by decide) hxa hxb hxc (fun _ => ⟨rfl, rfl, rfl⟩) (fun _ => ⟨rfl, rfl⟩) hz) (cwV 0 C.2.2.2.2.1 (gU_V mw_172 mw_173 mw_174 mw_2 (subU mw_175)) rfl rfl rfl hdg_X11_channel2_V_2 ⟨Nat.le_of_ble_eq_true rfl, Nat.le_of_ble_eq_true rfl⟩) (p_preV C hw (hP7.mem (k := 0) (by omega)) hP7.c0 rfl) rfl rfl hl.1 rfl (lv_room (Nat.le_of_ble_eq_true rfl)) dX11_channel_133 ⟨(Nat.le_of_ble_eq_true rfl), (Nat.le_of_ble_eq_true rfl)⟩) hw hA (fun S9 H locs hpost hw => ?_)
                    obtain ⟨V13, hP11, hF12, hK14⟩ := hpost
                    have hT15 := hF8.trans hF12
                    refine lv_iload hx hb dX11_channel_136 (lv_at hl 0 rfl) ?_
                    exact (p_iret C hw ⟨V13, rfl, hP11, hT15, hK14⟩ hr hlocks dX11_channel_138)
                  · omega
      · exact absurd h_26 (by first | decide | omega)
  · exact absurd h_6 (by first | decide | omega)

theorem hdg_X11_channel3_V_0 : yX5_kind.cls = RX5 ∧ yX5_kind.cls ≠ "java/lang/invoke/MethodHandle" ∧ yX5_kind.cls ≠ "java/lang/invoke/VarHandle" ∧ (parseMethodDescriptor yX5_kind.desc).map (fun d => d.parameters.length) = some 0 := by decide +kernel
theorem hdg_X11_channel3_V_1 : yX5_become.cls = RX5 ∧ yX5_become.cls ≠ "java/lang/invoke/MethodHandle" ∧ yX5_become.cls ≠ "java/lang/invoke/VarHandle" ∧ (parseMethodDescriptor yX5_become.desc).map (fun d => d.parameters.length) = some 4 := by decide +kernel
theorem hdg_X11_channel3_V_2 : yX11_settle.cls = RX11 ∧ yX11_settle.cls ≠ "java/lang/invoke/MethodHandle" ∧ yX11_settle.cls ≠ "java/lang/invoke/VarHandle" ∧ (parseMethodDescriptor yX11_settle.desc).map (fun d => d.parameters.length) = some 0 := by decide +kernel
set_option maxHeartbeats 4000000 in
set_option maxRecDepth 100000 in
theorem g_X11_channel3 (l : Launch) (D : va_G) (cy : Nat → ClassId) (S : pS) (sz : Nat) {G T : Nat → Nat} {n : Nat} {ws : Nat → WV} {l2 : va_E} {V : RV} {k0 a0 b0 c0 : Nat} (hP : Pic cy S G T n ws (.inr (5, [.int (nI k0), .int (nI a0), .int (nI b0), .int (nI c0)])) l2 V) (xa xb xc : Nat) (hxa : xa < 2 ^ 30) (hxb : xb < 2 ^ 30) (hxc : xc < 2 ^ 30) (h1 : xa ≤ 1000) (h2 : xb ≤ 1000000) (hz : ∀ j, j ≤ n → cz ws (V.1 0) j ≤ 320) : Met l yX11_channel (Cond.code yX11_channel cX11_channel 6 (some .int) :: lwU) ({ frames := 6, cells := 0, slots := 0, locals := 144 }) (pPc D cy S sz [.ref (G 0), .int (nI 3), .int (nI xa), .int (nI xb), .int (nI xc)]) (pQi D cy S sz (fun r S' => ∃ V', r = nI k0 ∧ Pic cy S' G T n ws (.inr (5, [.int (nI 3), .int (nI xa), .int (nI xb), .int (nI xc)])) l2 V' ∧ Frm G S S' ∧ Nw n ws 3 xa xb xc V V')) 0 0 (pA S sz) := by
  refine Met.ofW (cc := cX11_channel) (maxL := 6) (ret := (some .int)) (by decide) rfl ?_
  intro p e s m args below meth c s₁ B hml hv
  obtain ⟨rfl, rfl, C, hw, hA, hr, hlocks⟩ := p_start B hml hv
  have hx := C.1
  have hb := C.2.1
  have hl := lv_entry ([.ref (G 0), .int (nI 3), .int (nI xa), .int (nI xb), .int (nI xc)]) (n := 6) (Nat.le_of_ble_eq_true rfl)
  rw [lg_entry_eq]
  generalize (lg_sl ([.ref (G 0), .int (nI 3), .int (nI xa), .int (nI xb), .int (nI xc)]) ++ List.replicate (6 - (lg_sl ([.ref (G 0), .int (nI 3), .int (nI xa), .int (nI xb), .int (nI xc)])).length) Slot.unset).toArray = ls at hl ⊢
  have hl : lv_has ls 6 [(0, .ref (G 0)), (1, .int (nI 3)), (2, .int (nI xa)), (3, .int (nI xb)), (4, .int (nI xc))] := hl
  have hin_RX11 : ∀ w ∈ u_ws RX11 TX11 8, w ∈ (Cond.code yX11_channel cX11_channel 6 (some .int) :: lwU) := fun w h => mU (sub_RX11 w h)
  have hn4 := hP.n4
  refine lv_iload_n hx hb dX11_channel_0 rfl (lv_at hl 1 rfl) ?_
  refine n_if_lt (tgt := 9) hx hb (by decide) dX11_channel_1 (by decide) ?_
  refine lv_iload_n hx hb dX11_channel_4 rfl (lv_at hl 1 rfl) ?_
  refine lv_iconst (v := nI 3) hx hb dX11_channel_5 (by decide) ?_
  refine n_icmp_le (tgt := 19) hx hb (by first | decide | omega) (by first | decide | omega) dX11_channel_6 (by decide) (fun h_6 => ?_) (fun h_6 => ?_)
  · skip
    refine lv_iload_n hx hb dX11_channel_19 rfl (lv_at hl 1 rfl) ?_
    refine lv_iconst (v := nI 1) hx hb dX11_channel_20 (by decide) ?_
    refine n_icmp_eq (tgt := 29) hx hb (by first | decide | omega) (by first | decide | omega) dX11_channel_21 (by decide) (fun h_21 => ?_) (fun h_21 => ?_)
    · exact absurd h_21 (by first | decide | omega)
    · skip
      refine lv_iload_n hx hb dX11_channel_24 rfl (lv_at hl 1 rfl) ?_
      refine lv_iconst (v := nI 3) hx hb dX11_channel_25 (by decide) ?_
      refine n_icmp_ne (tgt := 60) hx hb (by first | decide | omega) (by first | decide | omega) dX11_channel_26 (by decide) (fun h_26 => ?_) (fun h_26 => ?_)
      · exact absurd h_26 (by first | decide | omega)
      · skip
        refine lv_iload_n hx hb dX11_channel_29 rfl (lv_at hl 2 rfl) ?_
        refine n_if_lt (tgt := 50) hx hb (by omega) dX11_channel_30 (by decide) ?_
        refine lv_iload_n hx hb dX11_channel_33 rfl (lv_at hl 2 rfl) ?_
        refine lv_sipush (v := nI 1000) hx hb dX11_channel_34 (by decide) ?_
        refine n_icmp_gt (tgt := 50) hx hb (by omega) (by omega) dX11_channel_37 (by decide) (fun h_37 => ?_) (fun h_37 => ?_)
        · omega
        · skip
          refine lv_iload_n hx hb dX11_channel_40 rfl (lv_at hl 3 rfl) ?_
          refine n_if_lt (tgt := 50) hx hb (by omega) dX11_channel_41 (by decide) ?_
          refine lv_iload_n hx hb dX11_channel_44 rfl (lv_at hl 3 rfl) ?_
          refine lv_ldc (v := nI 1000000) hx hb C.2.2.2.1 (C.2.2.2.2.1 (.constant RX11 152 (1000000)) (mU mw_615)) dX11_channel_45 ?_
          refine n_icmp_le (tgt := 60) hx hb (by omega) (by omega) dX11_channel_47 (by decide) (fun h_47 => ?_) (fun h_47 => ?_)
          · skip
            refine lv_iload_n hx hb dX11_channel_60 rfl (lv_at hl 1 rfl) ?_
            refine lv_iconst (v := nI 2) hx hb dX11_channel_61 (by decide) ?_
            refine n_icmp_ne (tgt := 111) hx hb (by first | decide | omega) (by first | decide | omega) dX11_channel_62 (by decide) (fun h_62 => ?_) (fun h_62 => ?_)
            · skip
              refine lv_aload_n hx hb dX11_channel_111 rfl (lv_at hl 0 rfl) ?_
              refine p_get C hw (ci := 10) (Cn := RX11) (T := TX11) (N := 8) (hP.mem (k := 0) (by omega)) hP.c0 rfl hin_RX11 1 (by decide) (mU mw_17) rfl rfl dX11_channel_112 ?_
              refine p_calli (va_runV (As := []) (rest := []) C.fix (c_X5_kind l D cy S s.heap.size (G 3) k0 (nI a0) (nI b0) (nI c0) (hP.mem (by omega)) hP.c3) (cwV 0 C.2.2.2.2.1 (gU_V mw_616 mw_617 mw_618 mw_16 sub_X5_kind) rfl rfl rfl hdg_X11_channel3_V_0 ⟨Nat.le_of_ble_eq_true rfl, Nat.le_of_ble_eq_true rfl⟩) (p_preV C hw (hP.mem (k := 3) (by omega)) hP.c3 rfl) rfl rfl hl.1 rfl (lv_room (Nat.le_of_ble_eq_true rfl)) dX11_channel_115 ⟨(Nat.le_of_ble_eq_true rfl), (Nat.le_of_ble_eq_true rfl)⟩) hw hA (fun r2 S1 H locs hpost hw => ?_)
              obtain ⟨hr_, hS_⟩ := hpost
              subst hr_
              subst hS_
              refine lv_istore (lv' := [(5, .int (nI k0)), (0, .ref (G 0)), (1, .int (nI 3)), (2, .int (nI xa)), (3, .int (nI xb)), (4, .int (nI xc))]) hx hb dX11_channel_118 hl (by decide) rfl (fun ls hl => ?_)
              refine lv_aload_n hx hb dX11_channel_120 rfl (lv_at hl 1 rfl) ?_
              refine p_get C hw (ci := 10) (Cn := RX11) (T := TX11) (N := 8) (hP.mem (k := 0) (by omega)) hP.c0 rfl hin_RX11 1 (by decide) (mU mw_17) rfl rfl dX11_channel_121 ?_
              refine lv_iload_n hx hb dX11_channel_124 rfl (lv_at hl 2 rfl) ?_
              refine lv_iload_n hx hb dX11_channel_125 rfl (lv_at hl 3 rfl) ?_
              refine lv_iload_n hx hb dX11_channel_126 rfl (lv_at hl 4 rfl) ?_
              refine lv_iload hx hb dX11_channel_127 (lv_at hl 5 rfl) ?_
              refine p_callv (va_runV (As := [.int (nI 3), .int (nI xa), .int (nI xb), .int (nI xc)]) (rest := []) C.fix (q_become1 l D cy S H.size hP k0 (nI a0) (nI b0) (nI c0) 3 (nI xa) (nI xb) (nI xc) hP.c3) (cwV 4 C.2.2.2.2.1 (gU_V mw_620 mw_621 mw_622 mw_16 sub_X5_become) rfl rfl rfl hdg_X11_channel3_V_1 ⟨Nat.le_of_ble_eq_true rfl, Nat.le_of_ble_eq_true rfl⟩) (p_preV C hw (hP.mem (k := 3) (by omega)) hP.c3 rfl) rfl rfl hl.1 rfl (lv_room (Nat.le_of_ble_eq_true rfl)) dX11_channel_129 ⟨(Nat.le_of_ble_eq_true rfl), (Nat.le_of_ble_eq_true rfl)⟩) hw hA (fun S5 H locs hpost hw => ?_)
              obtain ⟨hP7, hF8⟩ := hpost
              refine lv_aload_n hx hb dX11_channel_132 rfl (lv_at hl 1 rfl) ?_
              refine p_callv (va_runV (As := []) (rest := []) C.fix (g_X11_settle l D cy S5 H.size hP7 xa xb xc (by decide) hxa hxb hxc (fun _ => ⟨rfl, rfl, rfl⟩) (fun _ => ⟨rfl, rfl⟩) hz) (cwV 0 C.2.2.2.2.1 (gU_V mw_172 mw_173 mw_174 mw_2 (subU mw_175)) rfl rfl rfl hdg_X11_channel3_V_2 ⟨Nat.le_of_ble_eq_true rfl, Nat.le_of_ble_eq_true rfl⟩) (p_preV C hw (hP7.mem (k := 0) (by omega)) hP7.c0 rfl) rfl rfl hl.1 rfl (lv_room (Nat.le_of_ble_eq_true rfl)) dX11_channel_133 ⟨(Nat.le_of_ble_eq_true rfl), (Nat.le_of_ble_eq_true rfl)⟩) hw hA (fun S9 H locs hpost hw => ?_)
              obtain ⟨V13, hP11, hF12, hK14⟩ := hpost
              have hT15 := hF8.trans hF12
              refine lv_iload hx hb dX11_channel_136 (lv_at hl 0 rfl) ?_
              exact (p_iret C hw ⟨V13, rfl, hP11, hT15, hK14⟩ hr hlocks dX11_channel_138)
            · exact absurd h_62 (by first | decide | omega)
          · omega
  · exact absurd h_6 (by first | decide | omega)

theorem hdg_X11_mark_V_0 : yX7_turn.cls = RX7 ∧ yX7_turn.cls ≠ "java/lang/invoke/MethodHandle" ∧ yX7_turn.cls ≠ "java/lang/invoke/VarHandle" ∧ (parseMethodDescriptor yX7_turn.desc).map (fun d => d.parameters.length) = some 1 := by decide +kernel
theorem hdg_X11_mark_V_1 : yX11_settle.cls = RX11 ∧ yX11_settle.cls ≠ "java/lang/invoke/MethodHandle" ∧ yX11_settle.cls ≠ "java/lang/invoke/VarHandle" ∧ (parseMethodDescriptor yX11_settle.desc).map (fun d => d.parameters.length) = some 0 := by decide +kernel
theorem hdg_X11_mark_V_2 : yX7_ones.cls = RX7 ∧ yX7_ones.cls ≠ "java/lang/invoke/MethodHandle" ∧ yX7_ones.cls ≠ "java/lang/invoke/VarHandle" ∧ (parseMethodDescriptor yX7_ones.desc).map (fun d => d.parameters.length) = some 0 := by decide +kernel
set_option maxHeartbeats 4000000 in
set_option maxRecDepth 100000 in
theorem g_X11_mark (l : Launch) (D : va_G) (cy : Nat → ClassId) (S : pS) (sz : Nat) {G T : Nat → Nat} {n : Nat} {ws : Nat → WV} {l2 : va_E} {V : RV} {k0 a0 b0 c0 : Nat} (hP : Pic cy S G T n ws (.inr (5, [.int (nI k0), .int (nI a0), .int (nI b0), .int (nI c0)])) l2 V) (hk : k0 ≤ 3) (hla : a0 < 2 ^ 30) (hlb : b0 < 2 ^ 30) (hlc : c0 < 2 ^ 30) (pp : Nat) (hp : pp < 320) (hz : ∀ j, j ≤ n → cz ws (V.1 0) j ≤ 320) : Met l yX11_mark (Cond.code yX11_mark cX11_mark 2 (some .int) :: lwU) ({ frames := 6, cells := 0, slots := 0, locals := 144 }) (pPc D cy S sz [.ref (G 0), .int (nI pp)]) (pQi D cy S sz (fun r S' => ∃ (x : Nat) (V' : RV), r = nI x ∧ Pic cy S' G T n ws (.inr (5, [.int (nI k0), .int (nI a0), .int (nI b0), .int (nI c0)])) l2 V' ∧ Frm G S S' ∧ Stl n ws k0 a0 b0 c0 V' ∧ V'.1 0 = V.1 0 ∧ V'.2 0 = V.2 0)) 0 0 (pA S sz) := by
  refine Met.ofW (cc := cX11_mark) (maxL := 2) (ret := (some .int)) (by decide) rfl ?_
  intro p e s m args below meth c s₁ B hml hv
  obtain ⟨rfl, rfl, C, hw, hA, hr, hlocks⟩ := p_start B hml hv
  have hx := C.1
  have hb := C.2.1
  have hl := lv_entry ([.ref (G 0), .int (nI pp)]) (n := 2) (Nat.le_of_ble_eq_true rfl)
  rw [lg_entry_eq]
  generalize (lg_sl ([.ref (G 0), .int (nI pp)]) ++ List.replicate (2 - (lg_sl ([.ref (G 0), .int (nI pp)])).length) Slot.unset).toArray = ls at hl ⊢
  have hl : lv_has ls 2 [(0, .ref (G 0)), (1, .int (nI pp))] := hl
  have hin_RX11 : ∀ w ∈ u_ws RX11 TX11 8, w ∈ (Cond.code yX11_mark cX11_mark 2 (some .int) :: lwU) := fun w h => mU (sub_RX11 w h)
  have hn4 := hP.n4
  refine lv_iload_n hx hb dX11_mark_0 rfl (lv_at hl 1 rfl) ?_
  refine n_if_lt (tgt := 11) hx hb (by omega) dX11_mark_1 (by decide) ?_
  refine lv_iload_n hx hb dX11_mark_4 rfl (lv_at hl 1 rfl) ?_
  refine lv_sipush (v := nI 320) hx hb dX11_mark_5 (by decide) ?_
  refine n_icmp_lt (tgt := 21) hx hb (by omega) (by omega) dX11_mark_8 (by decide) (fun h_8 => ?_) (fun h_8 => ?_)
  · skip
    refine lv_aload_n hx hb dX11_mark_21 rfl (lv_at hl 0 rfl) ?_
    refine p_get C hw (ci := 10) (Cn := RX11) (T := TX11) (N := 8) (hP.mem (k := 0) (by omega)) hP.c0 rfl hin_RX11 3 (by decide) (mU mw_22) rfl rfl dX11_mark_22 ?_
    refine lv_iload_n hx hb dX11_mark_25 rfl (lv_at hl 1 rfl) ?_
    refine p_callv (va_runV (As := [.int (nI pp)]) (rest := []) C.fix (q_turn l D cy S s.heap.size hP 15 pp (by omega) (by omega)) (cwV 1 C.2.2.2.2.1 (gU_V mw_598 mw_266 mw_267 mw_21 sub_X7_turn) rfl rfl rfl hdg_X11_mark_V_0 ⟨Nat.le_of_ble_eq_true rfl, Nat.le_of_ble_eq_true rfl⟩) (p_preV C hw (hP.mem (k := 21 + 15) (by omega)) (hP.rh (r := 15) (by omega)) rfl) rfl rfl hl.1 rfl (lv_room (Nat.le_of_ble_eq_true rfl)) dX11_mark_26 ⟨(Nat.le_of_ble_eq_true rfl), (Nat.le_of_ble_eq_true rfl)⟩) hw hA (fun S1 H locs hpost hw => ?_)
    obtain ⟨hP3, hF4⟩ := hpost
    obtain ⟨V5, hV5⟩ : ∃ z : RV, z = (V.1, va_up V.2 15 (rturn (V.2 15) (V.1 15) pp)) := ⟨_, rfl⟩
    rw [← hV5] at hP3
    have he0 : V5.1 0 = V.1 0 ∧ V5.2 0 = V.2 0 := by rw [hV5]; refine ⟨rfl, ?_⟩; simp only [va_up_ne _ _ (show 0 ≠ 15 by decide)]
    refine lv_aload_n hx hb dX11_mark_29 rfl (lv_at hl 0 rfl) ?_
    refine p_callv (va_runV (As := []) (rest := []) C.fix (g_X11_settle l D cy S1 H.size hP3 a0 b0 c0 hk hla hlb hlc (fun _ => ⟨rfl, rfl, rfl⟩) (fun _ => ⟨rfl, rfl⟩) (fun j hj => by rw [he0.1]; exact hz j hj)) (cwV 0 C.2.2.2.2.1 (gU_V mw_172 mw_173 mw_174 mw_2 (subU mw_175)) rfl rfl rfl hdg_X11_mark_V_1 ⟨Nat.le_of_ble_eq_true rfl, Nat.le_of_ble_eq_true rfl⟩) (p_preV C hw (hP3.mem (k := 0) (by omega)) hP3.c0 rfl) rfl rfl hl.1 rfl (lv_room (Nat.le_of_ble_eq_true rfl)) dX11_mark_30 ⟨(Nat.le_of_ble_eq_true rfl), (Nat.le_of_ble_eq_true rfl)⟩) hw hA (fun S6 H locs hpost hw => ?_)
    obtain ⟨V10, hP8, hF9, hK11⟩ := hpost
    have hT12 := hF4.trans hF9
    refine lv_aload_n hx hb dX11_mark_33 rfl (lv_at hl 0 rfl) ?_
    refine p_get C hw (ci := 10) (Cn := RX11) (T := TX11) (N := 8) (hP8.mem (k := 0) (by omega)) hP8.c0 rfl hin_RX11 3 (by decide) (mU mw_22) rfl rfl dX11_mark_34 ?_
    refine p_calli (va_runV (As := []) (rest := []) C.fix (c_X7_ones l D cy S6 H.size (G (21 + 15)) (G (37 + 15)) (gcap 15) (V10.1 15) (V10.2 15) (hP8.mem (by omega)) (hP8.rh (r := 15) (by omega)) (hP8.mem (by omega)) (hP8.rb (r := 15) (by omega)) (gcap_27 _) (hP8.rn (by omega)) (hP8.rg2 (by omega))) (cwV 0 C.2.2.2.2.1 (gU_V mw_628 mw_629 mw_630 mw_21 sub_X7_ones) rfl rfl rfl hdg_X11_mark_V_2 ⟨Nat.le_of_ble_eq_true rfl, Nat.le_of_ble_eq_true rfl⟩) (p_preV C hw (hP8.mem (k := 21 + 15) (by omega)) (hP8.rh (r := 15) (by omega)) rfl) rfl rfl hl.1 rfl (lv_room (Nat.le_of_ble_eq_true rfl)) dX11_mark_37 ⟨(Nat.le_of_ble_eq_true rfl), (Nat.le_of_ble_eq_true rfl)⟩) hw hA (fun r14 S13 H locs hpost hw => ?_)
    obtain ⟨hr_, hS_⟩ := hpost
    subst hr_
    subst hS_
    exact (p_iret C hw ⟨_, V10, rfl, hP8, hT12, hK11.1, hK11.2.1.trans he0.1, hK11.2.2.1.trans he0.2⟩ hr hlocks dX11_mark_40)
  · omega

theorem hdg_X11_drop_V_0 : yX1_count.cls = RX1 ∧ yX1_count.cls ≠ "java/lang/invoke/MethodHandle" ∧ yX1_count.cls ≠ "java/lang/invoke/VarHandle" ∧ (parseMethodDescriptor yX1_count.desc).map (fun d => d.parameters.length) = some 0 := by decide +kernel
theorem hdg_X11_drop_V_1 : yX1_removeLast.cls = RX1 ∧ yX1_removeLast.cls ≠ "java/lang/invoke/MethodHandle" ∧ yX1_removeLast.cls ≠ "java/lang/invoke/VarHandle" ∧ (parseMethodDescriptor yX1_removeLast.desc).map (fun d => d.parameters.length) = some 0 := by decide +kernel
theorem hdg_X11_drop_V_2 : yX11_settle.cls = RX11 ∧ yX11_settle.cls ≠ "java/lang/invoke/MethodHandle" ∧ yX11_settle.cls ≠ "java/lang/invoke/VarHandle" ∧ (parseMethodDescriptor yX11_settle.desc).map (fun d => d.parameters.length) = some 0 := by decide +kernel
set_option maxHeartbeats 4000000 in
set_option maxRecDepth 100000 in
theorem g_X11_drop (l : Launch) (D : va_G) (cy : Nat → ClassId) (S : pS) (sz : Nat) {G T : Nat → Nat} {n1 : Nat} {ws : Nat → WV} {l2 : va_E} {V : RV} {k0 a0 b0 c0 : Nat} (hP : Pic cy S G T (n1 + 1) ws (.inr (5, [.int (nI k0), .int (nI a0), .int (nI b0), .int (nI c0)])) l2 V) (hk : k0 ≤ 3) (hla : a0 < 2 ^ 30) (hlb : b0 < 2 ^ 30) (hlc : c0 < 2 ^ 30) (hz : ∀ j, j ≤ n1 → cz ws (V.1 0) j ≤ 320) : Met l yX11_drop (Cond.code yX11_drop cX11_drop 1 (some .int) :: lwU) ({ frames := 6, cells := 0, slots := 0, locals := 144 }) (pPc D cy S sz [.ref (G 0)]) (pQi D cy S sz (fun r S' => ∃ V', r = nI n1 ∧ Pic cy S' G T n1 ws (.inr (5, [.int (nI k0), .int (nI a0), .int (nI b0), .int (nI c0)])) l2 V' ∧ Frm G S S' ∧ Nw n1 ws k0 a0 b0 c0 V V')) 0 0 (pA S sz) := by
  refine Met.ofW (cc := cX11_drop) (maxL := 1) (ret := (some .int)) (by decide) rfl ?_
  intro p e s m args below meth c s₁ B hml hv
  obtain ⟨rfl, rfl, C, hw, hA, hr, hlocks⟩ := p_start B hml hv
  have hx := C.1
  have hb := C.2.1
  have hl := lv_entry ([.ref (G 0)]) (n := 1) (Nat.le_of_ble_eq_true rfl)
  rw [lg_entry_eq]
  generalize (lg_sl ([.ref (G 0)]) ++ List.replicate (1 - (lg_sl ([.ref (G 0)])).length) Slot.unset).toArray = ls at hl ⊢
  have hl : lv_has ls 1 [(0, .ref (G 0))] := hl
  have hin_RX11 : ∀ w ∈ u_ws RX11 TX11 8, w ∈ (Cond.code yX11_drop cX11_drop 1 (some .int) :: lwU) := fun w h => mU (sub_RX11 w h)
  have hn4 := hP.n4
  refine lv_aload_n hx hb dX11_drop_0 rfl (lv_at hl 0 rfl) ?_
  refine p_get C hw (ci := 10) (Cn := RX11) (T := TX11) (N := 8) (hP.mem (k := 0) (by omega)) hP.c0 rfl hin_RX11 0 (by decide) (mU mw_13) rfl rfl dX11_drop_1 ?_
  refine p_calli (va_runV (As := []) (rest := []) C.fix (c_X1_count l D cy S s.heap.size (G 1) (G 2) (n1 + 1) (hP.mem (by omega)) hP.c1) (cwV 0 C.2.2.2.2.1 (gU_V mw_245 mw_246 mw_247 mw_12 sub_X1_count) rfl rfl rfl hdg_X11_drop_V_0 ⟨Nat.le_of_ble_eq_true rfl, Nat.le_of_ble_eq_true rfl⟩) (p_preV C hw (hP.mem (k := 1) (by omega)) hP.c1 rfl) rfl rfl hl.1 rfl (lv_room (Nat.le_of_ble_eq_true rfl)) dX11_drop_4 ⟨(Nat.le_of_ble_eq_true rfl), (Nat.le_of_ble_eq_true rfl)⟩) hw hA (fun r2 S1 H locs hpost hw => ?_)
  obtain ⟨hr_, hS_⟩ := hpost
  subst hr_
  subst hS_
  refine n_if_ne (tgt := 20) hx hb (by omega) dX11_drop_7 (by decide) (fun h_7 => ?_) (fun h_7 => ?_)
  · skip
    refine lv_aload_n hx hb dX11_drop_20 rfl (lv_at hl 0 rfl) ?_
    refine p_get C hw (ci := 10) (Cn := RX11) (T := TX11) (N := 8) (hP.mem (k := 0) (by omega)) hP.c0 rfl hin_RX11 0 (by decide) (mU mw_13) rfl rfl dX11_drop_21 ?_
    refine p_callv (va_runV (As := []) (rest := []) C.fix (q_removeLast l D cy S H.size hP) (cwV 0 C.2.2.2.2.1 (gU_V mw_653 mw_654 mw_655 mw_12 sub_X1_removeLast) rfl rfl rfl hdg_X11_drop_V_1 ⟨Nat.le_of_ble_eq_true rfl, Nat.le_of_ble_eq_true rfl⟩) (p_preV C hw (hP.mem (k := 1) (by omega)) hP.c1 rfl) rfl rfl hl.1 rfl (lv_room (Nat.le_of_ble_eq_true rfl)) dX11_drop_24 ⟨(Nat.le_of_ble_eq_true rfl), (Nat.le_of_ble_eq_true rfl)⟩) hw hA (fun S5 H locs hpost hw => ?_)
    obtain ⟨hP7, hF8⟩ := hpost
    refine lv_aload_n hx hb dX11_drop_27 rfl (lv_at hl 0 rfl) ?_
    refine p_callv (va_runV (As := []) (rest := []) C.fix (g_X11_settle l D cy S5 H.size hP7 a0 b0 c0 hk hla hlb hlc (fun _ => ⟨rfl, rfl, rfl⟩) (fun _ => ⟨rfl, rfl⟩) hz) (cwV 0 C.2.2.2.2.1 (gU_V mw_172 mw_173 mw_174 mw_2 (subU mw_175)) rfl rfl rfl hdg_X11_drop_V_2 ⟨Nat.le_of_ble_eq_true rfl, Nat.le_of_ble_eq_true rfl⟩) (p_preV C hw (hP7.mem (k := 0) (by omega)) hP7.c0 rfl) rfl rfl hl.1 rfl (lv_room (Nat.le_of_ble_eq_true rfl)) dX11_drop_28 ⟨(Nat.le_of_ble_eq_true rfl), (Nat.le_of_ble_eq_true rfl)⟩) hw hA (fun S9 H locs hpost hw => ?_)
    obtain ⟨V13, hP11, hF12, hK14⟩ := hpost
    have hT15 := hF8.trans hF12
    refine lv_aload_n hx hb dX11_drop_31 rfl (lv_at hl 0 rfl) ?_
    refine p_get C hw (ci := 10) (Cn := RX11) (T := TX11) (N := 8) (hP11.mem (k := 0) (by omega)) hP11.c0 rfl hin_RX11 0 (by decide) (mU mw_13) rfl rfl dX11_drop_32 ?_
    refine p_calli (va_runV (As := []) (rest := []) C.fix (c_X1_count l D cy S9 H.size (G 1) (G 2) n1 (hP11.mem (by omega)) hP11.c1) (cwV 0 C.2.2.2.2.1 (gU_V mw_245 mw_246 mw_247 mw_12 sub_X1_count) rfl rfl rfl hdg_X11_drop_V_0 ⟨Nat.le_of_ble_eq_true rfl, Nat.le_of_ble_eq_true rfl⟩) (p_preV C hw (hP11.mem (k := 1) (by omega)) hP11.c1 rfl) rfl rfl hl.1 rfl (lv_room (Nat.le_of_ble_eq_true rfl)) dX11_drop_35 ⟨(Nat.le_of_ble_eq_true rfl), (Nat.le_of_ble_eq_true rfl)⟩) hw hA (fun r17 S16 H locs hpost hw => ?_)
    obtain ⟨hr_, hS_⟩ := hpost
    subst hr_
    subst hS_
    exact (p_iret C hw ⟨V13, rfl, hP11, hT15, hK14⟩ hr hlocks dX11_drop_38)
  · omega

theorem hdg_X11_putBehind_V_0 : yX1_count.cls = RX1 ∧ yX1_count.cls ≠ "java/lang/invoke/MethodHandle" ∧ yX1_count.cls ≠ "java/lang/invoke/VarHandle" ∧ (parseMethodDescriptor yX1_count.desc).map (fun d => d.parameters.length) = some 0 := by decide +kernel
theorem hdg_X11_putBehind_V_1 : yX11_last.cls = RX11 ∧ yX11_last.cls ≠ "java/lang/invoke/MethodHandle" ∧ yX11_last.cls ≠ "java/lang/invoke/VarHandle" ∧ (parseMethodDescriptor yX11_last.desc).map (fun d => d.parameters.length) = some 1 := by decide +kernel
theorem hdg_X11_putBehind_V_2 : yX7_size.cls = RX7 ∧ yX7_size.cls ≠ "java/lang/invoke/MethodHandle" ∧ yX7_size.cls ≠ "java/lang/invoke/VarHandle" ∧ (parseMethodDescriptor yX7_size.desc).map (fun d => d.parameters.length) = some 0 := by decide +kernel
theorem hdg_X11_putBehind_V_3 : yX1_append.cls = RX1 ∧ yX1_append.cls ≠ "java/lang/invoke/MethodHandle" ∧ yX1_append.cls ≠ "java/lang/invoke/VarHandle" ∧ (parseMethodDescriptor yX1_append.desc).map (fun d => d.parameters.length) = some 1 := by decide +kernel
theorem hdg_X11_putBehind_V_4 : yX11_settle.cls = RX11 ∧ yX11_settle.cls ≠ "java/lang/invoke/MethodHandle" ∧ yX11_settle.cls ≠ "java/lang/invoke/VarHandle" ∧ (parseMethodDescriptor yX11_settle.desc).map (fun d => d.parameters.length) = some 0 := by decide +kernel
set_option maxHeartbeats 4000000 in
set_option maxRecDepth 100000 in
theorem g_X11_putBehind (l : Launch) (D : va_G) (cy : Nat → ClassId) (S : pS) (sz : Nat) {G T : Nat → Nat} {n : Nat} {ws : Nat → WV} {l2 : va_E} {V : RV} {k0 a0 b0 c0 : Nat} {T1 : Nat → Nat} {ws1 : Nat → WV} (hP : Pic cy S G T n ws (.inr (5, [.int (nI k0), .int (nI a0), .int (nI b0), .int (nI c0)])) l2 V) (hk : k0 ≤ 3) (hla : a0 < 2 ^ 30) (hlb : b0 < 2 ^ 30) (hlc : c0 < 2 ^ 30) (v : Nat) (hvv : T1 (2 * n) = v) (hn : n < 4) (hT : ∀ k, k < 2 * n → T1 k = T k) (hw1 : ∀ k, k < n → ws1 k = ws k) (hst : gStg cy S G T1 (ws1 n) n) (hne : ∀ i, i < 53 → T1 (2 * n) ≠ G i ∧ T1 (2 * n + 1) ≠ G i) (hzz : sSize (ws1 n) (V.1 n) ≤ 320) (hC : Cod ws n V) : Met l yX11_putBehind (Cond.code yX11_putBehind cX11_putBehind 2 (some .int) :: lwU) ({ frames := 6, cells := 0, slots := 0, locals := 144 }) (pPc D cy S sz [.ref (G 0), .ref v]) (pQi D cy S sz (fun r S' => ∃ V', r = nI (V'.1 (n + 1)) ∧ Pic cy S' G T1 (n + 1) ws1 (.inr (5, [.int (nI k0), .int (nI a0), .int (nI b0), .int (nI c0)])) l2 V' ∧ Frm G S S' ∧ Nw (n + 1) ws1 k0 a0 b0 c0 V V')) 0 0 (pA S sz) := by
  refine Met.ofW (cc := cX11_putBehind) (maxL := 2) (ret := (some .int)) (by decide) rfl ?_
  intro p e s m args below meth c s₁ B hml hv
  obtain ⟨rfl, rfl, C, hw, hA, hr, hlocks⟩ := p_start B hml hv
  have hx := C.1
  have hb := C.2.1
  have hl := lv_entry ([.ref (G 0), .ref v]) (n := 2) (Nat.le_of_ble_eq_true rfl)
  rw [lg_entry_eq]
  generalize (lg_sl ([.ref (G 0), .ref v]) ++ List.replicate (2 - (lg_sl ([.ref (G 0), .ref v])).length) Slot.unset).toArray = ls at hl ⊢
  have hl : lv_has ls 2 [(0, .ref (G 0)), (1, .ref v)] := hl
  have hin_RX11 : ∀ w ∈ u_ws RX11 TX11 8, w ∈ (Cond.code yX11_putBehind cX11_putBehind 2 (some .int) :: lwU) := fun w h => mU (sub_RX11 w h)
  have hn4 := hP.n4
  subst hvv
  have h320 := hP.r320 (r := n) (by omega)
  refine lv_aload_n hx hb dX11_putBehind_0 rfl (lv_at hl 0 rfl) ?_
  refine p_get C hw (ci := 10) (Cn := RX11) (T := TX11) (N := 8) (hP.mem (k := 0) (by omega)) hP.c0 rfl hin_RX11 0 (by decide) (mU mw_13) rfl rfl dX11_putBehind_1 ?_
  refine p_calli (va_runV (As := []) (rest := []) C.fix (c_X1_count l D cy S s.heap.size (G 1) (G 2) n (hP.mem (by omega)) hP.c1) (cwV 0 C.2.2.2.2.1 (gU_V mw_245 mw_246 mw_247 mw_12 sub_X1_count) rfl rfl rfl hdg_X11_putBehind_V_0 ⟨Nat.le_of_ble_eq_true rfl, Nat.le_of_ble_eq_true rfl⟩) (p_preV C hw (hP.mem (k := 1) (by omega)) hP.c1 rfl) rfl rfl hl.1 rfl (lv_room (Nat.le_of_ble_eq_true rfl)) dX11_putBehind_4 ⟨(Nat.le_of_ble_eq_true rfl), (Nat.le_of_ble_eq_true rfl)⟩) hw hA (fun r2 S1 H locs hpost hw => ?_)
  obtain ⟨hr_, hS_⟩ := hpost
  subst hr_
  subst hS_
  refine lv_iconst (v := nI 4) hx hb dX11_putBehind_7 (by decide) ?_
  refine n_icmp_lt (tgt := 22) hx hb (by omega) (by omega) dX11_putBehind_8 (by decide) (fun h_8 => ?_) (fun h_8 => ?_)
  · skip
    refine lv_aload_n hx hb dX11_putBehind_22 rfl (lv_at hl 1 rfl) ?_
    refine lv_aload_n hx hb dX11_putBehind_23 rfl (lv_at hl 0 rfl) ?_
    refine lv_aload_n hx hb dX11_putBehind_24 rfl (lv_at hl 0 rfl) ?_
    refine p_get C hw (ci := 10) (Cn := RX11) (T := TX11) (N := 8) (hP.mem (k := 0) (by omega)) hP.c0 rfl hin_RX11 4 (by decide) (mU mw_26) rfl rfl dX11_putBehind_25 ?_
    refine p_callq (va_runV (As := [.ref (G 9)]) (rest := [.ref (T1 (2 * n))]) C.fix (g_X11_last0 l D cy S H.size hP) (cwV 1 C.2.2.2.2.1 (gU_V mw_241 mw_242 mw_243 mw_2 (subU mw_244)) rfl rfl rfl hdg_X11_putBehind_V_1 ⟨Nat.le_of_ble_eq_true rfl, Nat.le_of_ble_eq_true rfl⟩) (p_preV C hw (hP.mem (k := 0) (by omega)) hP.c0 rfl) rfl rfl hl.1 rfl (lv_room (Nat.le_of_ble_eq_true rfl)) dX11_putBehind_28 ⟨(Nat.le_of_ble_eq_true rfl), (Nat.le_of_ble_eq_true rfl)⟩) hw hA (fun r6 S5 H locs hpost hw => ?_)
    obtain ⟨hr_, hS_⟩ := hpost
    subst hr_
    subst hS_
    refine p_calli (va_runV (As := []) (rest := [.ref (T1 (2 * n))]) C.fix (c_X7_size l D cy S H.size (G (21 + n)) (G (37 + n)) (V.1 n) (hP.mem (by omega)) (hP.rh (r := n) (by omega))) (cwV 0 C.2.2.2.2.1 (gU_V mw_115 mw_116 mw_117 mw_21 sub_X7_size) rfl rfl rfl hdg_X11_putBehind_V_2 ⟨Nat.le_of_ble_eq_true rfl, Nat.le_of_ble_eq_true rfl⟩) (p_preV C hw (hP.mem (k := 21 + n) (by omega)) (hP.rh (r := n) (by omega)) rfl) rfl rfl hl.1 rfl (lv_room (Nat.le_of_ble_eq_true rfl)) dX11_putBehind_31 ⟨(Nat.le_of_ble_eq_true rfl), (Nat.le_of_ble_eq_true rfl)⟩) hw hA (fun r10 S9 H locs hpost hw => ?_)
    obtain ⟨hr_, hS_⟩ := hpost
    subst hr_
    subst hS_
    refine p_calli (v_sizeOf C hw hl.1 (j := n) hst (V.1 n) (by omega) mw_420 ⟨Nat.le_of_ble_eq_true rfl, Nat.le_of_ble_eq_true rfl⟩ ⟨(Nat.le_of_ble_eq_true rfl), (Nat.le_of_ble_eq_true rfl)⟩ (Nat.le_of_ble_eq_true rfl) dX11_putBehind_34) hw hA (fun r14 S13 H locs hpost hw => ?_)
    obtain ⟨hr_, hS_⟩ := hpost
    subst hr_
    subst hS_
    refine lv_sipush (v := nI 320) hx hb dX11_putBehind_37 (by decide) ?_
    refine n_icmp_le (tgt := 53) hx hb (by omega) (by omega) dX11_putBehind_40 (by decide) (fun h_40 => ?_) (fun h_40 => ?_)
    · skip
      refine lv_aload_n hx hb dX11_putBehind_53 rfl (lv_at hl 0 rfl) ?_
      refine p_get C hw (ci := 10) (Cn := RX11) (T := TX11) (N := 8) (hP.mem (k := 0) (by omega)) hP.c0 rfl hin_RX11 0 (by decide) (mU mw_13) rfl rfl dX11_putBehind_54 ?_
      refine lv_aload_n hx hb dX11_putBehind_57 rfl (lv_at hl 1 rfl) ?_
      refine p_callv (va_runV (As := [.ref (T1 (2 * n))]) (rest := []) C.fix (q_append l D cy S H.size hP hn hT hw1 hst hne) (cwV 1 C.2.2.2.2.1 (gU_V mw_421 mw_422 mw_423 mw_12 sub_X1_append) rfl rfl rfl hdg_X11_putBehind_V_3 ⟨Nat.le_of_ble_eq_true rfl, Nat.le_of_ble_eq_true rfl⟩) (p_preV C hw (hP.mem (k := 1) (by omega)) hP.c1 rfl) rfl rfl hl.1 rfl (lv_room (Nat.le_of_ble_eq_true rfl)) dX11_putBehind_58 ⟨(Nat.le_of_ble_eq_true rfl), (Nat.le_of_ble_eq_true rfl)⟩) hw hA (fun S17 H locs hpost hw => ?_)
      obtain ⟨hP19, hF20⟩ := hpost
      have hn4 := hP19.n4
      refine lv_aload_n hx hb dX11_putBehind_61 rfl (lv_at hl 0 rfl) ?_
      refine p_callv (va_runV (As := []) (rest := []) C.fix (g_X11_settle l D cy S17 H.size hP19 a0 b0 c0 hk hla hlb hlc (fun _ => ⟨rfl, rfl, rfl⟩) (fun _ => ⟨rfl, rfl⟩) (cz_app hw1 hC hP.z320 hzz)) (cwV 0 C.2.2.2.2.1 (gU_V mw_172 mw_173 mw_174 mw_2 (subU mw_175)) rfl rfl rfl hdg_X11_putBehind_V_4 ⟨Nat.le_of_ble_eq_true rfl, Nat.le_of_ble_eq_true rfl⟩) (p_preV C hw (hP19.mem (k := 0) (by omega)) hP19.c0 rfl) rfl rfl hl.1 rfl (lv_room (Nat.le_of_ble_eq_true rfl)) dX11_putBehind_62 ⟨(Nat.le_of_ble_eq_true rfl), (Nat.le_of_ble_eq_true rfl)⟩) hw hA (fun S21 H locs hpost hw => ?_)
      obtain ⟨V25, hP23, hF24, hK26⟩ := hpost
      have hT27 := hF20.trans hF24
      refine lv_aload_n hx hb dX11_putBehind_65 rfl (lv_at hl 0 rfl) ?_
      refine lv_aload_n hx hb dX11_putBehind_66 rfl (lv_at hl 0 rfl) ?_
      refine p_get C hw (ci := 10) (Cn := RX11) (T := TX11) (N := 8) (hP23.mem (k := 0) (by omega)) hP23.c0 rfl hin_RX11 4 (by decide) (mU mw_26) rfl rfl dX11_putBehind_67 ?_
      refine p_callq (va_runV (As := [.ref (G 9)]) (rest := []) C.fix (g_X11_last0 l D cy S21 H.size hP23) (cwV 1 C.2.2.2.2.1 (gU_V mw_241 mw_242 mw_243 mw_2 (subU mw_244)) rfl rfl rfl hdg_X11_putBehind_V_1 ⟨Nat.le_of_ble_eq_true rfl, Nat.le_of_ble_eq_true rfl⟩) (p_preV C hw (hP23.mem (k := 0) (by omega)) hP23.c0 rfl) rfl rfl hl.1 rfl (lv_room (Nat.le_of_ble_eq_true rfl)) dX11_putBehind_70 ⟨(Nat.le_of_ble_eq_true rfl), (Nat.le_of_ble_eq_true rfl)⟩) hw hA (fun r29 S28 H locs hpost hw => ?_)
      obtain ⟨hr_, hS_⟩ := hpost
      subst hr_
      subst hS_
      refine p_calli (va_runV (As := []) (rest := []) C.fix (c_X7_size l D cy S21 H.size (G (21 + (n + 1))) (G (37 + (n + 1))) (V25.1 (n + 1)) (hP23.mem (by omega)) (hP23.rh (r := (n + 1)) (by omega))) (cwV 0 C.2.2.2.2.1 (gU_V mw_115 mw_116 mw_117 mw_21 sub_X7_size) rfl rfl rfl hdg_X11_putBehind_V_2 ⟨Nat.le_of_ble_eq_true rfl, Nat.le_of_ble_eq_true rfl⟩) (p_preV C hw (hP23.mem (k := 21 + (n + 1)) (by omega)) (hP23.rh (r := (n + 1)) (by omega)) rfl) rfl rfl hl.1 rfl (lv_room (Nat.le_of_ble_eq_true rfl)) dX11_putBehind_73 ⟨(Nat.le_of_ble_eq_true rfl), (Nat.le_of_ble_eq_true rfl)⟩) hw hA (fun r33 S32 H locs hpost hw => ?_)
      obtain ⟨hr_, hS_⟩ := hpost
      subst hr_
      subst hS_
      exact (p_iret C hw ⟨V25, rfl, hP23, hT27, hK26⟩ hr hlocks dX11_putBehind_76)
    · omega
  · omega

theorem hdg_X11_repeat_V_0 : yX11_putBehind.cls = RX11 ∧ yX11_putBehind.cls ≠ "java/lang/invoke/MethodHandle" ∧ yX11_putBehind.cls ≠ "java/lang/invoke/VarHandle" ∧ (parseMethodDescriptor yX11_putBehind.desc).map (fun d => d.parameters.length) = some 1 := by decide +kernel
set_option maxHeartbeats 4000000 in
set_option maxRecDepth 100000 in
theorem g_X11_repeat (l : Launch) (D : va_G) (cy : Nat → ClassId) (S : pS) (sz : Nat) {G T : Nat → Nat} {n : Nat} {ws : Nat → WV} {l2 : va_E} {V : RV} {k0 a0 b0 c0 : Nat} (hP : Pic cy S G T n ws (.inr (5, [.int (nI k0), .int (nI a0), .int (nI b0), .int (nI c0)])) l2 V) (hk : k0 ≤ 3) (hla : a0 < 2 ^ 30) (hlb : b0 < 2 ^ 30) (hlc : c0 < 2 ^ 30) (t : Nat) (h1 : 2 ≤ t) (h2 : t ≤ 5) (hn : n < 4) (hzz : sSize ((0, t, 0, fun _ => 0)) (V.1 n) ≤ 320) (hC : Cod ws n V) : Met l yX11_repeat (Cond.code yX11_repeat cX11_repeat 2 (some .int) :: lwU) ({ frames := 7, cells := 1, slots := 1, locals := 165 }) (pPc D cy S sz [.ref (G 0), .int (nI t)]) (pQi D cy S sz (fun r S' => ∃ (T' : Nat → Nat) (ws' : Nat → WV) (V' : RV), r = nI (V'.1 (n + 1)) ∧ Pic cy S' G T' (n + 1) ws' (.inr (5, [.int (nI k0), .int (nI a0), .int (nI b0), .int (nI c0)])) l2 V' ∧ Frm G S S' ∧ Nw (n + 1) ws' k0 a0 b0 c0 V V' ∧ ws' n = ((0, t, 0, fun _ => 0)) ∧ ∀ k, k < n → ws' k = ws k)) 1 1 (pA S sz) := by
  refine Met.ofW (cc := cX11_repeat) (maxL := 2) (ret := (some .int)) (by decide) rfl ?_
  intro p e s m args below meth c s₁ B hml hv
  obtain ⟨rfl, rfl, C, hw, hA, hr, hlocks⟩ := p_start B hml hv
  have hx := C.1
  have hb := C.2.1
  have hl := lv_entry ([.ref (G 0), .int (nI t)]) (n := 2) (Nat.le_of_ble_eq_true rfl)
  rw [lg_entry_eq]
  generalize (lg_sl ([.ref (G 0), .int (nI t)]) ++ List.replicate (2 - (lg_sl ([.ref (G 0), .int (nI t)])).length) Slot.unset).toArray = ls at hl ⊢
  have hl : lv_has ls 2 [(0, .ref (G 0)), (1, .int (nI t))] := hl
  have hin_RX6 : ∀ w ∈ u_ws RX6 TX6 1, w ∈ (Cond.code yX11_repeat cX11_repeat 2 (some .int) :: lwU) := fun w h => mU (sub_RX6 w h)
  have hn4 := hP.n4
  refine lv_iload_n hx hb dX11_repeat_0 rfl (lv_at hl 1 rfl) ?_
  refine lv_iconst (v := nI 2) hx hb dX11_repeat_1 (by decide) ?_
  refine n_icmp_lt (tgt := 10) hx hb (by omega) (by omega) dX11_repeat_2 (by decide) (fun h_2 => ?_) (fun h_2 => ?_)
  · omega
  · skip
    refine lv_iload_n hx hb dX11_repeat_5 rfl (lv_at hl 1 rfl) ?_
    refine lv_iconst (v := nI 5) hx hb dX11_repeat_6 (by decide) ?_
    refine n_icmp_le (tgt := 20) hx hb (by omega) (by omega) dX11_repeat_7 (by decide) (fun h_7 => ?_) (fun h_7 => ?_)
    · skip
      refine lv_aload_n hx hb dX11_repeat_20 rfl (lv_at hl 0 rfl) ?_
      refine p_new C hw hA (ci := 6) (Cn := RX6) (T := TX6) (N := 1) (fs := [.int (nI 0)]) tyX6 tyX6_ok rfl hin_RX6 (mU mw_407) (mU mw_408) (mU mw_145) (fun j hj => by rcases (show j = 0 by omega) with rfl <;> rfl) (Nat.le_of_ble_eq_true rfl) (Nat.le_of_ble_eq_true rfl) dX11_repeat_21 (fun st H hq_st hw => ?_)
      obtain ⟨S1, hS1⟩ : ∃ z, z = pnew S st (.inr (6, [.int (nI 0)])) := ⟨_, rfl⟩
      replace hw : pW D (pA S s.heap.size) s.heap S1 H [] := by rw [hS1]; exact hw
      have hL2 : st ∈ S1.1 := by rw [hS1]; exact List.mem_append_right _ List.mem_cons_self
      have hf3 : S1.2 st = .inr (6, [.int (nI 0)]) := by rw [hS1]; exact pnew_s
      have hP4 := Pic.ext (S' := S1) hP (fun a9 h9 => by rw [hS1]; exact List.mem_append_left _ h9) (fun a9 h9 => by rw [hS1]; exact pnew_n (fun z : a9 = st => hq_st (by rw [← z]; exact h9)))
      refine lv_dup hx hb dX11_repeat_24 rfl ?_
      refine lv_iload_n hx hb dX11_repeat_25 rfl (lv_at hl 1 rfl) ?_
      refine p_callv (va_runI (As := [.int (nI t)]) (rest := [.ref st, .ref (G 0)]) C.fix (c_X6_init l D cy S1 H.size st 0 t hL2 hf3) (cwI 1 C.2.2.2.2.1 (gU_sub sub_X6_init) rfl rfl rfl (C.2.2.2.2.1 (.initialized RX6) (mU mw_145)) (C.2.2.2.2.1 (.methodLink RX11 101 yX6_init) (mU mw_409)) (C.2.2.2.2.1 (.instanceMethod yX6_init) (mU mw_410)) rfl (by decide +kernel) ⟨Nat.le_of_ble_eq_true rfl, Nat.le_of_ble_eq_true rfl⟩) (p_preS C hw) rfl rfl hl.1 rfl (lv_room (Nat.le_of_ble_eq_true rfl)) dX11_repeat_26 ⟨(Nat.le_of_ble_eq_true rfl), (Nat.le_of_ble_eq_true rfl)⟩) hw hA (fun S5 H locs hpost hw => ?_)
      have hS_ := hpost
      have hS7 := hS_
      have hL8 : st ∈ S5.1 := by rw [hS7]; exact hL2
      have hf9 : S5.2 st = .inr (6, [.int (nI t)]) := by rw [hS7]; exact pup_s
      have hSx : S5.1 = S.1 ++ ([st]) := (by simp only [hS7, hS1, pup, pnew, List.append_nil, List.append_assoc, List.cons_append, List.nil_append])
      have hmx : ∀ a, a ∈ S.1 → a ∈ S5.1 := fun a h => by rw [hSx]; exact List.mem_append_left _ h
      have hcx : ∀ a_, a_ ∈ S.1 → S5.2 a_ = S.2 a_ := (fun a_ ha_ => ((show S5.2 a_ = S1.2 a_ from by rw [hS7]; exact pup_n (fun z : a_ = st => hq_st (by rw [← z]; exact ha_))).trans (show S1.2 a_ = S.2 a_ from by rw [hS1]; exact pnew_n (fun z : a_ = st => hq_st (by rw [← z]; exact ha_)))))
      have hPx := hP.ext hmx hcx
      have hFx : Frm G S S5 := ⟨hmx, fun a h _ => hcx a h⟩
      have hT1 : (va_up (va_up T (2 * n) st) (2 * n + 1) st) (2 * n) = st := (va_up_ne _ _ (by omega)).trans (va_up_self _ _ _)
      have hT2 : (va_up (va_up T (2 * n) st) (2 * n + 1) st) (2 * n + 1) = st := va_up_self _ _ _
      have hT3 : ∀ k, k < 2 * n → (va_up (va_up T (2 * n) st) (2 * n + 1) st) k = T k := fun k hk => (va_up_ne _ _ (by omega)).trans (va_up_ne _ _ (by omega))
      have hw1 : (va_up ws n ((0, t, 0, fun _ => 0))) n = ((0, t, 0, fun _ => 0)) := va_up_self _ _ _
      obtain ⟨T1, eT1⟩ : ∃ z, z = va_up (va_up T (2 * n) st) (2 * n + 1) st := ⟨_, rfl⟩
      rw [← eT1] at hT1 hT2 hT3
      obtain ⟨ws1, ews1⟩ : ∃ z, z = va_up ws n ((0, t, 0, fun _ => 0)) := ⟨_, rfl⟩
      rw [← ews1] at hw1
      have hnG_st : ∀ i, i < 53 → st ≠ G i := fun i hi z => hq_st (by rw [z]; exact hP.mem hi)
      have hnG_st : ∀ i, i < 53 → st ≠ G i := fun i hi z => hq_st (by rw [z]; exact hP.mem hi)
      have hst : gStg cy S5 G T1 (ws1 n) n := by
        unfold gStg gst; rw [hT1, hT2, hw1]
        exact ⟨Or.inl ⟨rfl, h1, h2⟩, hf9, fun z => absurd z (show ¬ (0 : Nat) = 1 by decide), fun z => absurd z (show ¬ (0 : Nat) = 3 by decide), hL8, hL8⟩
      refine p_calli (va_runV (As := [.ref st]) (rest := []) C.fix (g_X11_putBehind l D cy S5 H.size hPx hk hla hlb hlc st hT1 hn hT3 (fun k hk => by rw [ews1]; exact va_up_ne _ _ (by omega)) hst (fun i hi => by rw [hT1, hT2]; exact ⟨hnG_st i hi, hnG_st i hi⟩) (by rw [hw1]; exact hzz) hC) (cwV 1 C.2.2.2.2.1 (gU_V mw_416 mw_417 mw_418 mw_2 (subU mw_419)) rfl rfl rfl hdg_X11_repeat_V_0 ⟨Nat.le_of_ble_eq_true rfl, Nat.le_of_ble_eq_true rfl⟩) (p_preV C hw (hPx.mem (k := 0) (by omega)) hPx.c0 rfl) rfl rfl hl.1 rfl (lv_room (Nat.le_of_ble_eq_true rfl)) dX11_repeat_29 ⟨(Nat.le_of_ble_eq_true rfl), (Nat.le_of_ble_eq_true rfl)⟩) hw hA (fun r11 S10 H locs hpost hw => ?_)
      obtain ⟨V14, hr_, hP12, hF13, hK15⟩ := hpost
      subst hr_
      exact (p_iret C hw ⟨T1, ws1, V14, rfl, hP12, hFx.trans hF13, hK15, hw1, (fun k hk => by rw [ews1]; exact va_up_ne _ _ (by omega))⟩ hr hlocks dX11_repeat_32)
    · omega

theorem hdg_X11_check_V_0 : yX11_putBehind.cls = RX11 ∧ yX11_putBehind.cls ≠ "java/lang/invoke/MethodHandle" ∧ yX11_putBehind.cls ≠ "java/lang/invoke/VarHandle" ∧ (parseMethodDescriptor yX11_putBehind.desc).map (fun d => d.parameters.length) = some 1 := by decide +kernel
set_option maxHeartbeats 4000000 in
set_option maxRecDepth 100000 in
theorem g_X11_check (l : Launch) (D : va_G) (cy : Nat → ClassId) (S : pS) (sz : Nat) {G T : Nat → Nat} {n : Nat} {ws : Nat → WV} {l2 : va_E} {V : RV} {k0 a0 b0 c0 : Nat} (hP : Pic cy S G T n ws (.inr (5, [.int (nI k0), .int (nI a0), .int (nI b0), .int (nI c0)])) l2 V) (hk : k0 ≤ 3) (hla : a0 < 2 ^ 30) (hlb : b0 < 2 ^ 30) (hlc : c0 < 2 ^ 30) (dv t : Nat) (h1 : 2 ≤ dv) (h2 : dv ≤ 511) (h3 : 1 ≤ t) (h4 : t ≤ 32) (hn : n < 4) (hzz : sSize ((2, dv, t, fun _ => 0)) (V.1 n) ≤ 320) (hC : Cod ws n V) : Met l yX11_check (Cond.code yX11_check cX11_check 3 (some .int) :: lwU) ({ frames := 7, cells := 1, slots := 3, locals := 165 }) (pPc D cy S sz [.ref (G 0), .int (nI dv), .int (nI t)]) (pQi D cy S sz (fun r S' => ∃ (T' : Nat → Nat) (ws' : Nat → WV) (V' : RV), r = nI (V'.1 (n + 1)) ∧ Pic cy S' G T' (n + 1) ws' (.inr (5, [.int (nI k0), .int (nI a0), .int (nI b0), .int (nI c0)])) l2 V' ∧ Frm G S S' ∧ Nw (n + 1) ws' k0 a0 b0 c0 V V' ∧ ws' n = ((2, dv, t, fun _ => 0)) ∧ ∀ k, k < n → ws' k = ws k)) 1 3 (pA S sz) := by
  refine Met.ofW (cc := cX11_check) (maxL := 3) (ret := (some .int)) (by decide) rfl ?_
  intro p e s m args below meth c s₁ B hml hv
  obtain ⟨rfl, rfl, C, hw, hA, hr, hlocks⟩ := p_start B hml hv
  have hx := C.1
  have hb := C.2.1
  have hl := lv_entry ([.ref (G 0), .int (nI dv), .int (nI t)]) (n := 3) (Nat.le_of_ble_eq_true rfl)
  rw [lg_entry_eq]
  generalize (lg_sl ([.ref (G 0), .int (nI dv), .int (nI t)]) ++ List.replicate (3 - (lg_sl ([.ref (G 0), .int (nI dv), .int (nI t)])).length) Slot.unset).toArray = ls at hl ⊢
  have hl : lv_has ls 3 [(0, .ref (G 0)), (1, .int (nI dv)), (2, .int (nI t))] := hl
  have hin_RX2 : ∀ w ∈ u_ws RX2 TX2 3, w ∈ (Cond.code yX11_check cX11_check 3 (some .int) :: lwU) := fun w h => mU (sub_RX2 w h)
  have hn4 := hP.n4
  refine lv_iload_n hx hb dX11_check_0 rfl (lv_at hl 1 rfl) ?_
  refine lv_iconst (v := nI 2) hx hb dX11_check_1 (by decide) ?_
  refine n_icmp_lt (tgt := 12) hx hb (by omega) (by omega) dX11_check_2 (by decide) (fun h_2 => ?_) (fun h_2 => ?_)
  · omega
  · skip
    refine lv_iload_n hx hb dX11_check_5 rfl (lv_at hl 1 rfl) ?_
    refine lv_sipush (v := nI 511) hx hb dX11_check_6 (by decide) ?_
    refine n_icmp_le (tgt := 22) hx hb (by omega) (by omega) dX11_check_9 (by decide) (fun h_9 => ?_) (fun h_9 => ?_)
    · skip
      refine lv_iload_n hx hb dX11_check_22 rfl (lv_at hl 2 rfl) ?_
      refine lv_iconst (v := nI 1) hx hb dX11_check_23 (by decide) ?_
      refine n_icmp_lt (tgt := 33) hx hb (by omega) (by omega) dX11_check_24 (by decide) (fun h_24 => ?_) (fun h_24 => ?_)
      · omega
      · skip
        refine lv_iload_n hx hb dX11_check_27 rfl (lv_at hl 2 rfl) ?_
        refine lv_bipush (v := nI 32) hx hb dX11_check_28 (by decide) ?_
        refine n_icmp_le (tgt := 43) hx hb (by omega) (by omega) dX11_check_30 (by decide) (fun h_30 => ?_) (fun h_30 => ?_)
        · skip
          refine lv_aload_n hx hb dX11_check_43 rfl (lv_at hl 0 rfl) ?_
          refine p_new C hw hA (ci := 2) (Cn := RX2) (T := TX2) (N := 3) (fs := [.int (nI 0), .int (nI 0), .int (nI 0)]) tyX2 tyX2_ok rfl hin_RX2 (mU mw_441) (mU mw_442) (mU mw_139) (fun j hj => by rcases (show j = 0 ∨ j = 1 ∨ j = 2 by omega) with rfl | rfl | rfl <;> rfl) (Nat.le_of_ble_eq_true rfl) (Nat.le_of_ble_eq_true rfl) dX11_check_44 (fun st H hq_st hw => ?_)
          obtain ⟨S1, hS1⟩ : ∃ z, z = pnew S st (.inr (2, [.int (nI 0), .int (nI 0), .int (nI 0)])) := ⟨_, rfl⟩
          replace hw : pW D (pA S s.heap.size) s.heap S1 H [] := by rw [hS1]; exact hw
          have hL2 : st ∈ S1.1 := by rw [hS1]; exact List.mem_append_right _ List.mem_cons_self
          have hf3 : S1.2 st = .inr (2, [.int (nI 0), .int (nI 0), .int (nI 0)]) := by rw [hS1]; exact pnew_s
          have hP4 := Pic.ext (S' := S1) hP (fun a9 h9 => by rw [hS1]; exact List.mem_append_left _ h9) (fun a9 h9 => by rw [hS1]; exact pnew_n (fun z : a9 = st => hq_st (by rw [← z]; exact h9)))
          refine lv_dup hx hb dX11_check_47 rfl ?_
          refine lv_iload_n hx hb dX11_check_48 rfl (lv_at hl 1 rfl) ?_
          refine lv_iload_n hx hb dX11_check_49 rfl (lv_at hl 2 rfl) ?_
          refine p_callv (va_runI (As := [.int (nI dv), .int (nI t)]) (rest := [.ref st, .ref (G 0)]) C.fix (c_X2_init l D cy S1 H.size st 0 0 0 dv t hL2 hf3 (by first | assumption | decide | omega)) (cwI 2 C.2.2.2.2.1 (gU_sub sub_X2_init) rfl rfl rfl (C.2.2.2.2.1 (.initialized RX2) (mU mw_139)) (C.2.2.2.2.1 (.methodLink RX11 123 yX2_init) (mU mw_443)) (C.2.2.2.2.1 (.instanceMethod yX2_init) (mU mw_444)) rfl (by decide +kernel) ⟨Nat.le_of_ble_eq_true rfl, Nat.le_of_ble_eq_true rfl⟩) (p_preS C hw) rfl rfl hl.1 rfl (lv_room (Nat.le_of_ble_eq_true rfl)) dX11_check_50 ⟨(Nat.le_of_ble_eq_true rfl), (Nat.le_of_ble_eq_true rfl)⟩) hw hA (fun S5 H locs hpost hw => ?_)
          have hS_ := hpost
          have hS7 := hS_
          have hL8 : st ∈ S5.1 := by rw [hS7]; exact hL2
          have hf9 : S5.2 st = .inr (2, [.int (nI dv), .int (nI t), .int (nI (degN dv 9))]) := by rw [hS7]; exact pup_s
          have hSx : S5.1 = S.1 ++ ([st]) := (by simp only [hS7, hS1, pup, pnew, List.append_nil, List.append_assoc, List.cons_append, List.nil_append])
          have hmx : ∀ a, a ∈ S.1 → a ∈ S5.1 := fun a h => by rw [hSx]; exact List.mem_append_left _ h
          have hcx : ∀ a_, a_ ∈ S.1 → S5.2 a_ = S.2 a_ := (fun a_ ha_ => ((show S5.2 a_ = S1.2 a_ from by rw [hS7]; exact pup_n (fun z : a_ = st => hq_st (by rw [← z]; exact ha_))).trans (show S1.2 a_ = S.2 a_ from by rw [hS1]; exact pnew_n (fun z : a_ = st => hq_st (by rw [← z]; exact ha_)))))
          have hPx := hP.ext hmx hcx
          have hFx : Frm G S S5 := ⟨hmx, fun a h _ => hcx a h⟩
          have hT1 : (va_up (va_up T (2 * n) st) (2 * n + 1) st) (2 * n) = st := (va_up_ne _ _ (by omega)).trans (va_up_self _ _ _)
          have hT2 : (va_up (va_up T (2 * n) st) (2 * n + 1) st) (2 * n + 1) = st := va_up_self _ _ _
          have hT3 : ∀ k, k < 2 * n → (va_up (va_up T (2 * n) st) (2 * n + 1) st) k = T k := fun k hk => (va_up_ne _ _ (by omega)).trans (va_up_ne _ _ (by omega))
          have hw1 : (va_up ws n ((2, dv, t, fun _ => 0))) n = ((2, dv, t, fun _ => 0)) := va_up_self _ _ _
          obtain ⟨T1, eT1⟩ : ∃ z, z = va_up (va_up T (2 * n) st) (2 * n + 1) st := ⟨_, rfl⟩
          rw [← eT1] at hT1 hT2 hT3
          obtain ⟨ws1, ews1⟩ : ∃ z, z = va_up ws n ((2, dv, t, fun _ => 0)) := ⟨_, rfl⟩
          rw [← ews1] at hw1
          have hnG_st : ∀ i, i < 53 → st ≠ G i := fun i hi z => hq_st (by rw [z]; exact hP.mem hi)
          have hnG_st : ∀ i, i < 53 → st ≠ G i := fun i hi z => hq_st (by rw [z]; exact hP.mem hi)
          have hst : gStg cy S5 G T1 (ws1 n) n := by
            unfold gStg gst; rw [hT1, hT2, hw1]
            exact ⟨Or.inr (Or.inr (Or.inl ⟨rfl, h1, h2, h3, h4⟩)), hf9, fun z => absurd z (show ¬ (2 : Nat) = 1 by decide), fun z => absurd z (show ¬ (2 : Nat) = 3 by decide), hL8, hL8⟩
          refine p_calli (va_runV (As := [.ref st]) (rest := []) C.fix (g_X11_putBehind l D cy S5 H.size hPx hk hla hlb hlc st hT1 hn hT3 (fun k hk => by rw [ews1]; exact va_up_ne _ _ (by omega)) hst (fun i hi => by rw [hT1, hT2]; exact ⟨hnG_st i hi, hnG_st i hi⟩) (by rw [hw1]; exact hzz) hC) (cwV 1 C.2.2.2.2.1 (gU_V mw_416 mw_417 mw_418 mw_2 (subU mw_419)) rfl rfl rfl hdg_X11_check_V_0 ⟨Nat.le_of_ble_eq_true rfl, Nat.le_of_ble_eq_true rfl⟩) (p_preV C hw (hPx.mem (k := 0) (by omega)) hPx.c0 rfl) rfl rfl hl.1 rfl (lv_room (Nat.le_of_ble_eq_true rfl)) dX11_check_53 ⟨(Nat.le_of_ble_eq_true rfl), (Nat.le_of_ble_eq_true rfl)⟩) hw hA (fun r11 S10 H locs hpost hw => ?_)
          obtain ⟨V14, hr_, hP12, hF13, hK15⟩ := hpost
          subst hr_
          exact (p_iret C hw ⟨T1, ws1, V14, rfl, hP12, hFx.trans hF13, hK15, hw1, (fun k hk => by rw [ews1]; exact va_up_ne _ _ (by omega))⟩ hr hlocks dX11_check_56)
        · omega
    · omega

theorem hdg_X11_weave_V_0 : yX11_putBehind.cls = RX11 ∧ yX11_putBehind.cls ≠ "java/lang/invoke/MethodHandle" ∧ yX11_putBehind.cls ≠ "java/lang/invoke/VarHandle" ∧ (parseMethodDescriptor yX11_putBehind.desc).map (fun d => d.parameters.length) = some 1 := by decide +kernel
set_option maxHeartbeats 4000000 in
set_option maxRecDepth 100000 in
theorem g_X11_weave (l : Launch) (D : va_G) (cy : Nat → ClassId) (S : pS) (sz : Nat) {G T : Nat → Nat} {n : Nat} {ws : Nat → WV} {l2 : va_E} {V : RV} {k0 a0 b0 c0 : Nat} (hP : Pic cy S G T n ws (.inr (5, [.int (nI k0), .int (nI a0), .int (nI b0), .int (nI c0)])) l2 V) (hk : k0 ≤ 3) (hla : a0 < 2 ^ 30) (hlb : b0 < 2 ^ 30) (hlc : c0 < 2 ^ 30) (wa wc : Nat) (h1 : 1 ≤ wa) (h2 : wa ≤ 10) (h3 : 1 ≤ wc) (h4 : wc ≤ 10) (hn : n < 4) (hzz : sSize ((4, wa, wc, fun _ => 0)) (V.1 n) ≤ 320) (hC : Cod ws n V) : Met l yX11_weave (Cond.code yX11_weave cX11_weave 3 (some .int) :: lwU) ({ frames := 7, cells := 1, slots := 2, locals := 165 }) (pPc D cy S sz [.ref (G 0), .int (nI wa), .int (nI wc)]) (pQi D cy S sz (fun r S' => ∃ (T' : Nat → Nat) (ws' : Nat → WV) (V' : RV), r = nI (V'.1 (n + 1)) ∧ Pic cy S' G T' (n + 1) ws' (.inr (5, [.int (nI k0), .int (nI a0), .int (nI b0), .int (nI c0)])) l2 V' ∧ Frm G S S' ∧ Nw (n + 1) ws' k0 a0 b0 c0 V V' ∧ ws' n = ((4, wa, wc, fun _ => 0)) ∧ ∀ k, k < n → ws' k = ws k)) 1 2 (pA S sz) := by
  refine Met.ofW (cc := cX11_weave) (maxL := 3) (ret := (some .int)) (by decide) rfl ?_
  intro p e s m args below meth c s₁ B hml hv
  obtain ⟨rfl, rfl, C, hw, hA, hr, hlocks⟩ := p_start B hml hv
  have hx := C.1
  have hb := C.2.1
  have hl := lv_entry ([.ref (G 0), .int (nI wa), .int (nI wc)]) (n := 3) (Nat.le_of_ble_eq_true rfl)
  rw [lg_entry_eq]
  generalize (lg_sl ([.ref (G 0), .int (nI wa), .int (nI wc)]) ++ List.replicate (3 - (lg_sl ([.ref (G 0), .int (nI wa), .int (nI wc)])).length) Slot.unset).toArray = ls at hl ⊢
  have hl : lv_has ls 3 [(0, .ref (G 0)), (1, .int (nI wa)), (2, .int (nI wc))] := hl
  have hin_RX10 : ∀ w ∈ u_ws RX10 TX10 2, w ∈ (Cond.code yX11_weave cX11_weave 3 (some .int) :: lwU) := fun w h => mU (sub_RX10 w h)
  have hn4 := hP.n4
  refine lv_iload_n hx hb dX11_weave_0 rfl (lv_at hl 1 rfl) ?_
  refine lv_iconst (v := nI 1) hx hb dX11_weave_1 (by decide) ?_
  refine n_icmp_lt (tgt := 22) hx hb (by omega) (by omega) dX11_weave_2 (by decide) (fun h_2 => ?_) (fun h_2 => ?_)
  · omega
  · skip
    refine lv_iload_n hx hb dX11_weave_5 rfl (lv_at hl 1 rfl) ?_
    refine lv_bipush (v := nI 10) hx hb dX11_weave_6 (by decide) ?_
    refine n_icmp_gt (tgt := 22) hx hb (by omega) (by omega) dX11_weave_8 (by decide) (fun h_8 => ?_) (fun h_8 => ?_)
    · omega
    · skip
      refine lv_iload_n hx hb dX11_weave_11 rfl (lv_at hl 2 rfl) ?_
      refine lv_iconst (v := nI 1) hx hb dX11_weave_12 (by decide) ?_
      refine n_icmp_lt (tgt := 22) hx hb (by omega) (by omega) dX11_weave_13 (by decide) (fun h_13 => ?_) (fun h_13 => ?_)
      · omega
      · skip
        refine lv_iload_n hx hb dX11_weave_16 rfl (lv_at hl 2 rfl) ?_
        refine lv_bipush (v := nI 10) hx hb dX11_weave_17 (by decide) ?_
        refine n_icmp_le (tgt := 32) hx hb (by omega) (by omega) dX11_weave_19 (by decide) (fun h_19 => ?_) (fun h_19 => ?_)
        · skip
          refine lv_aload_n hx hb dX11_weave_32 rfl (lv_at hl 0 rfl) ?_
          refine p_new C hw hA (ci := 9) (Cn := RX10) (T := TX10) (N := 2) (fs := [.int (nI 0), .int (nI 0)]) tyX10 tyX10_ok rfl hin_RX10 (mU mw_465) (mU mw_466) (mU mw_160) (fun j hj => by rcases (show j = 0 ∨ j = 1 by omega) with rfl | rfl <;> rfl) (Nat.le_of_ble_eq_true rfl) (Nat.le_of_ble_eq_true rfl) dX11_weave_33 (fun st H hq_st hw => ?_)
          obtain ⟨S1, hS1⟩ : ∃ z, z = pnew S st (.inr (9, [.int (nI 0), .int (nI 0)])) := ⟨_, rfl⟩
          replace hw : pW D (pA S s.heap.size) s.heap S1 H [] := by rw [hS1]; exact hw
          have hL2 : st ∈ S1.1 := by rw [hS1]; exact List.mem_append_right _ List.mem_cons_self
          have hf3 : S1.2 st = .inr (9, [.int (nI 0), .int (nI 0)]) := by rw [hS1]; exact pnew_s
          have hP4 := Pic.ext (S' := S1) hP (fun a9 h9 => by rw [hS1]; exact List.mem_append_left _ h9) (fun a9 h9 => by rw [hS1]; exact pnew_n (fun z : a9 = st => hq_st (by rw [← z]; exact h9)))
          refine lv_dup hx hb dX11_weave_36 rfl ?_
          refine lv_iload_n hx hb dX11_weave_37 rfl (lv_at hl 1 rfl) ?_
          refine lv_iload_n hx hb dX11_weave_38 rfl (lv_at hl 2 rfl) ?_
          refine p_callv (va_runI (As := [.int (nI wa), .int (nI wc)]) (rest := [.ref st, .ref (G 0)]) C.fix (c_X10_init l D cy S1 H.size st 0 0 wa wc hL2 hf3) (cwI 2 C.2.2.2.2.1 (gU_sub sub_X10_init) rfl rfl rfl (C.2.2.2.2.1 (.initialized RX10) (mU mw_160)) (C.2.2.2.2.1 (.methodLink RX11 141 yX10_init) (mU mw_467)) (C.2.2.2.2.1 (.instanceMethod yX10_init) (mU mw_468)) rfl (by decide +kernel) ⟨Nat.le_of_ble_eq_true rfl, Nat.le_of_ble_eq_true rfl⟩) (p_preS C hw) rfl rfl hl.1 rfl (lv_room (Nat.le_of_ble_eq_true rfl)) dX11_weave_39 ⟨(Nat.le_of_ble_eq_true rfl), (Nat.le_of_ble_eq_true rfl)⟩) hw hA (fun S5 H locs hpost hw => ?_)
          have hS_ := hpost
          have hS7 := hS_
          have hL8 : st ∈ S5.1 := by rw [hS7]; exact hL2
          have hf9 : S5.2 st = .inr (9, [.int (nI wa), .int (nI wc)]) := by rw [hS7]; exact pup_s
          have hSx : S5.1 = S.1 ++ ([st]) := (by simp only [hS7, hS1, pup, pnew, List.append_nil, List.append_assoc, List.cons_append, List.nil_append])
          have hmx : ∀ a, a ∈ S.1 → a ∈ S5.1 := fun a h => by rw [hSx]; exact List.mem_append_left _ h
          have hcx : ∀ a_, a_ ∈ S.1 → S5.2 a_ = S.2 a_ := (fun a_ ha_ => ((show S5.2 a_ = S1.2 a_ from by rw [hS7]; exact pup_n (fun z : a_ = st => hq_st (by rw [← z]; exact ha_))).trans (show S1.2 a_ = S.2 a_ from by rw [hS1]; exact pnew_n (fun z : a_ = st => hq_st (by rw [← z]; exact ha_)))))
          have hPx := hP.ext hmx hcx
          have hFx : Frm G S S5 := ⟨hmx, fun a h _ => hcx a h⟩
          have hT1 : (va_up (va_up T (2 * n) st) (2 * n + 1) st) (2 * n) = st := (va_up_ne _ _ (by omega)).trans (va_up_self _ _ _)
          have hT2 : (va_up (va_up T (2 * n) st) (2 * n + 1) st) (2 * n + 1) = st := va_up_self _ _ _
          have hT3 : ∀ k, k < 2 * n → (va_up (va_up T (2 * n) st) (2 * n + 1) st) k = T k := fun k hk => (va_up_ne _ _ (by omega)).trans (va_up_ne _ _ (by omega))
          have hw1 : (va_up ws n ((4, wa, wc, fun _ => 0))) n = ((4, wa, wc, fun _ => 0)) := va_up_self _ _ _
          obtain ⟨T1, eT1⟩ : ∃ z, z = va_up (va_up T (2 * n) st) (2 * n + 1) st := ⟨_, rfl⟩
          rw [← eT1] at hT1 hT2 hT3
          obtain ⟨ws1, ews1⟩ : ∃ z, z = va_up ws n ((4, wa, wc, fun _ => 0)) := ⟨_, rfl⟩
          rw [← ews1] at hw1
          have hnG_st : ∀ i, i < 53 → st ≠ G i := fun i hi z => hq_st (by rw [z]; exact hP.mem hi)
          have hnG_st : ∀ i, i < 53 → st ≠ G i := fun i hi z => hq_st (by rw [z]; exact hP.mem hi)
          have hst : gStg cy S5 G T1 (ws1 n) n := by
            unfold gStg gst; rw [hT1, hT2, hw1]
            exact ⟨Or.inr (Or.inr (Or.inr (Or.inr ⟨rfl, h1, h2, h3, h4⟩))), hf9, fun z => absurd z (show ¬ (4 : Nat) = 1 by decide), fun z => absurd z (show ¬ (4 : Nat) = 3 by decide), hL8, hL8⟩
          refine p_calli (va_runV (As := [.ref st]) (rest := []) C.fix (g_X11_putBehind l D cy S5 H.size hPx hk hla hlb hlc st hT1 hn hT3 (fun k hk => by rw [ews1]; exact va_up_ne _ _ (by omega)) hst (fun i hi => by rw [hT1, hT2]; exact ⟨hnG_st i hi, hnG_st i hi⟩) (by rw [hw1]; exact hzz) hC) (cwV 1 C.2.2.2.2.1 (gU_V mw_416 mw_417 mw_418 mw_2 (subU mw_419)) rfl rfl rfl hdg_X11_weave_V_0 ⟨Nat.le_of_ble_eq_true rfl, Nat.le_of_ble_eq_true rfl⟩) (p_preV C hw (hPx.mem (k := 0) (by omega)) hPx.c0 rfl) rfl rfl hl.1 rfl (lv_room (Nat.le_of_ble_eq_true rfl)) dX11_weave_42 ⟨(Nat.le_of_ble_eq_true rfl), (Nat.le_of_ble_eq_true rfl)⟩) hw hA (fun r11 S10 H locs hpost hw => ?_)
          obtain ⟨V14, hr_, hP12, hF13, hK15⟩ := hpost
          subst hr_
          exact (p_iret C hw ⟨T1, ws1, V14, rfl, hP12, hFx.trans hF13, hK15, hw1, (fun k hk => by rw [ews1]; exact va_up_ne _ _ (by omega))⟩ hr hlocks dX11_weave_45)
        · omega

theorem hdg_X11_trail_S_0 : yX11_fits.cls ≠ "java/lang/invoke/MethodHandle" ∧ yX11_fits.cls ≠ "java/lang/invoke/VarHandle" ∧ (parseMethodDescriptor yX11_fits.desc).map (fun d => d.parameters.length) = some 2 := by decide +kernel
theorem hdg_X11_trail_V_1 : yX11_putBehind.cls = RX11 ∧ yX11_putBehind.cls ≠ "java/lang/invoke/MethodHandle" ∧ yX11_putBehind.cls ≠ "java/lang/invoke/VarHandle" ∧ (parseMethodDescriptor yX11_putBehind.desc).map (fun d => d.parameters.length) = some 1 := by decide +kernel
set_option maxHeartbeats 4000000 in
set_option maxRecDepth 100000 in
theorem g_X11_trail (l : Launch) (D : va_G) (cy : Nat → ClassId) (S : pS) (sz : Nat) {G T : Nat → Nat} {n : Nat} {ws : Nat → WV} {l2 : va_E} {V : RV} {k0 a0 b0 c0 : Nat} (hP : Pic cy S G T n ws (.inr (5, [.int (nI k0), .int (nI a0), .int (nI b0), .int (nI c0)])) l2 V) (hk : k0 ≤ 3) (hla : a0 < 2 ^ 30) (hlb : b0 < 2 ^ 30) (hlc : c0 < 2 ^ 30) (mm f1 f2 f3 : Nat) (h1 : 1 ≤ mm) (h2 : mm ≤ 4) (hf1 : f1 < 2 ^ (mm + 1)) (hf2 : f2 < 2 ^ (mm + 1)) (hf3 : f3 < 2 ^ (mm + 1)) (h01 : 1 ≤ f1) (h02 : 1 ≤ f2) (hn : n < 4) (hzz : sSize ((3, mm, mk3 f3, ttab f1 f2 f3 32)) (V.1 n) ≤ 320) (hC : Cod ws n V) : Met l yX11_trail (Cond.code yX11_trail cX11_trail 6 (some .int) :: lwU) ({ frames := 7, cells := 2, slots := 36, locals := 165 }) (pPc D cy S sz [.ref (G 0), .int (nI mm), .int (nI f1), .int (nI f2), .int (nI f3)]) (pQi D cy S sz (fun r S' => ∃ (T' : Nat → Nat) (ws' : Nat → WV) (V' : RV), r = nI (V'.1 (n + 1)) ∧ Pic cy S' G T' (n + 1) ws' (.inr (5, [.int (nI k0), .int (nI a0), .int (nI b0), .int (nI c0)])) l2 V' ∧ Frm G S S' ∧ Nw (n + 1) ws' k0 a0 b0 c0 V V' ∧ ws' n = ((3, mm, mk3 f3, ttab f1 f2 f3 32)) ∧ ∀ k, k < n → ws' k = ws k)) 2 36 (pA S sz) := by
  refine Met.ofW (cc := cX11_trail) (maxL := 6) (ret := (some .int)) (by decide) rfl ?_
  intro p e s m args below meth c s₁ B hml hv
  obtain ⟨rfl, rfl, C, hw, hA, hr, hlocks⟩ := p_start B hml hv
  have hx := C.1
  have hb := C.2.1
  have hl := lv_entry ([.ref (G 0), .int (nI mm), .int (nI f1), .int (nI f2), .int (nI f3)]) (n := 6) (Nat.le_of_ble_eq_true rfl)
  rw [lg_entry_eq]
  generalize (lg_sl ([.ref (G 0), .int (nI mm), .int (nI f1), .int (nI f2), .int (nI f3)]) ++ List.replicate (6 - (lg_sl ([.ref (G 0), .int (nI mm), .int (nI f1), .int (nI f2), .int (nI f3)])).length) Slot.unset).toArray = ls at hl ⊢
  have hl : lv_has ls 6 [(0, .ref (G 0)), (1, .int (nI mm)), (2, .int (nI f1)), (3, .int (nI f2)), (4, .int (nI f3))] := hl
  have hin_RX11 : ∀ w ∈ u_ws RX11 TX11 8, w ∈ (Cond.code yX11_trail cX11_trail 6 (some .int) :: lwU) := fun w h => mU (sub_RX11 w h)
  have hin_RX9 : ∀ w ∈ u_ws RX9 TX9 4, w ∈ (Cond.code yX11_trail cX11_trail 6 (some .int) :: lwU) := fun w h => mU (sub_RX9 w h)
  have hn4 := hP.n4
  refine lv_iload_n hx hb dX11_trail_0 rfl (lv_at hl 1 rfl) ?_
  refine lv_iconst (v := nI 1) hx hb dX11_trail_1 (by decide) ?_
  refine n_icmp_lt (tgt := 10) hx hb (by omega) (by omega) dX11_trail_2 (by decide) (fun h_2 => ?_) (fun h_2 => ?_)
  · omega
  · skip
    refine lv_iload_n hx hb dX11_trail_5 rfl (lv_at hl 1 rfl) ?_
    refine lv_iconst (v := nI 4) hx hb dX11_trail_6 (by decide) ?_
    refine n_icmp_le (tgt := 20) hx hb (by omega) (by omega) dX11_trail_7 (by decide) (fun h_7 => ?_) (fun h_7 => ?_)
    · skip
      have h2m : 2 ^ (mm + 1) ≤ 32 := two_pow_5 (by omega)
      have h31 : f3 < 2 ^ 31 := by omega
      have h311 : f1 < 2 ^ 31 := by omega
      have h312 : f2 < 2 ^ 31 := by omega
      refine lv_iload_n hx hb dX11_trail_20 rfl (lv_at hl 1 rfl) ?_
      refine lv_iconst (v := nI 1) hx hb dX11_trail_21 (by decide) ?_
      refine n_iadd hx hb dX11_trail_22 ?_
      refine lv_istore (lv' := [(5, .int (nI (mm + 1))), (0, .ref (G 0)), (1, .int (nI mm)), (2, .int (nI f1)), (3, .int (nI f2)), (4, .int (nI f3))]) hx hb dX11_trail_23 hl (by decide) rfl (fun ls hl => ?_)
      refine lv_iload_n hx hb dX11_trail_25 rfl (lv_at hl 3 rfl) ?_
      refine n_if_eq (tgt := 51) hx hb (by omega) dX11_trail_26 (by decide) (fun h_26 => ?_) (fun h_26 => ?_)
      · omega
      · skip
        refine lv_iload_n hx hb dX11_trail_29 rfl (lv_at hl 4 rfl) ?_
        refine n_if_eq (tgt := 51) hx hb (by omega) dX11_trail_30 (by decide) (fun h_30 => ?_) (fun h_30 => ?_)
        · omega
        · skip
          refine lv_iload_n hx hb dX11_trail_33 rfl (lv_at hl 3 rfl) ?_
          refine lv_iload hx hb dX11_trail_34 (lv_at hl 0 rfl) ?_
          refine p_calli (va_runS (As := [.int (nI f1), .int (nI (mm + 1))]) (rest := []) C.fix (c_X11_fits l D cy S s.heap.size (nI f1) (mm + 1) (by omega)) (va_cwS 2 C.2.2.2.2.1 (gU_S mw_108 mw_109 mw_2 sub_X11_fits) rfl rfl rfl hdg_X11_trail_S_0 ⟨Nat.le_of_ble_eq_true rfl, Nat.le_of_ble_eq_true rfl⟩) (p_preS C hw) rfl rfl hl.1 rfl (lv_room (Nat.le_of_ble_eq_true rfl)) dX11_trail_36 ⟨(Nat.le_of_ble_eq_true rfl), (Nat.le_of_ble_eq_true rfl)⟩) hw hA (fun r2 S1 H locs hpost hw => ?_)
          obtain ⟨hr_, hS_⟩ := hpost
          have hr_ := hr_.trans (fits1 (by omega) hf1)
          subst hr_
          subst hS_
          refine n_if_eq (tgt := 51) hx hb (by first | decide | omega) dX11_trail_39 (by decide) (fun h_39 => ?_) (fun h_39 => ?_)
          · exact absurd h_39 (by first | decide | omega)
          · skip
            refine lv_iload_n hx hb dX11_trail_42 rfl (lv_at hl 4 rfl) ?_
            refine lv_iload hx hb dX11_trail_43 (lv_at hl 0 rfl) ?_
            refine p_calli (va_runS (As := [.int (nI f2), .int (nI (mm + 1))]) (rest := []) C.fix (c_X11_fits l D cy S H.size (nI f2) (mm + 1) (by omega)) (va_cwS 2 C.2.2.2.2.1 (gU_S mw_108 mw_109 mw_2 sub_X11_fits) rfl rfl rfl hdg_X11_trail_S_0 ⟨Nat.le_of_ble_eq_true rfl, Nat.le_of_ble_eq_true rfl⟩) (p_preS C hw) rfl rfl hl.1 rfl (lv_room (Nat.le_of_ble_eq_true rfl)) dX11_trail_45 ⟨(Nat.le_of_ble_eq_true rfl), (Nat.le_of_ble_eq_true rfl)⟩) hw hA (fun r6 S5 H locs hpost hw => ?_)
            obtain ⟨hr_, hS_⟩ := hpost
            have hr_ := hr_.trans (fits1 (by omega) hf2)
            subst hr_
            subst hS_
            refine n_if_ne (tgt := 61) hx hb (by first | decide | omega) dX11_trail_48 (by decide) (fun h_48 => ?_) (fun h_48 => ?_)
            · skip
              refine lv_iload hx hb dX11_trail_61 (lv_at hl 5 rfl) ?_
              refine lv_iload hx hb dX11_trail_63 (lv_at hl 0 rfl) ?_
              refine p_calli (va_runS (As := [.int (nI f3), .int (nI (mm + 1))]) (rest := []) C.fix (c_X11_fits l D cy S H.size (nI f3) (mm + 1) (by omega)) (va_cwS 2 C.2.2.2.2.1 (gU_S mw_108 mw_109 mw_2 sub_X11_fits) rfl rfl rfl hdg_X11_trail_S_0 ⟨Nat.le_of_ble_eq_true rfl, Nat.le_of_ble_eq_true rfl⟩) (p_preS C hw) rfl rfl hl.1 rfl (lv_room (Nat.le_of_ble_eq_true rfl)) dX11_trail_65 ⟨(Nat.le_of_ble_eq_true rfl), (Nat.le_of_ble_eq_true rfl)⟩) hw hA (fun r10 S9 H locs hpost hw => ?_)
              obtain ⟨hr_, hS_⟩ := hpost
              have hr_ := hr_.trans (fits1 (by omega) hf3)
              subst hr_
              subst hS_
              refine n_if_ne (tgt := 81) hx hb (by first | decide | omega) dX11_trail_68 (by decide) (fun h_68 => ?_) (fun h_68 => ?_)
              · skip
                refine lv_aload_n hx hb dX11_trail_81 rfl (lv_at hl 1 rfl) ?_
                refine p_new C hw hA (ci := 8) (Cn := RX9) (T := TX9) (N := 4) (fs := [.int (nI 0), .int (nI 0), .null, .null]) tyX9 tyX9_ok rfl hin_RX9 (mU mw_453) (mU mw_454) (mU mw_150) (fun j hj => by rcases (show j = 0 ∨ j = 1 ∨ j = 2 ∨ j = 3 by omega) with rfl | rfl | rfl | rfl <;> rfl) (Nat.le_of_ble_eq_true rfl) (Nat.le_of_ble_eq_true rfl) dX11_trail_82 (fun st H hq_st hw => ?_)
                obtain ⟨S13, hS13⟩ : ∃ z, z = pnew S st (.inr (8, [.int (nI 0), .int (nI 0), .null, .null])) := ⟨_, rfl⟩
                replace hw : pW D (pA S s.heap.size) s.heap S13 H locs := by rw [hS13]; exact hw
                have hL14 : st ∈ S13.1 := by rw [hS13]; exact List.mem_append_right _ List.mem_cons_self
                have hf15 : S13.2 st = .inr (8, [.int (nI 0), .int (nI 0), .null, .null]) := by rw [hS13]; exact pnew_s
                have hP16 := Pic.ext (S' := S13) hP (fun a9 h9 => by rw [hS13]; exact List.mem_append_left _ h9) (fun a9 h9 => by rw [hS13]; exact pnew_n (fun z : a9 = st => hq_st (by rw [← z]; exact h9)))
                refine lv_dup hx hb dX11_trail_85 rfl ?_
                refine lv_iload_n hx hb dX11_trail_86 rfl (lv_at hl 2 rfl) ?_
                refine lv_iload_n hx hb dX11_trail_87 rfl (lv_at hl 3 rfl) ?_
                refine lv_iload_n hx hb dX11_trail_88 rfl (lv_at hl 4 rfl) ?_
                refine lv_iload hx hb dX11_trail_89 (lv_at hl 5 rfl) ?_
                refine lv_aload_n hx hb dX11_trail_91 rfl (lv_at hl 1 rfl) ?_
                refine p_get C hw (ci := 10) (Cn := RX11) (T := TX11) (N := 8) (hP16.mem (k := 0) (by omega)) hP16.c0 rfl hin_RX11 7 (by decide) (mU mw_32) rfl rfl dX11_trail_92 ?_
                refine p_callv (va_runI (As := [.int (nI mm), .int (nI f1), .int (nI f2), .int (nI f3), .ref (G 5)]) (rest := [.ref st, .ref (G 0)]) C.fix (c_X9_init l D cy S13 H.size st 0 0 (G 5) mm f1 f2 f3 hL14 hf15 h31) (cwI 5 C.2.2.2.2.1 (gU_sub sub_X9_init) rfl rfl rfl (C.2.2.2.2.1 (.initialized RX9) (mU mw_150)) (C.2.2.2.2.1 (.methodLink RX11 134 yX9_init) (mU mw_455)) (C.2.2.2.2.1 (.instanceMethod yX9_init) (mU mw_456)) rfl (by decide +kernel) ⟨Nat.le_of_ble_eq_true rfl, Nat.le_of_ble_eq_true rfl⟩) (p_preS C hw) rfl rfl hl.1 rfl (lv_room (Nat.le_of_ble_eq_true rfl)) dX11_trail_95 ⟨(Nat.le_of_ble_eq_true rfl), (Nat.le_of_ble_eq_true rfl)⟩) hw hA (fun S17 H locs hpost hw => ?_)
                obtain ⟨q19, hp20, hS_⟩ := hpost
                obtain ⟨S21, hS21⟩ : ∃ z, z = pnew S13 q19 (aN (cy 0) 32 (ttab f1 f2 f3 32)) := ⟨_, rfl⟩
                rw [← hS21] at hS_
                have hL22 : q19 ∈ S21.1 := by rw [hS21]; exact List.mem_append_right _ List.mem_cons_self
                have hf23 : S21.2 q19 = aN (cy 0) 32 (ttab f1 f2 f3 32) := by rw [hS21]; exact pnew_s
                have hL24 : st ∈ S21.1 := by rw [hS21]; exact List.mem_append_left _ hL14
                have hf25 : S21.2 st = .inr (8, [.int (nI 0), .int (nI 0), .null, .null]) := by rw [hS21]; exact (pnew_n (fun z : st = q19 => hp20 (by rw [← z]; exact hL14))).trans hf15
                have hS26 := hS_
                have hL27 : st ∈ S17.1 := by rw [hS26]; exact hL24
                have hf28 : S17.2 st = .inr (8, [.int (nI mm), .int (nI (mk3 f3)), .ref q19, .ref (G 5)]) := by rw [hS26]; exact pup_s
                have hSx : S17.1 = S.1 ++ ([st] ++ [q19]) := (by simp only [hS26, hS21, hS13, pup, pnew, List.append_nil, List.append_assoc, List.cons_append, List.nil_append])
                have hmx : ∀ a, a ∈ S.1 → a ∈ S17.1 := fun a h => by rw [hSx]; exact List.mem_append_left _ h
                have hcx : ∀ a_, a_ ∈ S.1 → S17.2 a_ = S.2 a_ := (fun a_ ha_ => ((show S17.2 a_ = S21.2 a_ from by rw [hS26]; exact pup_n (fun z : a_ = st => hq_st (by rw [← z]; exact ha_))).trans ((show S21.2 a_ = S13.2 a_ from by rw [hS21]; exact pnew_n (fun z : a_ = q19 => hp20 (by rw [← z]; exact (show a_ ∈ S13.1 from by rw [hS13]; exact List.mem_append_left _ ha_)))).trans (show S13.2 a_ = S.2 a_ from by rw [hS13]; exact pnew_n (fun z : a_ = st => hq_st (by rw [← z]; exact ha_))))))
                have hPx := hP.ext hmx hcx
                have hFx : Frm G S S17 := ⟨hmx, fun a h _ => hcx a h⟩
                have hL29 : q19 ∈ S17.1 := by rw [hS26]; exact hL22
                have hf30 : S17.2 q19 = aN (cy 0) 32 (ttab f1 f2 f3 32) := by rw [hS26]; exact (pup_n (fun z : q19 = st => hp20 (by rw [z]; exact hL14))).trans hf23
                have hT1 : (va_up (va_up T (2 * n) st) (2 * n + 1) q19) (2 * n) = st := (va_up_ne _ _ (by omega)).trans (va_up_self _ _ _)
                have hT2 : (va_up (va_up T (2 * n) st) (2 * n + 1) q19) (2 * n + 1) = q19 := va_up_self _ _ _
                have hT3 : ∀ k, k < 2 * n → (va_up (va_up T (2 * n) st) (2 * n + 1) q19) k = T k := fun k hk => (va_up_ne _ _ (by omega)).trans (va_up_ne _ _ (by omega))
                have hw1 : (va_up ws n ((3, mm, mk3 f3, ttab f1 f2 f3 32))) n = ((3, mm, mk3 f3, ttab f1 f2 f3 32)) := va_up_self _ _ _
                obtain ⟨T1, eT1⟩ : ∃ z, z = va_up (va_up T (2 * n) st) (2 * n + 1) q19 := ⟨_, rfl⟩
                rw [← eT1] at hT1 hT2 hT3
                obtain ⟨ws1, ews1⟩ : ∃ z, z = va_up ws n ((3, mm, mk3 f3, ttab f1 f2 f3 32)) := ⟨_, rfl⟩
                rw [← ews1] at hw1
                have hnG_st : ∀ i, i < 53 → st ≠ G i := fun i hi z => hq_st (by rw [z]; exact hP.mem hi)
                have hnG_q19 : ∀ i, i < 53 → q19 ≠ G i := fun i hi z => (fun h9 => hp20 (show _ ∈ S13.1 from by rw [hS13]; exact List.mem_append_left _ h9)) (by rw [z]; exact hP.mem hi)
                have hst : gStg cy S17 G T1 (ws1 n) n := by
                  unfold gStg gst; rw [hT1, hT2, hw1]
                  exact ⟨Or.inr (Or.inr (Or.inr (Or.inl ⟨rfl, h1, h2, f1, f2, f3, hf1, hf2, hf3, rfl, rfl, h01⟩))), hf28, fun z => absurd z (show ¬ (3 : Nat) = 1 by decide), fun _ => hf30, hL27, hL29⟩
                refine p_calli (va_runV (As := [.ref st]) (rest := []) C.fix (g_X11_putBehind l D cy S17 H.size hPx hk hla hlb hlc st hT1 hn hT3 (fun k hk => by rw [ews1]; exact va_up_ne _ _ (by omega)) hst (fun i hi => by rw [hT1, hT2]; exact ⟨hnG_st i hi, hnG_q19 i hi⟩) (by rw [hw1]; exact hzz) hC) (cwV 1 C.2.2.2.2.1 (gU_V mw_416 mw_417 mw_418 mw_2 (subU mw_419)) rfl rfl rfl hdg_X11_trail_V_1 ⟨Nat.le_of_ble_eq_true rfl, Nat.le_of_ble_eq_true rfl⟩) (p_preV C hw (hPx.mem (k := 0) (by omega)) hPx.c0 rfl) rfl rfl hl.1 rfl (lv_room (Nat.le_of_ble_eq_true rfl)) dX11_trail_98 ⟨(Nat.le_of_ble_eq_true rfl), (Nat.le_of_ble_eq_true rfl)⟩) hw hA (fun r32 S31 H locs hpost hw => ?_)
                obtain ⟨V35, hr_, hP33, hF34, hK36⟩ := hpost
                subst hr_
                exact (p_iret C hw ⟨T1, ws1, V35, rfl, hP33, hFx.trans hF34, hK36, hw1, (fun k hk => by rw [ews1]; exact va_up_ne _ _ (by omega))⟩ hr hlocks dX11_trail_101)
              · exact absurd h_68 (by first | decide | omega)
            · exact absurd h_48 (by first | decide | omega)
    · omega

theorem hdg_X11_block1_S_0 : yX11_fits.cls ≠ "java/lang/invoke/MethodHandle" ∧ yX11_fits.cls ≠ "java/lang/invoke/VarHandle" ∧ (parseMethodDescriptor yX11_fits.desc).map (fun d => d.parameters.length) = some 2 := by decide +kernel
theorem hdg_X11_block1_V_1 : yX11_putBehind.cls = RX11 ∧ yX11_putBehind.cls ≠ "java/lang/invoke/MethodHandle" ∧ yX11_putBehind.cls ≠ "java/lang/invoke/VarHandle" ∧ (parseMethodDescriptor yX11_putBehind.desc).map (fun d => d.parameters.length) = some 1 := by decide +kernel
set_option maxHeartbeats 4000000 in
set_option maxRecDepth 100000 in
theorem g_X11_block1 (l : Launch) (D : va_G) (cy : Nat → ClassId) (S : pS) (sz : Nat) {G T : Nat → Nat} {n : Nat} {ws : Nat → WV} {l2 : va_E} {V : RV} {k0 a0 b0 c0 : Nat} (hP : Pic cy S G T n ws (.inr (5, [.int (nI k0), .int (nI a0), .int (nI b0), .int (nI c0)])) l2 V) (hk : k0 ≤ 3) (hla : a0 < 2 ^ 30) (hlb : b0 < 2 ^ 30) (hlc : c0 < 2 ^ 30) (q a1 a2 a3 a4 : Nat) (h1 : 1 ≤ q) (h2 : q ≤ 10) (ha1 : a1 < 2 ^ q) (ha2 : a2 < 2 ^ q) (ha3 : a3 < 2 ^ q) (ha4 : a4 < 2 ^ q) (hn : n < 4) (hzz : sSize ((1, 1, q, bwt 1 a1 a2 a3 a4 16)) (V.1 n) ≤ 320) (hC : Cod ws n V) : Met l yX11_block (Cond.code yX11_block cX11_block 8 (some .int) :: lwU) ({ frames := 7, cells := 2, slots := 19, locals := 165 }) (pPc D cy S sz [.ref (G 0), .int (nI 1), .int (nI q), .int (nI a1), .int (nI a2), .int (nI a3), .int (nI a4)]) (pQi D cy S sz (fun r S' => ∃ (T' : Nat → Nat) (ws' : Nat → WV) (V' : RV), r = nI (V'.1 (n + 1)) ∧ Pic cy S' G T' (n + 1) ws' (.inr (5, [.int (nI k0), .int (nI a0), .int (nI b0), .int (nI c0)])) l2 V' ∧ Frm G S S' ∧ Nw (n + 1) ws' k0 a0 b0 c0 V V' ∧ ws' n = ((1, 1, q, bwt 1 a1 a2 a3 a4 16)) ∧ ∀ k, k < n → ws' k = ws k)) 2 19 (pA S sz) := by
  refine Met.ofW (cc := cX11_block) (maxL := 8) (ret := (some .int)) (by decide) rfl ?_
  intro p e s m args below meth c s₁ B hml hv
  obtain ⟨rfl, rfl, C, hw, hA, hr, hlocks⟩ := p_start B hml hv
  have hx := C.1
  have hb := C.2.1
  have hl := lv_entry ([.ref (G 0), .int (nI 1), .int (nI q), .int (nI a1), .int (nI a2), .int (nI a3), .int (nI a4)]) (n := 8) (Nat.le_of_ble_eq_true rfl)
  rw [lg_entry_eq]
  generalize (lg_sl ([.ref (G 0), .int (nI 1), .int (nI q), .int (nI a1), .int (nI a2), .int (nI a3), .int (nI a4)]) ++ List.replicate (8 - (lg_sl ([.ref (G 0), .int (nI 1), .int (nI q), .int (nI a1), .int (nI a2), .int (nI a3), .int (nI a4)])).length) Slot.unset).toArray = ls at hl ⊢
  have hl : lv_has ls 8 [(0, .ref (G 0)), (1, .int (nI 1)), (2, .int (nI q)), (3, .int (nI a1)), (4, .int (nI a2)), (5, .int (nI a3)), (6, .int (nI a4))] := hl
  have hin_RX0 : ∀ w ∈ u_ws RX0 TX0 3, w ∈ (Cond.code yX11_block cX11_block 8 (some .int) :: lwU) := fun w h => mU (sub_RX0 w h)
  have hn4 := hP.n4
  refine lv_iload_n hx hb dX11_block_0 rfl (lv_at hl 1 rfl) ?_
  refine lv_iconst (v := nI 1) hx hb dX11_block_1 (by decide) ?_
  refine n_icmp_lt (tgt := 10) hx hb (by first | decide | omega) (by first | decide | omega) dX11_block_2 (by decide) (fun h_2 => ?_) (fun h_2 => ?_)
  · exact absurd h_2 (by first | decide | omega)
  · skip
    refine lv_iload_n hx hb dX11_block_5 rfl (lv_at hl 1 rfl) ?_
    refine lv_iconst (v := nI 4) hx hb dX11_block_6 (by decide) ?_
    refine n_icmp_le (tgt := 20) hx hb (by first | decide | omega) (by first | decide | omega) dX11_block_7 (by decide) (fun h_7 => ?_) (fun h_7 => ?_)
    · skip
      refine lv_iload_n hx hb dX11_block_20 rfl (lv_at hl 2 rfl) ?_
      refine lv_iload_n hx hb dX11_block_21 rfl (lv_at hl 1 rfl) ?_
      refine n_icmp_lt (tgt := 31) hx hb (by omega) (by omega) dX11_block_22 (by decide) (fun h_22 => ?_) (fun h_22 => ?_)
      · omega
      · skip
        refine lv_iload_n hx hb dX11_block_25 rfl (lv_at hl 2 rfl) ?_
        refine lv_bipush (v := nI 10) hx hb dX11_block_26 (by decide) ?_
        refine n_icmp_le (tgt := 41) hx hb (by omega) (by omega) dX11_block_28 (by decide) (fun h_28 => ?_) (fun h_28 => ?_)
        · skip
          have h2m : 2 ^ q ≤ 1024 := two_pow_10 h2
          refine lv_iload_n hx hb dX11_block_41 rfl (lv_at hl 3 rfl) ?_
          refine lv_iload_n hx hb dX11_block_42 rfl (lv_at hl 2 rfl) ?_
          refine p_calli (va_runS (As := [.int (nI a1), .int (nI q)]) (rest := []) C.fix (c_X11_fits l D cy S s.heap.size (nI a1) q (by omega)) (va_cwS 2 C.2.2.2.2.1 (gU_S mw_108 mw_109 mw_2 sub_X11_fits) rfl rfl rfl hdg_X11_block1_S_0 ⟨Nat.le_of_ble_eq_true rfl, Nat.le_of_ble_eq_true rfl⟩) (p_preS C hw) rfl rfl hl.1 rfl (lv_room (Nat.le_of_ble_eq_true rfl)) dX11_block_43 ⟨(Nat.le_of_ble_eq_true rfl), (Nat.le_of_ble_eq_true rfl)⟩) hw hA (fun r2 S1 H locs hpost hw => ?_)
          obtain ⟨hr_, hS_⟩ := hpost
          have hr_ := hr_.trans (fits1 (by omega) ha1)
          subst hr_
          subst hS_
          refine n_if_eq (tgt := 95) hx hb (by first | decide | omega) dX11_block_46 (by decide) (fun h_46 => ?_) (fun h_46 => ?_)
          · exact absurd h_46 (by first | decide | omega)
          · skip
            refine lv_iload_n hx hb dX11_block_49 rfl (lv_at hl 1 rfl) ?_
            refine lv_iconst (v := nI 2) hx hb dX11_block_50 (by decide) ?_
            refine n_icmp_lt (tgt := 63) hx hb (by first | decide | omega) (by first | decide | omega) dX11_block_51 (by decide) (fun h_51 => ?_) (fun h_51 => ?_)
            · skip
              refine lv_iload_n hx hb dX11_block_63 rfl (lv_at hl 1 rfl) ?_
              refine lv_iconst (v := nI 3) hx hb dX11_block_64 (by decide) ?_
              refine n_icmp_lt (tgt := 77) hx hb (by first | decide | omega) (by first | decide | omega) dX11_block_65 (by decide) (fun h_65 => ?_) (fun h_65 => ?_)
              · skip
                refine lv_iload_n hx hb dX11_block_77 rfl (lv_at hl 1 rfl) ?_
                refine lv_iconst (v := nI 4) hx hb dX11_block_78 (by decide) ?_
                refine n_icmp_lt (tgt := 91) hx hb (by first | decide | omega) (by first | decide | omega) dX11_block_79 (by decide) (fun h_79 => ?_) (fun h_79 => ?_)
                · skip
                  refine lv_iconst (v := nI 1) hx hb dX11_block_91 (by decide) ?_
                  refine lv_goto (tgt := 96) hx hb dX11_block_92 (by decide) ?_
                  refine lv_istore (lv' := [(7, .int (nI 1)), (0, .ref (G 0)), (1, .int (nI 1)), (2, .int (nI q)), (3, .int (nI a1)), (4, .int (nI a2)), (5, .int (nI a3)), (6, .int (nI a4))]) hx hb dX11_block_96 hl (by decide) rfl (fun ls hl => ?_)
                  refine lv_iload hx hb dX11_block_98 (lv_at hl 0 rfl) ?_
                  refine n_if_ne (tgt := 113) hx hb (by first | decide | omega) dX11_block_100 (by decide) (fun h_100 => ?_) (fun h_100 => ?_)
                  · skip
                    refine lv_aload_n hx hb dX11_block_113 rfl (lv_at hl 1 rfl) ?_
                    refine p_new C hw hA (ci := 0) (Cn := RX0) (T := TX0) (N := 3) (fs := [.int (nI 0), .int (nI 0), .null]) tyX0 tyX0_ok rfl hin_RX0 (mU mw_429) (mU mw_430) (mU mw_131) (fun j hj => by rcases (show j = 0 ∨ j = 1 ∨ j = 2 by omega) with rfl | rfl | rfl <;> rfl) (Nat.le_of_ble_eq_true rfl) (Nat.le_of_ble_eq_true rfl) dX11_block_114 (fun st H hq_st hw => ?_)
                    obtain ⟨S5, hS5⟩ : ∃ z, z = pnew S st (.inr (0, [.int (nI 0), .int (nI 0), .null])) := ⟨_, rfl⟩
                    replace hw : pW D (pA S s.heap.size) s.heap S5 H locs := by rw [hS5]; exact hw
                    have hL6 : st ∈ S5.1 := by rw [hS5]; exact List.mem_append_right _ List.mem_cons_self
                    have hf7 : S5.2 st = .inr (0, [.int (nI 0), .int (nI 0), .null]) := by rw [hS5]; exact pnew_s
                    have hP8 := Pic.ext (S' := S5) hP (fun a9 h9 => by rw [hS5]; exact List.mem_append_left _ h9) (fun a9 h9 => by rw [hS5]; exact pnew_n (fun z : a9 = st => hq_st (by rw [← z]; exact h9)))
                    refine lv_dup hx hb dX11_block_117 rfl ?_
                    refine lv_iload_n hx hb dX11_block_118 rfl (lv_at hl 2 rfl) ?_
                    refine lv_iload_n hx hb dX11_block_119 rfl (lv_at hl 3 rfl) ?_
                    refine lv_iload_n hx hb dX11_block_120 rfl (lv_at hl 4 rfl) ?_
                    refine lv_iload hx hb dX11_block_121 (lv_at hl 5 rfl) ?_
                    refine lv_iload hx hb dX11_block_123 (lv_at hl 6 rfl) ?_
                    refine lv_iload hx hb dX11_block_125 (lv_at hl 7 rfl) ?_
                    refine p_callv (va_runI (As := [.int (nI 1), .int (nI q), .int (nI a1), .int (nI a2), .int (nI a3), .int (nI a4)]) (rest := [.ref st, .ref (G 0)]) C.fix (c_X0_init l D cy S5 H.size st 0 0 1 q a1 a2 a3 a4 (nI a1) (nI a2) (nI a3) (nI a4) hL6 hf7 (by first | assumption | decide | omega) (fun _ => rfl) (fun _ => rfl) (fun _ => rfl) (fun _ => rfl)) (cwI 6 C.2.2.2.2.1 (gU_sub sub_X0_init) rfl rfl rfl (C.2.2.2.2.1 (.initialized RX0) (mU mw_131)) (C.2.2.2.2.1 (.methodLink RX11 114 yX0_init) (mU mw_431)) (C.2.2.2.2.1 (.instanceMethod yX0_init) (mU mw_432)) rfl (by decide +kernel) ⟨Nat.le_of_ble_eq_true rfl, Nat.le_of_ble_eq_true rfl⟩) (p_preS C hw) rfl rfl hl.1 rfl (lv_room (Nat.le_of_ble_eq_true rfl)) dX11_block_127 ⟨(Nat.le_of_ble_eq_true rfl), (Nat.le_of_ble_eq_true rfl)⟩) hw hA (fun S9 H locs hpost hw => ?_)
                    obtain ⟨q11, hp12, hS_⟩ := hpost
                    obtain ⟨S13, hS13⟩ : ∃ z, z = pnew S5 q11 (aN (cy 0) 16 (bwt 1 a1 a2 a3 a4 16)) := ⟨_, rfl⟩
                    rw [← hS13] at hS_
                    have hL14 : q11 ∈ S13.1 := by rw [hS13]; exact List.mem_append_right _ List.mem_cons_self
                    have hf15 : S13.2 q11 = aN (cy 0) 16 (bwt 1 a1 a2 a3 a4 16) := by rw [hS13]; exact pnew_s
                    have hL16 : st ∈ S13.1 := by rw [hS13]; exact List.mem_append_left _ hL6
                    have hf17 : S13.2 st = .inr (0, [.int (nI 0), .int (nI 0), .null]) := by rw [hS13]; exact (pnew_n (fun z : st = q11 => hp12 (by rw [← z]; exact hL6))).trans hf7
                    have hS18 := hS_
                    have hL19 : st ∈ S9.1 := by rw [hS18]; exact hL16
                    have hf20 : S9.2 st = .inr (0, [.int (nI 1), .int (nI q), .ref q11]) := by rw [hS18]; exact pup_s
                    have hSx : S9.1 = S.1 ++ ([st] ++ [q11]) := (by simp only [hS18, hS13, hS5, pup, pnew, List.append_nil, List.append_assoc, List.cons_append, List.nil_append])
                    have hmx : ∀ a, a ∈ S.1 → a ∈ S9.1 := fun a h => by rw [hSx]; exact List.mem_append_left _ h
                    have hcx : ∀ a_, a_ ∈ S.1 → S9.2 a_ = S.2 a_ := (fun a_ ha_ => ((show S9.2 a_ = S13.2 a_ from by rw [hS18]; exact pup_n (fun z : a_ = st => hq_st (by rw [← z]; exact ha_))).trans ((show S13.2 a_ = S5.2 a_ from by rw [hS13]; exact pnew_n (fun z : a_ = q11 => hp12 (by rw [← z]; exact (show a_ ∈ S5.1 from by rw [hS5]; exact List.mem_append_left _ ha_)))).trans (show S5.2 a_ = S.2 a_ from by rw [hS5]; exact pnew_n (fun z : a_ = st => hq_st (by rw [← z]; exact ha_))))))
                    have hPx := hP.ext hmx hcx
                    have hFx : Frm G S S9 := ⟨hmx, fun a h _ => hcx a h⟩
                    have hL21 : q11 ∈ S9.1 := by rw [hS18]; exact hL14
                    have hf22 : S9.2 q11 = aN (cy 0) 16 (bwt 1 a1 a2 a3 a4 16) := by rw [hS18]; exact (pup_n (fun z : q11 = st => hp12 (by rw [z]; exact hL6))).trans hf15
                    have hT1 : (va_up (va_up T (2 * n) st) (2 * n + 1) q11) (2 * n) = st := (va_up_ne _ _ (by omega)).trans (va_up_self _ _ _)
                    have hT2 : (va_up (va_up T (2 * n) st) (2 * n + 1) q11) (2 * n + 1) = q11 := va_up_self _ _ _
                    have hT3 : ∀ k, k < 2 * n → (va_up (va_up T (2 * n) st) (2 * n + 1) q11) k = T k := fun k hk => (va_up_ne _ _ (by omega)).trans (va_up_ne _ _ (by omega))
                    have hw1 : (va_up ws n ((1, 1, q, bwt 1 a1 a2 a3 a4 16))) n = ((1, 1, q, bwt 1 a1 a2 a3 a4 16)) := va_up_self _ _ _
                    obtain ⟨T1, eT1⟩ : ∃ z, z = va_up (va_up T (2 * n) st) (2 * n + 1) q11 := ⟨_, rfl⟩
                    rw [← eT1] at hT1 hT2 hT3
                    obtain ⟨ws1, ews1⟩ : ∃ z, z = va_up ws n ((1, 1, q, bwt 1 a1 a2 a3 a4 16)) := ⟨_, rfl⟩
                    rw [← ews1] at hw1
                    have hnG_st : ∀ i, i < 53 → st ≠ G i := fun i hi z => hq_st (by rw [z]; exact hP.mem hi)
                    have hnG_q11 : ∀ i, i < 53 → q11 ≠ G i := fun i hi z => (fun h9 => hp12 (show _ ∈ S5.1 from by rw [hS5]; exact List.mem_append_left _ h9)) (by rw [z]; exact hP.mem hi)
                    have hst : gStg cy S9 G T1 (ws1 n) n := by
                      unfold gStg gst; rw [hT1, hT2, hw1]
                      exact ⟨Or.inr (Or.inl ⟨rfl, (show 1 ≤ 1 by decide), (show 1 ≤ 4 by decide), h1, h2, a1, a2, a3, a4, ha1, ha2, ha3, ha4, rfl⟩), hf20, fun _ => hf22, fun z => absurd z (show ¬ (1 : Nat) = 3 by decide), hL19, hL21⟩
                    refine p_calli (va_runV (As := [.ref st]) (rest := []) C.fix (g_X11_putBehind l D cy S9 H.size hPx hk hla hlb hlc st hT1 hn hT3 (fun k hk => by rw [ews1]; exact va_up_ne _ _ (by omega)) hst (fun i hi => by rw [hT1, hT2]; exact ⟨hnG_st i hi, hnG_q11 i hi⟩) (by rw [hw1]; exact hzz) hC) (cwV 1 C.2.2.2.2.1 (gU_V mw_416 mw_417 mw_418 mw_2 (subU mw_419)) rfl rfl rfl hdg_X11_block1_V_1 ⟨Nat.le_of_ble_eq_true rfl, Nat.le_of_ble_eq_true rfl⟩) (p_preV C hw (hPx.mem (k := 0) (by omega)) hPx.c0 rfl) rfl rfl hl.1 rfl (lv_room (Nat.le_of_ble_eq_true rfl)) dX11_block_130 ⟨(Nat.le_of_ble_eq_true rfl), (Nat.le_of_ble_eq_true rfl)⟩) hw hA (fun r24 S23 H locs hpost hw => ?_)
                    obtain ⟨V27, hr_, hP25, hF26, hK28⟩ := hpost
                    subst hr_
                    exact (p_iret C hw ⟨T1, ws1, V27, rfl, hP25, hFx.trans hF26, hK28, hw1, (fun k hk => by rw [ews1]; exact va_up_ne _ _ (by omega))⟩ hr hlocks dX11_block_133)
                  · exact absurd h_100 (by first | decide | omega)
                · exact absurd h_79 (by first | decide | omega)
              · exact absurd h_65 (by first | decide | omega)
            · exact absurd h_51 (by first | decide | omega)
        · omega
    · exact absurd h_7 (by first | decide | omega)

theorem hdg_X11_block2_S_0 : yX11_fits.cls ≠ "java/lang/invoke/MethodHandle" ∧ yX11_fits.cls ≠ "java/lang/invoke/VarHandle" ∧ (parseMethodDescriptor yX11_fits.desc).map (fun d => d.parameters.length) = some 2 := by decide +kernel
theorem hdg_X11_block2_V_1 : yX11_putBehind.cls = RX11 ∧ yX11_putBehind.cls ≠ "java/lang/invoke/MethodHandle" ∧ yX11_putBehind.cls ≠ "java/lang/invoke/VarHandle" ∧ (parseMethodDescriptor yX11_putBehind.desc).map (fun d => d.parameters.length) = some 1 := by decide +kernel
set_option maxHeartbeats 4000000 in
set_option maxRecDepth 100000 in
theorem g_X11_block2 (l : Launch) (D : va_G) (cy : Nat → ClassId) (S : pS) (sz : Nat) {G T : Nat → Nat} {n : Nat} {ws : Nat → WV} {l2 : va_E} {V : RV} {k0 a0 b0 c0 : Nat} (hP : Pic cy S G T n ws (.inr (5, [.int (nI k0), .int (nI a0), .int (nI b0), .int (nI c0)])) l2 V) (hk : k0 ≤ 3) (hla : a0 < 2 ^ 30) (hlb : b0 < 2 ^ 30) (hlc : c0 < 2 ^ 30) (q a1 a2 a3 a4 : Nat) (h1 : 2 ≤ q) (h2 : q ≤ 10) (ha1 : a1 < 2 ^ q) (ha2 : a2 < 2 ^ q) (ha3 : a3 < 2 ^ q) (ha4 : a4 < 2 ^ q) (hn : n < 4) (hzz : sSize ((1, 2, q, bwt 2 a1 a2 a3 a4 16)) (V.1 n) ≤ 320) (hC : Cod ws n V) : Met l yX11_block (Cond.code yX11_block cX11_block 8 (some .int) :: lwU) ({ frames := 7, cells := 2, slots := 19, locals := 165 }) (pPc D cy S sz [.ref (G 0), .int (nI 2), .int (nI q), .int (nI a1), .int (nI a2), .int (nI a3), .int (nI a4)]) (pQi D cy S sz (fun r S' => ∃ (T' : Nat → Nat) (ws' : Nat → WV) (V' : RV), r = nI (V'.1 (n + 1)) ∧ Pic cy S' G T' (n + 1) ws' (.inr (5, [.int (nI k0), .int (nI a0), .int (nI b0), .int (nI c0)])) l2 V' ∧ Frm G S S' ∧ Nw (n + 1) ws' k0 a0 b0 c0 V V' ∧ ws' n = ((1, 2, q, bwt 2 a1 a2 a3 a4 16)) ∧ ∀ k, k < n → ws' k = ws k)) 2 19 (pA S sz) := by
  refine Met.ofW (cc := cX11_block) (maxL := 8) (ret := (some .int)) (by decide) rfl ?_
  intro p e s m args below meth c s₁ B hml hv
  obtain ⟨rfl, rfl, C, hw, hA, hr, hlocks⟩ := p_start B hml hv
  have hx := C.1
  have hb := C.2.1
  have hl := lv_entry ([.ref (G 0), .int (nI 2), .int (nI q), .int (nI a1), .int (nI a2), .int (nI a3), .int (nI a4)]) (n := 8) (Nat.le_of_ble_eq_true rfl)
  rw [lg_entry_eq]
  generalize (lg_sl ([.ref (G 0), .int (nI 2), .int (nI q), .int (nI a1), .int (nI a2), .int (nI a3), .int (nI a4)]) ++ List.replicate (8 - (lg_sl ([.ref (G 0), .int (nI 2), .int (nI q), .int (nI a1), .int (nI a2), .int (nI a3), .int (nI a4)])).length) Slot.unset).toArray = ls at hl ⊢
  have hl : lv_has ls 8 [(0, .ref (G 0)), (1, .int (nI 2)), (2, .int (nI q)), (3, .int (nI a1)), (4, .int (nI a2)), (5, .int (nI a3)), (6, .int (nI a4))] := hl
  have hin_RX0 : ∀ w ∈ u_ws RX0 TX0 3, w ∈ (Cond.code yX11_block cX11_block 8 (some .int) :: lwU) := fun w h => mU (sub_RX0 w h)
  have hn4 := hP.n4
  refine lv_iload_n hx hb dX11_block_0 rfl (lv_at hl 1 rfl) ?_
  refine lv_iconst (v := nI 1) hx hb dX11_block_1 (by decide) ?_
  refine n_icmp_lt (tgt := 10) hx hb (by first | decide | omega) (by first | decide | omega) dX11_block_2 (by decide) (fun h_2 => ?_) (fun h_2 => ?_)
  · exact absurd h_2 (by first | decide | omega)
  · skip
    refine lv_iload_n hx hb dX11_block_5 rfl (lv_at hl 1 rfl) ?_
    refine lv_iconst (v := nI 4) hx hb dX11_block_6 (by decide) ?_
    refine n_icmp_le (tgt := 20) hx hb (by first | decide | omega) (by first | decide | omega) dX11_block_7 (by decide) (fun h_7 => ?_) (fun h_7 => ?_)
    · skip
      refine lv_iload_n hx hb dX11_block_20 rfl (lv_at hl 2 rfl) ?_
      refine lv_iload_n hx hb dX11_block_21 rfl (lv_at hl 1 rfl) ?_
      refine n_icmp_lt (tgt := 31) hx hb (by omega) (by omega) dX11_block_22 (by decide) (fun h_22 => ?_) (fun h_22 => ?_)
      · omega
      · skip
        refine lv_iload_n hx hb dX11_block_25 rfl (lv_at hl 2 rfl) ?_
        refine lv_bipush (v := nI 10) hx hb dX11_block_26 (by decide) ?_
        refine n_icmp_le (tgt := 41) hx hb (by omega) (by omega) dX11_block_28 (by decide) (fun h_28 => ?_) (fun h_28 => ?_)
        · skip
          have h2m : 2 ^ q ≤ 1024 := two_pow_10 h2
          refine lv_iload_n hx hb dX11_block_41 rfl (lv_at hl 3 rfl) ?_
          refine lv_iload_n hx hb dX11_block_42 rfl (lv_at hl 2 rfl) ?_
          refine p_calli (va_runS (As := [.int (nI a1), .int (nI q)]) (rest := []) C.fix (c_X11_fits l D cy S s.heap.size (nI a1) q (by omega)) (va_cwS 2 C.2.2.2.2.1 (gU_S mw_108 mw_109 mw_2 sub_X11_fits) rfl rfl rfl hdg_X11_block2_S_0 ⟨Nat.le_of_ble_eq_true rfl, Nat.le_of_ble_eq_true rfl⟩) (p_preS C hw) rfl rfl hl.1 rfl (lv_room (Nat.le_of_ble_eq_true rfl)) dX11_block_43 ⟨(Nat.le_of_ble_eq_true rfl), (Nat.le_of_ble_eq_true rfl)⟩) hw hA (fun r2 S1 H locs hpost hw => ?_)
          obtain ⟨hr_, hS_⟩ := hpost
          have hr_ := hr_.trans (fits1 (by omega) ha1)
          subst hr_
          subst hS_
          refine n_if_eq (tgt := 95) hx hb (by first | decide | omega) dX11_block_46 (by decide) (fun h_46 => ?_) (fun h_46 => ?_)
          · exact absurd h_46 (by first | decide | omega)
          · skip
            refine lv_iload_n hx hb dX11_block_49 rfl (lv_at hl 1 rfl) ?_
            refine lv_iconst (v := nI 2) hx hb dX11_block_50 (by decide) ?_
            refine n_icmp_lt (tgt := 63) hx hb (by first | decide | omega) (by first | decide | omega) dX11_block_51 (by decide) (fun h_51 => ?_) (fun h_51 => ?_)
            · exact absurd h_51 (by first | decide | omega)
            · skip
              refine lv_iload hx hb dX11_block_54 (lv_at hl 4 rfl) ?_
              refine lv_iload_n hx hb dX11_block_56 rfl (lv_at hl 2 rfl) ?_
              refine p_calli (va_runS (As := [.int (nI a2), .int (nI q)]) (rest := []) C.fix (c_X11_fits l D cy S H.size (nI a2) q (by omega)) (va_cwS 2 C.2.2.2.2.1 (gU_S mw_108 mw_109 mw_2 sub_X11_fits) rfl rfl rfl hdg_X11_block2_S_0 ⟨Nat.le_of_ble_eq_true rfl, Nat.le_of_ble_eq_true rfl⟩) (p_preS C hw) rfl rfl hl.1 rfl (lv_room (Nat.le_of_ble_eq_true rfl)) dX11_block_57 ⟨(Nat.le_of_ble_eq_true rfl), (Nat.le_of_ble_eq_true rfl)⟩) hw hA (fun r6 S5 H locs hpost hw => ?_)
              obtain ⟨hr_, hS_⟩ := hpost
              have hr_ := hr_.trans (fits1 (by omega) ha2)
              subst hr_
              subst hS_
              refine n_if_eq (tgt := 95) hx hb (by first | decide | omega) dX11_block_60 (by decide) (fun h_60 => ?_) (fun h_60 => ?_)
              · exact absurd h_60 (by first | decide | omega)
              · skip
                refine lv_iload_n hx hb dX11_block_63 rfl (lv_at hl 1 rfl) ?_
                refine lv_iconst (v := nI 3) hx hb dX11_block_64 (by decide) ?_
                refine n_icmp_lt (tgt := 77) hx hb (by first | decide | omega) (by first | decide | omega) dX11_block_65 (by decide) (fun h_65 => ?_) (fun h_65 => ?_)
                · skip
                  refine lv_iload_n hx hb dX11_block_77 rfl (lv_at hl 1 rfl) ?_
                  refine lv_iconst (v := nI 4) hx hb dX11_block_78 (by decide) ?_
                  refine n_icmp_lt (tgt := 91) hx hb (by first | decide | omega) (by first | decide | omega) dX11_block_79 (by decide) (fun h_79 => ?_) (fun h_79 => ?_)
                  · skip
                    refine lv_iconst (v := nI 1) hx hb dX11_block_91 (by decide) ?_
                    refine lv_goto (tgt := 96) hx hb dX11_block_92 (by decide) ?_
                    refine lv_istore (lv' := [(7, .int (nI 1)), (0, .ref (G 0)), (1, .int (nI 2)), (2, .int (nI q)), (3, .int (nI a1)), (4, .int (nI a2)), (5, .int (nI a3)), (6, .int (nI a4))]) hx hb dX11_block_96 hl (by decide) rfl (fun ls hl => ?_)
                    refine lv_iload hx hb dX11_block_98 (lv_at hl 0 rfl) ?_
                    refine n_if_ne (tgt := 113) hx hb (by first | decide | omega) dX11_block_100 (by decide) (fun h_100 => ?_) (fun h_100 => ?_)
                    · skip
                      refine lv_aload_n hx hb dX11_block_113 rfl (lv_at hl 1 rfl) ?_
                      refine p_new C hw hA (ci := 0) (Cn := RX0) (T := TX0) (N := 3) (fs := [.int (nI 0), .int (nI 0), .null]) tyX0 tyX0_ok rfl hin_RX0 (mU mw_429) (mU mw_430) (mU mw_131) (fun j hj => by rcases (show j = 0 ∨ j = 1 ∨ j = 2 by omega) with rfl | rfl | rfl <;> rfl) (Nat.le_of_ble_eq_true rfl) (Nat.le_of_ble_eq_true rfl) dX11_block_114 (fun st H hq_st hw => ?_)
                      obtain ⟨S9, hS9⟩ : ∃ z, z = pnew S st (.inr (0, [.int (nI 0), .int (nI 0), .null])) := ⟨_, rfl⟩
                      replace hw : pW D (pA S s.heap.size) s.heap S9 H locs := by rw [hS9]; exact hw
                      have hL10 : st ∈ S9.1 := by rw [hS9]; exact List.mem_append_right _ List.mem_cons_self
                      have hf11 : S9.2 st = .inr (0, [.int (nI 0), .int (nI 0), .null]) := by rw [hS9]; exact pnew_s
                      have hP12 := Pic.ext (S' := S9) hP (fun a9 h9 => by rw [hS9]; exact List.mem_append_left _ h9) (fun a9 h9 => by rw [hS9]; exact pnew_n (fun z : a9 = st => hq_st (by rw [← z]; exact h9)))
                      refine lv_dup hx hb dX11_block_117 rfl ?_
                      refine lv_iload_n hx hb dX11_block_118 rfl (lv_at hl 2 rfl) ?_
                      refine lv_iload_n hx hb dX11_block_119 rfl (lv_at hl 3 rfl) ?_
                      refine lv_iload_n hx hb dX11_block_120 rfl (lv_at hl 4 rfl) ?_
                      refine lv_iload hx hb dX11_block_121 (lv_at hl 5 rfl) ?_
                      refine lv_iload hx hb dX11_block_123 (lv_at hl 6 rfl) ?_
                      refine lv_iload hx hb dX11_block_125 (lv_at hl 7 rfl) ?_
                      refine p_callv (va_runI (As := [.int (nI 2), .int (nI q), .int (nI a1), .int (nI a2), .int (nI a3), .int (nI a4)]) (rest := [.ref st, .ref (G 0)]) C.fix (c_X0_init l D cy S9 H.size st 0 0 2 q a1 a2 a3 a4 (nI a1) (nI a2) (nI a3) (nI a4) hL10 hf11 (by first | assumption | decide | omega) (fun _ => rfl) (fun _ => rfl) (fun _ => rfl) (fun _ => rfl)) (cwI 6 C.2.2.2.2.1 (gU_sub sub_X0_init) rfl rfl rfl (C.2.2.2.2.1 (.initialized RX0) (mU mw_131)) (C.2.2.2.2.1 (.methodLink RX11 114 yX0_init) (mU mw_431)) (C.2.2.2.2.1 (.instanceMethod yX0_init) (mU mw_432)) rfl (by decide +kernel) ⟨Nat.le_of_ble_eq_true rfl, Nat.le_of_ble_eq_true rfl⟩) (p_preS C hw) rfl rfl hl.1 rfl (lv_room (Nat.le_of_ble_eq_true rfl)) dX11_block_127 ⟨(Nat.le_of_ble_eq_true rfl), (Nat.le_of_ble_eq_true rfl)⟩) hw hA (fun S13 H locs hpost hw => ?_)
                      obtain ⟨q15, hp16, hS_⟩ := hpost
                      obtain ⟨S17, hS17⟩ : ∃ z, z = pnew S9 q15 (aN (cy 0) 16 (bwt 2 a1 a2 a3 a4 16)) := ⟨_, rfl⟩
                      rw [← hS17] at hS_
                      have hL18 : q15 ∈ S17.1 := by rw [hS17]; exact List.mem_append_right _ List.mem_cons_self
                      have hf19 : S17.2 q15 = aN (cy 0) 16 (bwt 2 a1 a2 a3 a4 16) := by rw [hS17]; exact pnew_s
                      have hL20 : st ∈ S17.1 := by rw [hS17]; exact List.mem_append_left _ hL10
                      have hf21 : S17.2 st = .inr (0, [.int (nI 0), .int (nI 0), .null]) := by rw [hS17]; exact (pnew_n (fun z : st = q15 => hp16 (by rw [← z]; exact hL10))).trans hf11
                      have hS22 := hS_
                      have hL23 : st ∈ S13.1 := by rw [hS22]; exact hL20
                      have hf24 : S13.2 st = .inr (0, [.int (nI 2), .int (nI q), .ref q15]) := by rw [hS22]; exact pup_s
                      have hSx : S13.1 = S.1 ++ ([st] ++ [q15]) := (by simp only [hS22, hS17, hS9, pup, pnew, List.append_nil, List.append_assoc, List.cons_append, List.nil_append])
                      have hmx : ∀ a, a ∈ S.1 → a ∈ S13.1 := fun a h => by rw [hSx]; exact List.mem_append_left _ h
                      have hcx : ∀ a_, a_ ∈ S.1 → S13.2 a_ = S.2 a_ := (fun a_ ha_ => ((show S13.2 a_ = S17.2 a_ from by rw [hS22]; exact pup_n (fun z : a_ = st => hq_st (by rw [← z]; exact ha_))).trans ((show S17.2 a_ = S9.2 a_ from by rw [hS17]; exact pnew_n (fun z : a_ = q15 => hp16 (by rw [← z]; exact (show a_ ∈ S9.1 from by rw [hS9]; exact List.mem_append_left _ ha_)))).trans (show S9.2 a_ = S.2 a_ from by rw [hS9]; exact pnew_n (fun z : a_ = st => hq_st (by rw [← z]; exact ha_))))))
                      have hPx := hP.ext hmx hcx
                      have hFx : Frm G S S13 := ⟨hmx, fun a h _ => hcx a h⟩
                      have hL25 : q15 ∈ S13.1 := by rw [hS22]; exact hL18
                      have hf26 : S13.2 q15 = aN (cy 0) 16 (bwt 2 a1 a2 a3 a4 16) := by rw [hS22]; exact (pup_n (fun z : q15 = st => hp16 (by rw [z]; exact hL10))).trans hf19
                      have hT1 : (va_up (va_up T (2 * n) st) (2 * n + 1) q15) (2 * n) = st := (va_up_ne _ _ (by omega)).trans (va_up_self _ _ _)
                      have hT2 : (va_up (va_up T (2 * n) st) (2 * n + 1) q15) (2 * n + 1) = q15 := va_up_self _ _ _
                      have hT3 : ∀ k, k < 2 * n → (va_up (va_up T (2 * n) st) (2 * n + 1) q15) k = T k := fun k hk => (va_up_ne _ _ (by omega)).trans (va_up_ne _ _ (by omega))
                      have hw1 : (va_up ws n ((1, 2, q, bwt 2 a1 a2 a3 a4 16))) n = ((1, 2, q, bwt 2 a1 a2 a3 a4 16)) := va_up_self _ _ _
                      obtain ⟨T1, eT1⟩ : ∃ z, z = va_up (va_up T (2 * n) st) (2 * n + 1) q15 := ⟨_, rfl⟩
                      rw [← eT1] at hT1 hT2 hT3
                      obtain ⟨ws1, ews1⟩ : ∃ z, z = va_up ws n ((1, 2, q, bwt 2 a1 a2 a3 a4 16)) := ⟨_, rfl⟩
                      rw [← ews1] at hw1
                      have hnG_st : ∀ i, i < 53 → st ≠ G i := fun i hi z => hq_st (by rw [z]; exact hP.mem hi)
                      have hnG_q15 : ∀ i, i < 53 → q15 ≠ G i := fun i hi z => (fun h9 => hp16 (show _ ∈ S9.1 from by rw [hS9]; exact List.mem_append_left _ h9)) (by rw [z]; exact hP.mem hi)
                      have hst : gStg cy S13 G T1 (ws1 n) n := by
                        unfold gStg gst; rw [hT1, hT2, hw1]
                        exact ⟨Or.inr (Or.inl ⟨rfl, (show 1 ≤ 2 by decide), (show 2 ≤ 4 by decide), h1, h2, a1, a2, a3, a4, ha1, ha2, ha3, ha4, rfl⟩), hf24, fun _ => hf26, fun z => absurd z (show ¬ (1 : Nat) = 3 by decide), hL23, hL25⟩
                      refine p_calli (va_runV (As := [.ref st]) (rest := []) C.fix (g_X11_putBehind l D cy S13 H.size hPx hk hla hlb hlc st hT1 hn hT3 (fun k hk => by rw [ews1]; exact va_up_ne _ _ (by omega)) hst (fun i hi => by rw [hT1, hT2]; exact ⟨hnG_st i hi, hnG_q15 i hi⟩) (by rw [hw1]; exact hzz) hC) (cwV 1 C.2.2.2.2.1 (gU_V mw_416 mw_417 mw_418 mw_2 (subU mw_419)) rfl rfl rfl hdg_X11_block2_V_1 ⟨Nat.le_of_ble_eq_true rfl, Nat.le_of_ble_eq_true rfl⟩) (p_preV C hw (hPx.mem (k := 0) (by omega)) hPx.c0 rfl) rfl rfl hl.1 rfl (lv_room (Nat.le_of_ble_eq_true rfl)) dX11_block_130 ⟨(Nat.le_of_ble_eq_true rfl), (Nat.le_of_ble_eq_true rfl)⟩) hw hA (fun r28 S27 H locs hpost hw => ?_)
                      obtain ⟨V31, hr_, hP29, hF30, hK32⟩ := hpost
                      subst hr_
                      exact (p_iret C hw ⟨T1, ws1, V31, rfl, hP29, hFx.trans hF30, hK32, hw1, (fun k hk => by rw [ews1]; exact va_up_ne _ _ (by omega))⟩ hr hlocks dX11_block_133)
                    · exact absurd h_100 (by first | decide | omega)
                  · exact absurd h_79 (by first | decide | omega)
                · exact absurd h_65 (by first | decide | omega)
        · omega
    · exact absurd h_7 (by first | decide | omega)

theorem hdg_X11_block3_S_0 : yX11_fits.cls ≠ "java/lang/invoke/MethodHandle" ∧ yX11_fits.cls ≠ "java/lang/invoke/VarHandle" ∧ (parseMethodDescriptor yX11_fits.desc).map (fun d => d.parameters.length) = some 2 := by decide +kernel
theorem hdg_X11_block3_V_1 : yX11_putBehind.cls = RX11 ∧ yX11_putBehind.cls ≠ "java/lang/invoke/MethodHandle" ∧ yX11_putBehind.cls ≠ "java/lang/invoke/VarHandle" ∧ (parseMethodDescriptor yX11_putBehind.desc).map (fun d => d.parameters.length) = some 1 := by decide +kernel
set_option maxHeartbeats 4000000 in
set_option maxRecDepth 100000 in
theorem g_X11_block3 (l : Launch) (D : va_G) (cy : Nat → ClassId) (S : pS) (sz : Nat) {G T : Nat → Nat} {n : Nat} {ws : Nat → WV} {l2 : va_E} {V : RV} {k0 a0 b0 c0 : Nat} (hP : Pic cy S G T n ws (.inr (5, [.int (nI k0), .int (nI a0), .int (nI b0), .int (nI c0)])) l2 V) (hk : k0 ≤ 3) (hla : a0 < 2 ^ 30) (hlb : b0 < 2 ^ 30) (hlc : c0 < 2 ^ 30) (q a1 a2 a3 a4 : Nat) (h1 : 3 ≤ q) (h2 : q ≤ 10) (ha1 : a1 < 2 ^ q) (ha2 : a2 < 2 ^ q) (ha3 : a3 < 2 ^ q) (ha4 : a4 < 2 ^ q) (hn : n < 4) (hzz : sSize ((1, 3, q, bwt 3 a1 a2 a3 a4 16)) (V.1 n) ≤ 320) (hC : Cod ws n V) : Met l yX11_block (Cond.code yX11_block cX11_block 8 (some .int) :: lwU) ({ frames := 7, cells := 2, slots := 19, locals := 165 }) (pPc D cy S sz [.ref (G 0), .int (nI 3), .int (nI q), .int (nI a1), .int (nI a2), .int (nI a3), .int (nI a4)]) (pQi D cy S sz (fun r S' => ∃ (T' : Nat → Nat) (ws' : Nat → WV) (V' : RV), r = nI (V'.1 (n + 1)) ∧ Pic cy S' G T' (n + 1) ws' (.inr (5, [.int (nI k0), .int (nI a0), .int (nI b0), .int (nI c0)])) l2 V' ∧ Frm G S S' ∧ Nw (n + 1) ws' k0 a0 b0 c0 V V' ∧ ws' n = ((1, 3, q, bwt 3 a1 a2 a3 a4 16)) ∧ ∀ k, k < n → ws' k = ws k)) 2 19 (pA S sz) := by
  refine Met.ofW (cc := cX11_block) (maxL := 8) (ret := (some .int)) (by decide) rfl ?_
  intro p e s m args below meth c s₁ B hml hv
  obtain ⟨rfl, rfl, C, hw, hA, hr, hlocks⟩ := p_start B hml hv
  have hx := C.1
  have hb := C.2.1
  have hl := lv_entry ([.ref (G 0), .int (nI 3), .int (nI q), .int (nI a1), .int (nI a2), .int (nI a3), .int (nI a4)]) (n := 8) (Nat.le_of_ble_eq_true rfl)
  rw [lg_entry_eq]
  generalize (lg_sl ([.ref (G 0), .int (nI 3), .int (nI q), .int (nI a1), .int (nI a2), .int (nI a3), .int (nI a4)]) ++ List.replicate (8 - (lg_sl ([.ref (G 0), .int (nI 3), .int (nI q), .int (nI a1), .int (nI a2), .int (nI a3), .int (nI a4)])).length) Slot.unset).toArray = ls at hl ⊢
  have hl : lv_has ls 8 [(0, .ref (G 0)), (1, .int (nI 3)), (2, .int (nI q)), (3, .int (nI a1)), (4, .int (nI a2)), (5, .int (nI a3)), (6, .int (nI a4))] := hl
  have hin_RX0 : ∀ w ∈ u_ws RX0 TX0 3, w ∈ (Cond.code yX11_block cX11_block 8 (some .int) :: lwU) := fun w h => mU (sub_RX0 w h)
  have hn4 := hP.n4
  refine lv_iload_n hx hb dX11_block_0 rfl (lv_at hl 1 rfl) ?_
  refine lv_iconst (v := nI 1) hx hb dX11_block_1 (by decide) ?_
  refine n_icmp_lt (tgt := 10) hx hb (by first | decide | omega) (by first | decide | omega) dX11_block_2 (by decide) (fun h_2 => ?_) (fun h_2 => ?_)
  · exact absurd h_2 (by first | decide | omega)
  · skip
    refine lv_iload_n hx hb dX11_block_5 rfl (lv_at hl 1 rfl) ?_
    refine lv_iconst (v := nI 4) hx hb dX11_block_6 (by decide) ?_
    refine n_icmp_le (tgt := 20) hx hb (by first | decide | omega) (by first | decide | omega) dX11_block_7 (by decide) (fun h_7 => ?_) (fun h_7 => ?_)
    · skip
      refine lv_iload_n hx hb dX11_block_20 rfl (lv_at hl 2 rfl) ?_
      refine lv_iload_n hx hb dX11_block_21 rfl (lv_at hl 1 rfl) ?_
      refine n_icmp_lt (tgt := 31) hx hb (by omega) (by omega) dX11_block_22 (by decide) (fun h_22 => ?_) (fun h_22 => ?_)
      · omega
      · skip
        refine lv_iload_n hx hb dX11_block_25 rfl (lv_at hl 2 rfl) ?_
        refine lv_bipush (v := nI 10) hx hb dX11_block_26 (by decide) ?_
        refine n_icmp_le (tgt := 41) hx hb (by omega) (by omega) dX11_block_28 (by decide) (fun h_28 => ?_) (fun h_28 => ?_)
        · skip
          have h2m : 2 ^ q ≤ 1024 := two_pow_10 h2
          refine lv_iload_n hx hb dX11_block_41 rfl (lv_at hl 3 rfl) ?_
          refine lv_iload_n hx hb dX11_block_42 rfl (lv_at hl 2 rfl) ?_
          refine p_calli (va_runS (As := [.int (nI a1), .int (nI q)]) (rest := []) C.fix (c_X11_fits l D cy S s.heap.size (nI a1) q (by omega)) (va_cwS 2 C.2.2.2.2.1 (gU_S mw_108 mw_109 mw_2 sub_X11_fits) rfl rfl rfl hdg_X11_block3_S_0 ⟨Nat.le_of_ble_eq_true rfl, Nat.le_of_ble_eq_true rfl⟩) (p_preS C hw) rfl rfl hl.1 rfl (lv_room (Nat.le_of_ble_eq_true rfl)) dX11_block_43 ⟨(Nat.le_of_ble_eq_true rfl), (Nat.le_of_ble_eq_true rfl)⟩) hw hA (fun r2 S1 H locs hpost hw => ?_)
          obtain ⟨hr_, hS_⟩ := hpost
          have hr_ := hr_.trans (fits1 (by omega) ha1)
          subst hr_
          subst hS_
          refine n_if_eq (tgt := 95) hx hb (by first | decide | omega) dX11_block_46 (by decide) (fun h_46 => ?_) (fun h_46 => ?_)
          · exact absurd h_46 (by first | decide | omega)
          · skip
            refine lv_iload_n hx hb dX11_block_49 rfl (lv_at hl 1 rfl) ?_
            refine lv_iconst (v := nI 2) hx hb dX11_block_50 (by decide) ?_
            refine n_icmp_lt (tgt := 63) hx hb (by first | decide | omega) (by first | decide | omega) dX11_block_51 (by decide) (fun h_51 => ?_) (fun h_51 => ?_)
            · exact absurd h_51 (by first | decide | omega)
            · skip
              refine lv_iload hx hb dX11_block_54 (lv_at hl 4 rfl) ?_
              refine lv_iload_n hx hb dX11_block_56 rfl (lv_at hl 2 rfl) ?_
              refine p_calli (va_runS (As := [.int (nI a2), .int (nI q)]) (rest := []) C.fix (c_X11_fits l D cy S H.size (nI a2) q (by omega)) (va_cwS 2 C.2.2.2.2.1 (gU_S mw_108 mw_109 mw_2 sub_X11_fits) rfl rfl rfl hdg_X11_block3_S_0 ⟨Nat.le_of_ble_eq_true rfl, Nat.le_of_ble_eq_true rfl⟩) (p_preS C hw) rfl rfl hl.1 rfl (lv_room (Nat.le_of_ble_eq_true rfl)) dX11_block_57 ⟨(Nat.le_of_ble_eq_true rfl), (Nat.le_of_ble_eq_true rfl)⟩) hw hA (fun r6 S5 H locs hpost hw => ?_)
              obtain ⟨hr_, hS_⟩ := hpost
              have hr_ := hr_.trans (fits1 (by omega) ha2)
              subst hr_
              subst hS_
              refine n_if_eq (tgt := 95) hx hb (by first | decide | omega) dX11_block_60 (by decide) (fun h_60 => ?_) (fun h_60 => ?_)
              · exact absurd h_60 (by first | decide | omega)
              · skip
                refine lv_iload_n hx hb dX11_block_63 rfl (lv_at hl 1 rfl) ?_
                refine lv_iconst (v := nI 3) hx hb dX11_block_64 (by decide) ?_
                refine n_icmp_lt (tgt := 77) hx hb (by first | decide | omega) (by first | decide | omega) dX11_block_65 (by decide) (fun h_65 => ?_) (fun h_65 => ?_)
                · exact absurd h_65 (by first | decide | omega)
                · skip
                  refine lv_iload hx hb dX11_block_68 (lv_at hl 5 rfl) ?_
                  refine lv_iload_n hx hb dX11_block_70 rfl (lv_at hl 2 rfl) ?_
                  refine p_calli (va_runS (As := [.int (nI a3), .int (nI q)]) (rest := []) C.fix (c_X11_fits l D cy S H.size (nI a3) q (by omega)) (va_cwS 2 C.2.2.2.2.1 (gU_S mw_108 mw_109 mw_2 sub_X11_fits) rfl rfl rfl hdg_X11_block3_S_0 ⟨Nat.le_of_ble_eq_true rfl, Nat.le_of_ble_eq_true rfl⟩) (p_preS C hw) rfl rfl hl.1 rfl (lv_room (Nat.le_of_ble_eq_true rfl)) dX11_block_71 ⟨(Nat.le_of_ble_eq_true rfl), (Nat.le_of_ble_eq_true rfl)⟩) hw hA (fun r10 S9 H locs hpost hw => ?_)
                  obtain ⟨hr_, hS_⟩ := hpost
                  have hr_ := hr_.trans (fits1 (by omega) ha3)
                  subst hr_
                  subst hS_
                  refine n_if_eq (tgt := 95) hx hb (by first | decide | omega) dX11_block_74 (by decide) (fun h_74 => ?_) (fun h_74 => ?_)
                  · exact absurd h_74 (by first | decide | omega)
                  · skip
                    refine lv_iload_n hx hb dX11_block_77 rfl (lv_at hl 1 rfl) ?_
                    refine lv_iconst (v := nI 4) hx hb dX11_block_78 (by decide) ?_
                    refine n_icmp_lt (tgt := 91) hx hb (by first | decide | omega) (by first | decide | omega) dX11_block_79 (by decide) (fun h_79 => ?_) (fun h_79 => ?_)
                    · skip
                      refine lv_iconst (v := nI 1) hx hb dX11_block_91 (by decide) ?_
                      refine lv_goto (tgt := 96) hx hb dX11_block_92 (by decide) ?_
                      refine lv_istore (lv' := [(7, .int (nI 1)), (0, .ref (G 0)), (1, .int (nI 3)), (2, .int (nI q)), (3, .int (nI a1)), (4, .int (nI a2)), (5, .int (nI a3)), (6, .int (nI a4))]) hx hb dX11_block_96 hl (by decide) rfl (fun ls hl => ?_)
                      refine lv_iload hx hb dX11_block_98 (lv_at hl 0 rfl) ?_
                      refine n_if_ne (tgt := 113) hx hb (by first | decide | omega) dX11_block_100 (by decide) (fun h_100 => ?_) (fun h_100 => ?_)
                      · skip
                        refine lv_aload_n hx hb dX11_block_113 rfl (lv_at hl 1 rfl) ?_
                        refine p_new C hw hA (ci := 0) (Cn := RX0) (T := TX0) (N := 3) (fs := [.int (nI 0), .int (nI 0), .null]) tyX0 tyX0_ok rfl hin_RX0 (mU mw_429) (mU mw_430) (mU mw_131) (fun j hj => by rcases (show j = 0 ∨ j = 1 ∨ j = 2 by omega) with rfl | rfl | rfl <;> rfl) (Nat.le_of_ble_eq_true rfl) (Nat.le_of_ble_eq_true rfl) dX11_block_114 (fun st H hq_st hw => ?_)
                        obtain ⟨S13, hS13⟩ : ∃ z, z = pnew S st (.inr (0, [.int (nI 0), .int (nI 0), .null])) := ⟨_, rfl⟩
                        replace hw : pW D (pA S s.heap.size) s.heap S13 H locs := by rw [hS13]; exact hw
                        have hL14 : st ∈ S13.1 := by rw [hS13]; exact List.mem_append_right _ List.mem_cons_self
                        have hf15 : S13.2 st = .inr (0, [.int (nI 0), .int (nI 0), .null]) := by rw [hS13]; exact pnew_s
                        have hP16 := Pic.ext (S' := S13) hP (fun a9 h9 => by rw [hS13]; exact List.mem_append_left _ h9) (fun a9 h9 => by rw [hS13]; exact pnew_n (fun z : a9 = st => hq_st (by rw [← z]; exact h9)))
                        refine lv_dup hx hb dX11_block_117 rfl ?_
                        refine lv_iload_n hx hb dX11_block_118 rfl (lv_at hl 2 rfl) ?_
                        refine lv_iload_n hx hb dX11_block_119 rfl (lv_at hl 3 rfl) ?_
                        refine lv_iload_n hx hb dX11_block_120 rfl (lv_at hl 4 rfl) ?_
                        refine lv_iload hx hb dX11_block_121 (lv_at hl 5 rfl) ?_
                        refine lv_iload hx hb dX11_block_123 (lv_at hl 6 rfl) ?_
                        refine lv_iload hx hb dX11_block_125 (lv_at hl 7 rfl) ?_
                        refine p_callv (va_runI (As := [.int (nI 3), .int (nI q), .int (nI a1), .int (nI a2), .int (nI a3), .int (nI a4)]) (rest := [.ref st, .ref (G 0)]) C.fix (c_X0_init l D cy S13 H.size st 0 0 3 q a1 a2 a3 a4 (nI a1) (nI a2) (nI a3) (nI a4) hL14 hf15 (by first | assumption | decide | omega) (fun _ => rfl) (fun _ => rfl) (fun _ => rfl) (fun _ => rfl)) (cwI 6 C.2.2.2.2.1 (gU_sub sub_X0_init) rfl rfl rfl (C.2.2.2.2.1 (.initialized RX0) (mU mw_131)) (C.2.2.2.2.1 (.methodLink RX11 114 yX0_init) (mU mw_431)) (C.2.2.2.2.1 (.instanceMethod yX0_init) (mU mw_432)) rfl (by decide +kernel) ⟨Nat.le_of_ble_eq_true rfl, Nat.le_of_ble_eq_true rfl⟩) (p_preS C hw) rfl rfl hl.1 rfl (lv_room (Nat.le_of_ble_eq_true rfl)) dX11_block_127 ⟨(Nat.le_of_ble_eq_true rfl), (Nat.le_of_ble_eq_true rfl)⟩) hw hA (fun S17 H locs hpost hw => ?_)
                        obtain ⟨q19, hp20, hS_⟩ := hpost
                        obtain ⟨S21, hS21⟩ : ∃ z, z = pnew S13 q19 (aN (cy 0) 16 (bwt 3 a1 a2 a3 a4 16)) := ⟨_, rfl⟩
                        rw [← hS21] at hS_
                        have hL22 : q19 ∈ S21.1 := by rw [hS21]; exact List.mem_append_right _ List.mem_cons_self
                        have hf23 : S21.2 q19 = aN (cy 0) 16 (bwt 3 a1 a2 a3 a4 16) := by rw [hS21]; exact pnew_s
                        have hL24 : st ∈ S21.1 := by rw [hS21]; exact List.mem_append_left _ hL14
                        have hf25 : S21.2 st = .inr (0, [.int (nI 0), .int (nI 0), .null]) := by rw [hS21]; exact (pnew_n (fun z : st = q19 => hp20 (by rw [← z]; exact hL14))).trans hf15
                        have hS26 := hS_
                        have hL27 : st ∈ S17.1 := by rw [hS26]; exact hL24
                        have hf28 : S17.2 st = .inr (0, [.int (nI 3), .int (nI q), .ref q19]) := by rw [hS26]; exact pup_s
                        have hSx : S17.1 = S.1 ++ ([st] ++ [q19]) := (by simp only [hS26, hS21, hS13, pup, pnew, List.append_nil, List.append_assoc, List.cons_append, List.nil_append])
                        have hmx : ∀ a, a ∈ S.1 → a ∈ S17.1 := fun a h => by rw [hSx]; exact List.mem_append_left _ h
                        have hcx : ∀ a_, a_ ∈ S.1 → S17.2 a_ = S.2 a_ := (fun a_ ha_ => ((show S17.2 a_ = S21.2 a_ from by rw [hS26]; exact pup_n (fun z : a_ = st => hq_st (by rw [← z]; exact ha_))).trans ((show S21.2 a_ = S13.2 a_ from by rw [hS21]; exact pnew_n (fun z : a_ = q19 => hp20 (by rw [← z]; exact (show a_ ∈ S13.1 from by rw [hS13]; exact List.mem_append_left _ ha_)))).trans (show S13.2 a_ = S.2 a_ from by rw [hS13]; exact pnew_n (fun z : a_ = st => hq_st (by rw [← z]; exact ha_))))))
                        have hPx := hP.ext hmx hcx
                        have hFx : Frm G S S17 := ⟨hmx, fun a h _ => hcx a h⟩
                        have hL29 : q19 ∈ S17.1 := by rw [hS26]; exact hL22
                        have hf30 : S17.2 q19 = aN (cy 0) 16 (bwt 3 a1 a2 a3 a4 16) := by rw [hS26]; exact (pup_n (fun z : q19 = st => hp20 (by rw [z]; exact hL14))).trans hf23
                        have hT1 : (va_up (va_up T (2 * n) st) (2 * n + 1) q19) (2 * n) = st := (va_up_ne _ _ (by omega)).trans (va_up_self _ _ _)
                        have hT2 : (va_up (va_up T (2 * n) st) (2 * n + 1) q19) (2 * n + 1) = q19 := va_up_self _ _ _
                        have hT3 : ∀ k, k < 2 * n → (va_up (va_up T (2 * n) st) (2 * n + 1) q19) k = T k := fun k hk => (va_up_ne _ _ (by omega)).trans (va_up_ne _ _ (by omega))
                        have hw1 : (va_up ws n ((1, 3, q, bwt 3 a1 a2 a3 a4 16))) n = ((1, 3, q, bwt 3 a1 a2 a3 a4 16)) := va_up_self _ _ _
                        obtain ⟨T1, eT1⟩ : ∃ z, z = va_up (va_up T (2 * n) st) (2 * n + 1) q19 := ⟨_, rfl⟩
                        rw [← eT1] at hT1 hT2 hT3
                        obtain ⟨ws1, ews1⟩ : ∃ z, z = va_up ws n ((1, 3, q, bwt 3 a1 a2 a3 a4 16)) := ⟨_, rfl⟩
                        rw [← ews1] at hw1
                        have hnG_st : ∀ i, i < 53 → st ≠ G i := fun i hi z => hq_st (by rw [z]; exact hP.mem hi)
                        have hnG_q19 : ∀ i, i < 53 → q19 ≠ G i := fun i hi z => (fun h9 => hp20 (show _ ∈ S13.1 from by rw [hS13]; exact List.mem_append_left _ h9)) (by rw [z]; exact hP.mem hi)
                        have hst : gStg cy S17 G T1 (ws1 n) n := by
                          unfold gStg gst; rw [hT1, hT2, hw1]
                          exact ⟨Or.inr (Or.inl ⟨rfl, (show 1 ≤ 3 by decide), (show 3 ≤ 4 by decide), h1, h2, a1, a2, a3, a4, ha1, ha2, ha3, ha4, rfl⟩), hf28, fun _ => hf30, fun z => absurd z (show ¬ (1 : Nat) = 3 by decide), hL27, hL29⟩
                        refine p_calli (va_runV (As := [.ref st]) (rest := []) C.fix (g_X11_putBehind l D cy S17 H.size hPx hk hla hlb hlc st hT1 hn hT3 (fun k hk => by rw [ews1]; exact va_up_ne _ _ (by omega)) hst (fun i hi => by rw [hT1, hT2]; exact ⟨hnG_st i hi, hnG_q19 i hi⟩) (by rw [hw1]; exact hzz) hC) (cwV 1 C.2.2.2.2.1 (gU_V mw_416 mw_417 mw_418 mw_2 (subU mw_419)) rfl rfl rfl hdg_X11_block3_V_1 ⟨Nat.le_of_ble_eq_true rfl, Nat.le_of_ble_eq_true rfl⟩) (p_preV C hw (hPx.mem (k := 0) (by omega)) hPx.c0 rfl) rfl rfl hl.1 rfl (lv_room (Nat.le_of_ble_eq_true rfl)) dX11_block_130 ⟨(Nat.le_of_ble_eq_true rfl), (Nat.le_of_ble_eq_true rfl)⟩) hw hA (fun r32 S31 H locs hpost hw => ?_)
                        obtain ⟨V35, hr_, hP33, hF34, hK36⟩ := hpost
                        subst hr_
                        exact (p_iret C hw ⟨T1, ws1, V35, rfl, hP33, hFx.trans hF34, hK36, hw1, (fun k hk => by rw [ews1]; exact va_up_ne _ _ (by omega))⟩ hr hlocks dX11_block_133)
                      · exact absurd h_100 (by first | decide | omega)
                    · exact absurd h_79 (by first | decide | omega)
        · omega
    · exact absurd h_7 (by first | decide | omega)

theorem hdg_X11_block4_S_0 : yX11_fits.cls ≠ "java/lang/invoke/MethodHandle" ∧ yX11_fits.cls ≠ "java/lang/invoke/VarHandle" ∧ (parseMethodDescriptor yX11_fits.desc).map (fun d => d.parameters.length) = some 2 := by decide +kernel
theorem hdg_X11_block4_V_1 : yX11_putBehind.cls = RX11 ∧ yX11_putBehind.cls ≠ "java/lang/invoke/MethodHandle" ∧ yX11_putBehind.cls ≠ "java/lang/invoke/VarHandle" ∧ (parseMethodDescriptor yX11_putBehind.desc).map (fun d => d.parameters.length) = some 1 := by decide +kernel
set_option maxHeartbeats 4000000 in
set_option maxRecDepth 100000 in
theorem g_X11_block4 (l : Launch) (D : va_G) (cy : Nat → ClassId) (S : pS) (sz : Nat) {G T : Nat → Nat} {n : Nat} {ws : Nat → WV} {l2 : va_E} {V : RV} {k0 a0 b0 c0 : Nat} (hP : Pic cy S G T n ws (.inr (5, [.int (nI k0), .int (nI a0), .int (nI b0), .int (nI c0)])) l2 V) (hk : k0 ≤ 3) (hla : a0 < 2 ^ 30) (hlb : b0 < 2 ^ 30) (hlc : c0 < 2 ^ 30) (q a1 a2 a3 a4 : Nat) (h1 : 4 ≤ q) (h2 : q ≤ 10) (ha1 : a1 < 2 ^ q) (ha2 : a2 < 2 ^ q) (ha3 : a3 < 2 ^ q) (ha4 : a4 < 2 ^ q) (hn : n < 4) (hzz : sSize ((1, 4, q, bwt 4 a1 a2 a3 a4 16)) (V.1 n) ≤ 320) (hC : Cod ws n V) : Met l yX11_block (Cond.code yX11_block cX11_block 8 (some .int) :: lwU) ({ frames := 7, cells := 2, slots := 19, locals := 165 }) (pPc D cy S sz [.ref (G 0), .int (nI 4), .int (nI q), .int (nI a1), .int (nI a2), .int (nI a3), .int (nI a4)]) (pQi D cy S sz (fun r S' => ∃ (T' : Nat → Nat) (ws' : Nat → WV) (V' : RV), r = nI (V'.1 (n + 1)) ∧ Pic cy S' G T' (n + 1) ws' (.inr (5, [.int (nI k0), .int (nI a0), .int (nI b0), .int (nI c0)])) l2 V' ∧ Frm G S S' ∧ Nw (n + 1) ws' k0 a0 b0 c0 V V' ∧ ws' n = ((1, 4, q, bwt 4 a1 a2 a3 a4 16)) ∧ ∀ k, k < n → ws' k = ws k)) 2 19 (pA S sz) := by
  refine Met.ofW (cc := cX11_block) (maxL := 8) (ret := (some .int)) (by decide) rfl ?_
  intro p e s m args below meth c s₁ B hml hv
  obtain ⟨rfl, rfl, C, hw, hA, hr, hlocks⟩ := p_start B hml hv
  have hx := C.1
  have hb := C.2.1
  have hl := lv_entry ([.ref (G 0), .int (nI 4), .int (nI q), .int (nI a1), .int (nI a2), .int (nI a3), .int (nI a4)]) (n := 8) (Nat.le_of_ble_eq_true rfl)
  rw [lg_entry_eq]
  generalize (lg_sl ([.ref (G 0), .int (nI 4), .int (nI q), .int (nI a1), .int (nI a2), .int (nI a3), .int (nI a4)]) ++ List.replicate (8 - (lg_sl ([.ref (G 0), .int (nI 4), .int (nI q), .int (nI a1), .int (nI a2), .int (nI a3), .int (nI a4)])).length) Slot.unset).toArray = ls at hl ⊢
  have hl : lv_has ls 8 [(0, .ref (G 0)), (1, .int (nI 4)), (2, .int (nI q)), (3, .int (nI a1)), (4, .int (nI a2)), (5, .int (nI a3)), (6, .int (nI a4))] := hl
  have hin_RX0 : ∀ w ∈ u_ws RX0 TX0 3, w ∈ (Cond.code yX11_block cX11_block 8 (some .int) :: lwU) := fun w h => mU (sub_RX0 w h)
  have hn4 := hP.n4
  refine lv_iload_n hx hb dX11_block_0 rfl (lv_at hl 1 rfl) ?_
  refine lv_iconst (v := nI 1) hx hb dX11_block_1 (by decide) ?_
  refine n_icmp_lt (tgt := 10) hx hb (by first | decide | omega) (by first | decide | omega) dX11_block_2 (by decide) (fun h_2 => ?_) (fun h_2 => ?_)
  · exact absurd h_2 (by first | decide | omega)
  · skip
    refine lv_iload_n hx hb dX11_block_5 rfl (lv_at hl 1 rfl) ?_
    refine lv_iconst (v := nI 4) hx hb dX11_block_6 (by decide) ?_
    refine n_icmp_le (tgt := 20) hx hb (by first | decide | omega) (by first | decide | omega) dX11_block_7 (by decide) (fun h_7 => ?_) (fun h_7 => ?_)
    · skip
      refine lv_iload_n hx hb dX11_block_20 rfl (lv_at hl 2 rfl) ?_
      refine lv_iload_n hx hb dX11_block_21 rfl (lv_at hl 1 rfl) ?_
      refine n_icmp_lt (tgt := 31) hx hb (by omega) (by omega) dX11_block_22 (by decide) (fun h_22 => ?_) (fun h_22 => ?_)
      · omega
      · skip
        refine lv_iload_n hx hb dX11_block_25 rfl (lv_at hl 2 rfl) ?_
        refine lv_bipush (v := nI 10) hx hb dX11_block_26 (by decide) ?_
        refine n_icmp_le (tgt := 41) hx hb (by omega) (by omega) dX11_block_28 (by decide) (fun h_28 => ?_) (fun h_28 => ?_)
        · skip
          have h2m : 2 ^ q ≤ 1024 := two_pow_10 h2
          refine lv_iload_n hx hb dX11_block_41 rfl (lv_at hl 3 rfl) ?_
          refine lv_iload_n hx hb dX11_block_42 rfl (lv_at hl 2 rfl) ?_
          refine p_calli (va_runS (As := [.int (nI a1), .int (nI q)]) (rest := []) C.fix (c_X11_fits l D cy S s.heap.size (nI a1) q (by omega)) (va_cwS 2 C.2.2.2.2.1 (gU_S mw_108 mw_109 mw_2 sub_X11_fits) rfl rfl rfl hdg_X11_block4_S_0 ⟨Nat.le_of_ble_eq_true rfl, Nat.le_of_ble_eq_true rfl⟩) (p_preS C hw) rfl rfl hl.1 rfl (lv_room (Nat.le_of_ble_eq_true rfl)) dX11_block_43 ⟨(Nat.le_of_ble_eq_true rfl), (Nat.le_of_ble_eq_true rfl)⟩) hw hA (fun r2 S1 H locs hpost hw => ?_)
          obtain ⟨hr_, hS_⟩ := hpost
          have hr_ := hr_.trans (fits1 (by omega) ha1)
          subst hr_
          subst hS_
          refine n_if_eq (tgt := 95) hx hb (by first | decide | omega) dX11_block_46 (by decide) (fun h_46 => ?_) (fun h_46 => ?_)
          · exact absurd h_46 (by first | decide | omega)
          · skip
            refine lv_iload_n hx hb dX11_block_49 rfl (lv_at hl 1 rfl) ?_
            refine lv_iconst (v := nI 2) hx hb dX11_block_50 (by decide) ?_
            refine n_icmp_lt (tgt := 63) hx hb (by first | decide | omega) (by first | decide | omega) dX11_block_51 (by decide) (fun h_51 => ?_) (fun h_51 => ?_)
            · exact absurd h_51 (by first | decide | omega)
            · skip
              refine lv_iload hx hb dX11_block_54 (lv_at hl 4 rfl) ?_
              refine lv_iload_n hx hb dX11_block_56 rfl (lv_at hl 2 rfl) ?_
              refine p_calli (va_runS (As := [.int (nI a2), .int (nI q)]) (rest := []) C.fix (c_X11_fits l D cy S H.size (nI a2) q (by omega)) (va_cwS 2 C.2.2.2.2.1 (gU_S mw_108 mw_109 mw_2 sub_X11_fits) rfl rfl rfl hdg_X11_block4_S_0 ⟨Nat.le_of_ble_eq_true rfl, Nat.le_of_ble_eq_true rfl⟩) (p_preS C hw) rfl rfl hl.1 rfl (lv_room (Nat.le_of_ble_eq_true rfl)) dX11_block_57 ⟨(Nat.le_of_ble_eq_true rfl), (Nat.le_of_ble_eq_true rfl)⟩) hw hA (fun r6 S5 H locs hpost hw => ?_)
              obtain ⟨hr_, hS_⟩ := hpost
              have hr_ := hr_.trans (fits1 (by omega) ha2)
              subst hr_
              subst hS_
              refine n_if_eq (tgt := 95) hx hb (by first | decide | omega) dX11_block_60 (by decide) (fun h_60 => ?_) (fun h_60 => ?_)
              · exact absurd h_60 (by first | decide | omega)
              · skip
                refine lv_iload_n hx hb dX11_block_63 rfl (lv_at hl 1 rfl) ?_
                refine lv_iconst (v := nI 3) hx hb dX11_block_64 (by decide) ?_
                refine n_icmp_lt (tgt := 77) hx hb (by first | decide | omega) (by first | decide | omega) dX11_block_65 (by decide) (fun h_65 => ?_) (fun h_65 => ?_)
                · exact absurd h_65 (by first | decide | omega)
                · skip
                  refine lv_iload hx hb dX11_block_68 (lv_at hl 5 rfl) ?_
                  refine lv_iload_n hx hb dX11_block_70 rfl (lv_at hl 2 rfl) ?_
                  refine p_calli (va_runS (As := [.int (nI a3), .int (nI q)]) (rest := []) C.fix (c_X11_fits l D cy S H.size (nI a3) q (by omega)) (va_cwS 2 C.2.2.2.2.1 (gU_S mw_108 mw_109 mw_2 sub_X11_fits) rfl rfl rfl hdg_X11_block4_S_0 ⟨Nat.le_of_ble_eq_true rfl, Nat.le_of_ble_eq_true rfl⟩) (p_preS C hw) rfl rfl hl.1 rfl (lv_room (Nat.le_of_ble_eq_true rfl)) dX11_block_71 ⟨(Nat.le_of_ble_eq_true rfl), (Nat.le_of_ble_eq_true rfl)⟩) hw hA (fun r10 S9 H locs hpost hw => ?_)
                  obtain ⟨hr_, hS_⟩ := hpost
                  have hr_ := hr_.trans (fits1 (by omega) ha3)
                  subst hr_
                  subst hS_
                  refine n_if_eq (tgt := 95) hx hb (by first | decide | omega) dX11_block_74 (by decide) (fun h_74 => ?_) (fun h_74 => ?_)
                  · exact absurd h_74 (by first | decide | omega)
                  · skip
                    refine lv_iload_n hx hb dX11_block_77 rfl (lv_at hl 1 rfl) ?_
                    refine lv_iconst (v := nI 4) hx hb dX11_block_78 (by decide) ?_
                    refine n_icmp_lt (tgt := 91) hx hb (by first | decide | omega) (by first | decide | omega) dX11_block_79 (by decide) (fun h_79 => ?_) (fun h_79 => ?_)
                    · exact absurd h_79 (by first | decide | omega)
                    · skip
                      refine lv_iload hx hb dX11_block_82 (lv_at hl 6 rfl) ?_
                      refine lv_iload_n hx hb dX11_block_84 rfl (lv_at hl 2 rfl) ?_
                      refine p_calli (va_runS (As := [.int (nI a4), .int (nI q)]) (rest := []) C.fix (c_X11_fits l D cy S H.size (nI a4) q (by omega)) (va_cwS 2 C.2.2.2.2.1 (gU_S mw_108 mw_109 mw_2 sub_X11_fits) rfl rfl rfl hdg_X11_block4_S_0 ⟨Nat.le_of_ble_eq_true rfl, Nat.le_of_ble_eq_true rfl⟩) (p_preS C hw) rfl rfl hl.1 rfl (lv_room (Nat.le_of_ble_eq_true rfl)) dX11_block_85 ⟨(Nat.le_of_ble_eq_true rfl), (Nat.le_of_ble_eq_true rfl)⟩) hw hA (fun r14 S13 H locs hpost hw => ?_)
                      obtain ⟨hr_, hS_⟩ := hpost
                      have hr_ := hr_.trans (fits1 (by omega) ha4)
                      subst hr_
                      subst hS_
                      refine n_if_eq (tgt := 95) hx hb (by first | decide | omega) dX11_block_88 (by decide) (fun h_88 => ?_) (fun h_88 => ?_)
                      · exact absurd h_88 (by first | decide | omega)
                      · skip
                        refine lv_iconst (v := nI 1) hx hb dX11_block_91 (by decide) ?_
                        refine lv_goto (tgt := 96) hx hb dX11_block_92 (by decide) ?_
                        refine lv_istore (lv' := [(7, .int (nI 1)), (0, .ref (G 0)), (1, .int (nI 4)), (2, .int (nI q)), (3, .int (nI a1)), (4, .int (nI a2)), (5, .int (nI a3)), (6, .int (nI a4))]) hx hb dX11_block_96 hl (by decide) rfl (fun ls hl => ?_)
                        refine lv_iload hx hb dX11_block_98 (lv_at hl 0 rfl) ?_
                        refine n_if_ne (tgt := 113) hx hb (by first | decide | omega) dX11_block_100 (by decide) (fun h_100 => ?_) (fun h_100 => ?_)
                        · skip
                          refine lv_aload_n hx hb dX11_block_113 rfl (lv_at hl 1 rfl) ?_
                          refine p_new C hw hA (ci := 0) (Cn := RX0) (T := TX0) (N := 3) (fs := [.int (nI 0), .int (nI 0), .null]) tyX0 tyX0_ok rfl hin_RX0 (mU mw_429) (mU mw_430) (mU mw_131) (fun j hj => by rcases (show j = 0 ∨ j = 1 ∨ j = 2 by omega) with rfl | rfl | rfl <;> rfl) (Nat.le_of_ble_eq_true rfl) (Nat.le_of_ble_eq_true rfl) dX11_block_114 (fun st H hq_st hw => ?_)
                          obtain ⟨S17, hS17⟩ : ∃ z, z = pnew S st (.inr (0, [.int (nI 0), .int (nI 0), .null])) := ⟨_, rfl⟩
                          replace hw : pW D (pA S s.heap.size) s.heap S17 H locs := by rw [hS17]; exact hw
                          have hL18 : st ∈ S17.1 := by rw [hS17]; exact List.mem_append_right _ List.mem_cons_self
                          have hf19 : S17.2 st = .inr (0, [.int (nI 0), .int (nI 0), .null]) := by rw [hS17]; exact pnew_s
                          have hP20 := Pic.ext (S' := S17) hP (fun a9 h9 => by rw [hS17]; exact List.mem_append_left _ h9) (fun a9 h9 => by rw [hS17]; exact pnew_n (fun z : a9 = st => hq_st (by rw [← z]; exact h9)))
                          refine lv_dup hx hb dX11_block_117 rfl ?_
                          refine lv_iload_n hx hb dX11_block_118 rfl (lv_at hl 2 rfl) ?_
                          refine lv_iload_n hx hb dX11_block_119 rfl (lv_at hl 3 rfl) ?_
                          refine lv_iload_n hx hb dX11_block_120 rfl (lv_at hl 4 rfl) ?_
                          refine lv_iload hx hb dX11_block_121 (lv_at hl 5 rfl) ?_
                          refine lv_iload hx hb dX11_block_123 (lv_at hl 6 rfl) ?_
                          refine lv_iload hx hb dX11_block_125 (lv_at hl 7 rfl) ?_
                          refine p_callv (va_runI (As := [.int (nI 4), .int (nI q), .int (nI a1), .int (nI a2), .int (nI a3), .int (nI a4)]) (rest := [.ref st, .ref (G 0)]) C.fix (c_X0_init l D cy S17 H.size st 0 0 4 q a1 a2 a3 a4 (nI a1) (nI a2) (nI a3) (nI a4) hL18 hf19 (by first | assumption | decide | omega) (fun _ => rfl) (fun _ => rfl) (fun _ => rfl) (fun _ => rfl)) (cwI 6 C.2.2.2.2.1 (gU_sub sub_X0_init) rfl rfl rfl (C.2.2.2.2.1 (.initialized RX0) (mU mw_131)) (C.2.2.2.2.1 (.methodLink RX11 114 yX0_init) (mU mw_431)) (C.2.2.2.2.1 (.instanceMethod yX0_init) (mU mw_432)) rfl (by decide +kernel) ⟨Nat.le_of_ble_eq_true rfl, Nat.le_of_ble_eq_true rfl⟩) (p_preS C hw) rfl rfl hl.1 rfl (lv_room (Nat.le_of_ble_eq_true rfl)) dX11_block_127 ⟨(Nat.le_of_ble_eq_true rfl), (Nat.le_of_ble_eq_true rfl)⟩) hw hA (fun S21 H locs hpost hw => ?_)
                          obtain ⟨q23, hp24, hS_⟩ := hpost
                          obtain ⟨S25, hS25⟩ : ∃ z, z = pnew S17 q23 (aN (cy 0) 16 (bwt 4 a1 a2 a3 a4 16)) := ⟨_, rfl⟩
                          rw [← hS25] at hS_
                          have hL26 : q23 ∈ S25.1 := by rw [hS25]; exact List.mem_append_right _ List.mem_cons_self
                          have hf27 : S25.2 q23 = aN (cy 0) 16 (bwt 4 a1 a2 a3 a4 16) := by rw [hS25]; exact pnew_s
                          have hL28 : st ∈ S25.1 := by rw [hS25]; exact List.mem_append_left _ hL18
                          have hf29 : S25.2 st = .inr (0, [.int (nI 0), .int (nI 0), .null]) := by rw [hS25]; exact (pnew_n (fun z : st = q23 => hp24 (by rw [← z]; exact hL18))).trans hf19
                          have hS30 := hS_
                          have hL31 : st ∈ S21.1 := by rw [hS30]; exact hL28
                          have hf32 : S21.2 st = .inr (0, [.int (nI 4), .int (nI q), .ref q23]) := by rw [hS30]; exact pup_s
                          have hSx : S21.1 = S.1 ++ ([st] ++ [q23]) := (by simp only [hS30, hS25, hS17, pup, pnew, List.append_nil, List.append_assoc, List.cons_append, List.nil_append])
                          have hmx : ∀ a, a ∈ S.1 → a ∈ S21.1 := fun a h => by rw [hSx]; exact List.mem_append_left _ h
                          have hcx : ∀ a_, a_ ∈ S.1 → S21.2 a_ = S.2 a_ := (fun a_ ha_ => ((show S21.2 a_ = S25.2 a_ from by rw [hS30]; exact pup_n (fun z : a_ = st => hq_st (by rw [← z]; exact ha_))).trans ((show S25.2 a_ = S17.2 a_ from by rw [hS25]; exact pnew_n (fun z : a_ = q23 => hp24 (by rw [← z]; exact (show a_ ∈ S17.1 from by rw [hS17]; exact List.mem_append_left _ ha_)))).trans (show S17.2 a_ = S.2 a_ from by rw [hS17]; exact pnew_n (fun z : a_ = st => hq_st (by rw [← z]; exact ha_))))))
                          have hPx := hP.ext hmx hcx
                          have hFx : Frm G S S21 := ⟨hmx, fun a h _ => hcx a h⟩
                          have hL33 : q23 ∈ S21.1 := by rw [hS30]; exact hL26
                          have hf34 : S21.2 q23 = aN (cy 0) 16 (bwt 4 a1 a2 a3 a4 16) := by rw [hS30]; exact (pup_n (fun z : q23 = st => hp24 (by rw [z]; exact hL18))).trans hf27
                          have hT1 : (va_up (va_up T (2 * n) st) (2 * n + 1) q23) (2 * n) = st := (va_up_ne _ _ (by omega)).trans (va_up_self _ _ _)
                          have hT2 : (va_up (va_up T (2 * n) st) (2 * n + 1) q23) (2 * n + 1) = q23 := va_up_self _ _ _
                          have hT3 : ∀ k, k < 2 * n → (va_up (va_up T (2 * n) st) (2 * n + 1) q23) k = T k := fun k hk => (va_up_ne _ _ (by omega)).trans (va_up_ne _ _ (by omega))
                          have hw1 : (va_up ws n ((1, 4, q, bwt 4 a1 a2 a3 a4 16))) n = ((1, 4, q, bwt 4 a1 a2 a3 a4 16)) := va_up_self _ _ _
                          obtain ⟨T1, eT1⟩ : ∃ z, z = va_up (va_up T (2 * n) st) (2 * n + 1) q23 := ⟨_, rfl⟩
                          rw [← eT1] at hT1 hT2 hT3
                          obtain ⟨ws1, ews1⟩ : ∃ z, z = va_up ws n ((1, 4, q, bwt 4 a1 a2 a3 a4 16)) := ⟨_, rfl⟩
                          rw [← ews1] at hw1
                          have hnG_st : ∀ i, i < 53 → st ≠ G i := fun i hi z => hq_st (by rw [z]; exact hP.mem hi)
                          have hnG_q23 : ∀ i, i < 53 → q23 ≠ G i := fun i hi z => (fun h9 => hp24 (show _ ∈ S17.1 from by rw [hS17]; exact List.mem_append_left _ h9)) (by rw [z]; exact hP.mem hi)
                          have hst : gStg cy S21 G T1 (ws1 n) n := by
                            unfold gStg gst; rw [hT1, hT2, hw1]
                            exact ⟨Or.inr (Or.inl ⟨rfl, (show 1 ≤ 4 by decide), (show 4 ≤ 4 by decide), h1, h2, a1, a2, a3, a4, ha1, ha2, ha3, ha4, rfl⟩), hf32, fun _ => hf34, fun z => absurd z (show ¬ (1 : Nat) = 3 by decide), hL31, hL33⟩
                          refine p_calli (va_runV (As := [.ref st]) (rest := []) C.fix (g_X11_putBehind l D cy S21 H.size hPx hk hla hlb hlc st hT1 hn hT3 (fun k hk => by rw [ews1]; exact va_up_ne _ _ (by omega)) hst (fun i hi => by rw [hT1, hT2]; exact ⟨hnG_st i hi, hnG_q23 i hi⟩) (by rw [hw1]; exact hzz) hC) (cwV 1 C.2.2.2.2.1 (gU_V mw_416 mw_417 mw_418 mw_2 (subU mw_419)) rfl rfl rfl hdg_X11_block4_V_1 ⟨Nat.le_of_ble_eq_true rfl, Nat.le_of_ble_eq_true rfl⟩) (p_preV C hw (hPx.mem (k := 0) (by omega)) hPx.c0 rfl) rfl rfl hl.1 rfl (lv_room (Nat.le_of_ble_eq_true rfl)) dX11_block_130 ⟨(Nat.le_of_ble_eq_true rfl), (Nat.le_of_ble_eq_true rfl)⟩) hw hA (fun r36 S35 H locs hpost hw => ?_)
                          obtain ⟨V39, hr_, hP37, hF38, hK40⟩ := hpost
                          subst hr_
                          exact (p_iret C hw ⟨T1, ws1, V39, rfl, hP37, hFx.trans hF38, hK40, hw1, (fun k hk => by rw [ews1]; exact va_up_ne _ _ (by omega))⟩ hr hlocks dX11_block_133)
                        · exact absurd h_100 (by first | decide | omega)
        · omega
    · exact absurd h_7 (by first | decide | omega)
