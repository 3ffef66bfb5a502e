theorem hdg_X11_settle_V_0 : yX1_code.cls = RX1 ∧ yX1_code.cls ≠ "java/lang/invoke/MethodHandle" ∧ yX1_code.cls ≠ "java/lang/invoke/VarHandle" ∧ (parseMethodDescriptor yX1_code.desc).map (fun d => d.parameters.length) = some 1 := by decide +kernel
theorem hdg_X11_settle_V_1 : yX11_send.cls = RX11 ∧ yX11_send.cls ≠ "java/lang/invoke/MethodHandle" ∧ yX11_send.cls ≠ "java/lang/invoke/VarHandle" ∧ (parseMethodDescriptor yX11_send.desc).map (fun d => d.parameters.length) = some 2 := by decide +kernel
theorem hdg_X11_settle_V_2 : yX1_decode.cls = RX1 ∧ yX1_decode.cls ≠ "java/lang/invoke/MethodHandle" ∧ yX1_decode.cls ≠ "java/lang/invoke/VarHandle" ∧ (parseMethodDescriptor yX1_decode.desc).map (fun d => d.parameters.length) = some 2 := by decide +kernel
set_option maxHeartbeats 4000000 in
set_option maxRecDepth 100000 in
/-- settle -/
theorem g_X11_settle (l : Launch) (D : va_G) (cy : Nat → ClassId) (S : pS) (sz : Nat) {G T : Nat → Nat} {n : Nat} {ws : Nat → WV} {l2 : va_E} {V : RV} {k0 : Nat} {fa fb fc : Int32} (hP : Pic cy S G T n ws (.inr (5, [.int (nI k0), .int fa, .int fb, .int fc])) l2 V) (ya yb yc : Nat) (hk : k0 ≤ 3) (ha : ya < 2 ^ 30) (hbb : yb < 2 ^ 30) (hcc : yc < 2 ^ 30) (h2 : k0 = 2 → fa = nI ya ∧ fb = nI yb ∧ fc = nI yc) (h13 : k0 = 1 ∨ k0 = 3 → fa = nI ya ∧ fb = nI yb) (hz : ∀ j, j ≤ n → cz ws (V.1 0) j ≤ 320) : Met l yX11_settle (Cond.code yX11_settle cX11_settle 1 none :: lwU) ({ frames := 5, cells := 0, slots := 0, locals := 124 }) (pPc D cy S sz [.ref (G 0)]) (pQv D cy S sz (fun S' => ∃ V', Pic cy S' G T n ws (.inr (5, [.int (nI k0), .int fa, .int fb, .int fc])) l2 V' ∧ Frm G S S' ∧ Stl n ws k0 ya yb yc V' ∧ V'.1 0 = V.1 0 ∧ V'.2 0 = V.2 0 ∧ V'.2 15 = V.2 15)) 0 0 (pA S sz) := by
  refine Met.ofW (cc := cX11_settle) (maxL := 1) (ret := none) (by decide) rfl ?_
  intro p e s m args below meth c s₁ B hml hv
  obtain ⟨rfl, rfl, C, hw, hA, hr, hlocks⟩ := p_start B hml hv
  have hx := C.1
  have hb := C.2.1
  have hl := lv_entry ([.ref (G 0)]) (n := 1) (Nat.le_of_ble_eq_true rfl)
  rw [lg_entry_eq]
  generalize (lg_sl ([.ref (G 0)]) ++ List.replicate (1 - (lg_sl ([.ref (G 0)])).length) Slot.unset).toArray = ls at hl ⊢
  have hl : lv_has ls 1 [(0, .ref (G 0))] := hl
  have hin_RX11 : ∀ w ∈ u_ws RX11 TX11 8, w ∈ (Cond.code yX11_settle cX11_settle 1 none :: lwU) := fun w h => mU (sub_RX11 w h)
  have hn4 := hP.n4
  refine lv_aload_n hx hb dX11_settle_0 rfl (lv_at hl 0 rfl) ?_
  refine p_get C hw (ci := 10) (Cn := RX11) (T := TX11) (N := 8) (hP.mem (k := 0) (by omega)) hP.c0 rfl hin_RX11 0 (by decide) (mU mw_13) rfl rfl dX11_settle_1 ?_
  refine lv_aload_n hx hb dX11_settle_4 rfl (lv_at hl 0 rfl) ?_
  refine p_get C hw (ci := 10) (Cn := RX11) (T := TX11) (N := 8) (hP.mem (k := 0) (by omega)) hP.c0 rfl hin_RX11 4 (by decide) (mU mw_26) rfl rfl dX11_settle_5 ?_
  refine p_callv (va_runV (As := [.ref (G 9)]) (rest := []) C.fix (g_X1_code l D cy S s.heap.size hP hz) (cwV 1 C.2.2.2.2.1 (gU_V mw_176 mw_177 mw_178 mw_12 (subU mw_179)) rfl rfl rfl hdg_X11_settle_V_0 ⟨Nat.le_of_ble_eq_true rfl, Nat.le_of_ble_eq_true rfl⟩) (p_preV C hw (hP.mem (k := 1) (by omega)) hP.c1 rfl) rfl rfl hl.1 rfl (lv_room (Nat.le_of_ble_eq_true rfl)) dX11_settle_8 ⟨(Nat.le_of_ble_eq_true rfl), (Nat.le_of_ble_eq_true rfl)⟩) hw hA (fun S1 H locs hpost hw => ?_)
  obtain ⟨V5, hP3, hF4, hK6⟩ := hpost
  refine lv_aload_n hx hb dX11_settle_11 rfl (lv_at hl 0 rfl) ?_
  refine lv_aload_n hx hb dX11_settle_12 rfl (lv_at hl 0 rfl) ?_
  refine p_get C hw (ci := 10) (Cn := RX11) (T := TX11) (N := 8) (hP3.mem (k := 0) (by omega)) hP3.c0 rfl hin_RX11 1 (by decide) (mU mw_17) rfl rfl dX11_settle_13 ?_
  refine lv_aload_n hx hb dX11_settle_16 rfl (lv_at hl 0 rfl) ?_
  refine p_get C hw (ci := 10) (Cn := RX11) (T := TX11) (N := 8) (hP3.mem (k := 0) (by omega)) hP3.c0 rfl hin_RX11 5 (by decide) (mU mw_27) rfl rfl dX11_settle_17 ?_
  refine p_callv (va_runV (As := [.ref (G 3), .ref (G 10)]) (rest := []) C.fix (g_X11_send1 l D cy S1 H.size hP3 ya yb yc hk ha hbb hcc h2 h13) (cwV 2 C.2.2.2.2.1 (gU_V mw_237 mw_238 mw_239 mw_2 (subU mw_240)) rfl rfl rfl hdg_X11_settle_V_1 ⟨Nat.le_of_ble_eq_true rfl, Nat.le_of_ble_eq_true rfl⟩) (p_preV C hw (hP3.mem (k := 0) (by omega)) hP3.c0 rfl) rfl rfl hl.1 rfl (lv_room (Nat.le_of_ble_eq_true rfl)) dX11_settle_20 ⟨(Nat.le_of_ble_eq_true rfl), (Nat.le_of_ble_eq_true rfl)⟩) hw hA (fun S7 H locs hpost hw => ?_)
  obtain ⟨V11, hP9, hF10, hK12⟩ := hpost
  have hT13 := hF4.trans hF10
  have hc1 := hK6
  have hlo : ∀ r, r < 5 → V11.1 r = V5.1 r := fun r hr => (hK12.2.2 r (by omega)).1
  refine lv_aload_n hx hb dX11_settle_23 rfl (lv_at hl 0 rfl) ?_
  refine p_get C hw (ci := 10) (Cn := RX11) (T := TX11) (N := 8) (hP9.mem (k := 0) (by omega)) hP9.c0 rfl hin_RX11 0 (by decide) (mU mw_13) rfl rfl dX11_settle_24 ?_
  refine lv_aload_n hx hb dX11_settle_27 rfl (lv_at hl 0 rfl) ?_
  refine p_get C hw (ci := 10) (Cn := RX11) (T := TX11) (N := 8) (hP9.mem (k := 0) (by omega)) hP9.c0 rfl hin_RX11 5 (by decide) (mU mw_27) rfl rfl dX11_settle_28 ?_
  refine lv_aload_n hx hb dX11_settle_31 rfl (lv_at hl 0 rfl) ?_
  refine p_get C hw (ci := 10) (Cn := RX11) (T := TX11) (N := 8) (hP9.mem (k := 0) (by omega)) hP9.c0 rfl hin_RX11 4 (by decide) (mU mw_26) rfl rfl dX11_settle_32 ?_
  refine p_callv (va_runV (As := [.ref (G 10), .ref (G 9)]) (rest := []) C.fix (g_X1_decode1 l D cy S7 H.size hP9 (fun j hj => by rw [hlo (j + 1) (by omega), hlo j (by omega)]; exact (hK6.1 j hj).1) (by rw [hK12.1, hlo n (by omega)])) (cwV 2 C.2.2.2.2.1 (gU_V mw_284 mw_285 mw_286 mw_12 (subU mw_287)) rfl rfl rfl hdg_X11_settle_V_2 ⟨Nat.le_of_ble_eq_true rfl, Nat.le_of_ble_eq_true rfl⟩) (p_preV C hw (hP9.mem (k := 1) (by omega)) hP9.c1 rfl) rfl rfl hl.1 rfl (lv_room (Nat.le_of_ble_eq_true rfl)) dX11_settle_35 ⟨(Nat.le_of_ble_eq_true rfl), (Nat.le_of_ble_eq_true rfl)⟩) hw hA (fun S14 H locs hpost hw => ?_)
  obtain ⟨V18, hP16, hF17, hK19⟩ := hpost
  have hT20 := hT13.trans hF17
  exact (p_vret C hw ⟨V18, hP16, hT20, Stl.mk hn4 hK6 hK12 hK19⟩ hr hlocks dX11_settle_38)

theorem hdg_X11_errorsTurned_V_0 : yX11_last.cls = RX11 ∧ yX11_last.cls ≠ "java/lang/invoke/MethodHandle" ∧ yX11_last.cls ≠ "java/lang/invoke/VarHandle" ∧ (parseMethodDescriptor yX11_last.desc).map (fun d => d.parameters.length) = some 1 := by decide +kernel
theorem hdg_X11_errorsTurned_V_1 : yX7_copy.cls = RX7 ∧ yX7_copy.cls ≠ "java/lang/invoke/MethodHandle" ∧ yX7_copy.cls ≠ "java/lang/invoke/VarHandle" ∧ (parseMethodDescriptor yX7_copy.desc).map (fun d => d.parameters.length) = some 1 := by decide +kernel
theorem hdg_X11_errorsTurned_V_2 : yX7_turn.cls = RX7 ∧ yX7_turn.cls ≠ "java/lang/invoke/MethodHandle" ∧ yX7_turn.cls ≠ "java/lang/invoke/VarHandle" ∧ (parseMethodDescriptor yX7_turn.desc).map (fun d => d.parameters.length) = some 1 := by decide +kernel
theorem hdg_X11_errorsTurned_V_3 : yX1_decode.cls = RX1 ∧ yX1_decode.cls ≠ "java/lang/invoke/MethodHandle" ∧ yX1_decode.cls ≠ "java/lang/invoke/VarHandle" ∧ (parseMethodDescriptor yX1_decode.desc).map (fun d => d.parameters.length) = some 2 := by decide +kernel
theorem hdg_X11_errorsTurned_V_4 : yX11_errorsIn.cls = RX11 ∧ yX11_errorsIn.cls ≠ "java/lang/invoke/MethodHandle" ∧ yX11_errorsIn.cls ≠ "java/lang/invoke/VarHandle" ∧ (parseMethodDescriptor yX11_errorsIn.desc).map (fun d => d.parameters.length) = some 1 := by decide +kernel
set_option maxHeartbeats 4000000 in
set_option maxRecDepth 100000 in
/-- errorsTurned -/
theorem g_X11_errorsTurned (l : Launch) (D : va_G) (cy : Nat → ClassId) (S : pS) (sz : Nat) {G T : Nat → Nat} {n : Nat} {ws : Nat → WV} {l1 l2 : va_E} {V : RV} (hP : Pic cy S G T n ws l1 l2 V) (pp : Nat) (hp : pp < 2 ^ 31) (hs : ∀ j, j < n → V.1 (j + 1) = sSize (ws j) (V.1 j)) (hzn : V.1 (n + 5) = V.1 n) : Met l yX11_errorsTurned (Cond.code yX11_errorsTurned cX11_errorsTurned 3 (some .int) :: lwU) ({ frames := 5, cells := 0, slots := 0, locals := 124 }) (pPc D cy S sz [.ref (G 0), .int (nI pp)]) (pQi D cy S sz (fun r S' => ∃ V', r = nI (eOf ws n V (rturn (V.2 (n + 5)) (V.1 n) pp)) ∧ Pic cy S' G T n ws l1 l2 V' ∧ Frm G S S' ∧ Sam (fun r => r < 10 ∨ r = 15) V V')) 0 0 (pA S sz) := by
  refine Met.ofW (cc := cX11_errorsTurned) (maxL := 3) (ret := (some .int)) (by decide) rfl ?_
  intro p e s m args below meth c s₁ B hml hv
  obtain ⟨rfl, rfl, C, hw, hA, hr, hlocks⟩ := p_start B hml hv
  have hx := C.1
  have hb := C.2.1
  have hl := lv_entry ([.ref (G 0), .int (nI pp)]) (n := 3) (Nat.le_of_ble_eq_true rfl)
  rw [lg_entry_eq]
  generalize (lg_sl ([.ref (G 0), .int (nI pp)]) ++ List.replicate (3 - (lg_sl ([.ref (G 0), .int (nI pp)])).length) Slot.unset).toArray = ls at hl ⊢
  have hl : lv_has ls 3 [(0, .ref (G 0)), (1, .int (nI pp))] := hl
  have hin_RX11 : ∀ w ∈ u_ws RX11 TX11 8, w ∈ (Cond.code yX11_errorsTurned cX11_errorsTurned 3 (some .int) :: lwU) := fun w h => mU (sub_RX11 w h)
  have hn4 := hP.n4
  refine lv_aload_n hx hb dX11_errorsTurned_0 rfl (lv_at hl 0 rfl) ?_
  refine lv_aload_n hx hb dX11_errorsTurned_1 rfl (lv_at hl 0 rfl) ?_
  refine p_get C hw (ci := 10) (Cn := RX11) (T := TX11) (N := 8) (hP.mem (k := 0) (by omega)) hP.c0 rfl hin_RX11 6 (by decide) (mU mw_28) rfl rfl dX11_errorsTurned_2 ?_
  refine p_callq (va_runV (As := [.ref (G 11)]) (rest := []) C.fix (g_X11_last2 l D cy S s.heap.size hP) (cwV 1 C.2.2.2.2.1 (gU_V mw_241 mw_242 mw_243 mw_2 (subU mw_244)) rfl rfl rfl hdg_X11_errorsTurned_V_0 ⟨Nat.le_of_ble_eq_true rfl, Nat.le_of_ble_eq_true rfl⟩) (p_preV C hw (hP.mem (k := 0) (by omega)) hP.c0 rfl) rfl rfl hl.1 rfl (lv_room (Nat.le_of_ble_eq_true rfl)) dX11_errorsTurned_5 ⟨(Nat.le_of_ble_eq_true rfl), (Nat.le_of_ble_eq_true rfl)⟩) hw hA (fun r2 S1 H locs hpost hw => ?_)
  obtain ⟨hr_, hS_⟩ := hpost
  subst hr_
  subst hS_
  refine lv_astore_n (lv' := [(2, .ref (G (21 + (n + 10)))), (0, .ref (G 0)), (1, .int (nI pp))]) hx hb dX11_errorsTurned_8 rfl hl (by decide) rfl (fun ls hl => ?_)
  refine lv_aload_n hx hb dX11_errorsTurned_9 rfl (lv_at hl 0 rfl) ?_
  refine lv_aload_n hx hb dX11_errorsTurned_10 rfl (lv_at hl 1 rfl) ?_
  refine lv_aload_n hx hb dX11_errorsTurned_11 rfl (lv_at hl 1 rfl) ?_
  refine p_get C hw (ci := 10) (Cn := RX11) (T := TX11) (N := 8) (hP.mem (k := 0) (by omega)) hP.c0 rfl hin_RX11 5 (by decide) (mU mw_27) rfl rfl dX11_errorsTurned_12 ?_
  refine p_callq (va_runV (As := [.ref (G 10)]) (rest := [.ref (G (21 + (n + 10)))]) C.fix (g_X11_last1 l D cy S H.size hP) (cwV 1 C.2.2.2.2.1 (gU_V mw_241 mw_242 mw_243 mw_2 (subU mw_244)) rfl rfl rfl hdg_X11_errorsTurned_V_0 ⟨Nat.le_of_ble_eq_true rfl, Nat.le_of_ble_eq_true rfl⟩) (p_preV C hw (hP.mem (k := 0) (by omega)) hP.c0 rfl) rfl rfl hl.1 rfl (lv_room (Nat.le_of_ble_eq_true rfl)) dX11_errorsTurned_15 ⟨(Nat.le_of_ble_eq_true rfl), (Nat.le_of_ble_eq_true rfl)⟩) hw hA (fun r6 S5 H locs hpost hw => ?_)
  obtain ⟨hr_, hS_⟩ := hpost
  subst hr_
  subst hS_
  refine p_callv (va_runV (As := [.ref (G (21 + (n + 5)))]) (rest := []) C.fix (q_copy l D cy S H.size hP (n + 10) (n + 5) (by omega) (by omega) (by omega)) (cwV 1 C.2.2.2.2.1 (gU_V mw_249 mw_250 mw_251 mw_21 sub_X7_copy) rfl rfl rfl hdg_X11_errorsTurned_V_1 ⟨Nat.le_of_ble_eq_true rfl, Nat.le_of_ble_eq_true rfl⟩) (p_preV C hw (hP.mem (k := 21 + (n + 10)) (by omega)) (hP.rh (r := (n + 10)) (by omega)) rfl) rfl rfl hl.1 rfl (lv_room (Nat.le_of_ble_eq_true rfl)) dX11_errorsTurned_18 ⟨(Nat.le_of_ble_eq_true rfl), (Nat.le_of_ble_eq_true rfl)⟩) hw hA (fun S9 H locs hpost hw => ?_)
  obtain ⟨hP11, hF12⟩ := hpost
  obtain ⟨V13, hV13⟩ : ∃ z : RV, z = (va_up V.1 (n + 10) (min (V.1 (n + 5)) (gcap (n + 10))), va_up V.2 (n + 10) (rcop (V.2 (n + 10)) (V.2 (n + 5)) (V.1 (n + 5)) (min (V.1 (n + 5)) (gcap (n + 10))))) := ⟨_, rfl⟩
  rw [← hV13] at hP11
  refine lv_aload_n hx hb dX11_errorsTurned_21 rfl (lv_at hl 0 rfl) ?_
  refine lv_iload_n hx hb dX11_errorsTurned_22 rfl (lv_at hl 2 rfl) ?_
  refine p_callv (va_runV (As := [.int (nI pp)]) (rest := []) C.fix (q_turn l D cy S9 H.size hP11 (n + 10) pp (by omega) (by omega)) (cwV 1 C.2.2.2.2.1 (gU_V mw_598 mw_266 mw_267 mw_21 sub_X7_turn) rfl rfl rfl hdg_X11_errorsTurned_V_2 ⟨Nat.le_of_ble_eq_true rfl, Nat.le_of_ble_eq_true rfl⟩) (p_preV C hw (hP11.mem (k := 21 + (n + 10)) (by omega)) (hP11.rh (r := (n + 10)) (by omega)) rfl) rfl rfl hl.1 rfl (lv_room (Nat.le_of_ble_eq_true rfl)) dX11_errorsTurned_23 ⟨(Nat.le_of_ble_eq_true rfl), (Nat.le_of_ble_eq_true rfl)⟩) hw hA (fun S14 H locs hpost hw => ?_)
  obtain ⟨hP16, hF17⟩ := hpost
  obtain ⟨V18, hV18⟩ : ∃ z : RV, z = (V13.1, va_up V13.2 (n + 10) (rturn (V13.2 (n + 10)) (V13.1 (n + 10)) pp)) := ⟨_, rfl⟩
  rw [← hV18] at hP16
  have hT19 := hF12.trans hF17
  have hcap5 := hP.rn (r := n + 5) (by omega)
  rw [gcap5 (by omega)] at hcap5
  have ht9 := turn_eq (o := n + 5) (r := n + 10) (by omega) (by rw [gcap10 (by omega)]; exact hcap5) hV13 hV18
  refine lv_aload_n hx hb dX11_errorsTurned_26 rfl (lv_at hl 1 rfl) ?_
  refine p_get C hw (ci := 10) (Cn := RX11) (T := TX11) (N := 8) (hP16.mem (k := 0) (by omega)) hP16.c0 rfl hin_RX11 0 (by decide) (mU mw_13) rfl rfl dX11_errorsTurned_27 ?_
  refine lv_aload_n hx hb dX11_errorsTurned_30 rfl (lv_at hl 1 rfl) ?_
  refine p_get C hw (ci := 10) (Cn := RX11) (T := TX11) (N := 8) (hP16.mem (k := 0) (by omega)) hP16.c0 rfl hin_RX11 6 (by decide) (mU mw_28) rfl rfl dX11_errorsTurned_31 ?_
  refine lv_aload_n hx hb dX11_errorsTurned_34 rfl (lv_at hl 1 rfl) ?_
  refine p_get C hw (ci := 10) (Cn := RX11) (T := TX11) (N := 8) (hP16.mem (k := 0) (by omega)) hP16.c0 rfl hin_RX11 4 (by decide) (mU mw_26) rfl rfl dX11_errorsTurned_35 ?_
  refine p_callv (va_runV (As := [.ref (G 11), .ref (G 9)]) (rest := []) C.fix (g_X1_decode2 l D cy S14 H.size hP16 (fun j hj => by rw [(ht9.2.2 (j + 1) (by omega)).1, (ht9.2.2 j (by omega)).1]; exact hs j hj) (by rw [ht9.1, (ht9.2.2 n (by omega)).1, hzn])) (cwV 2 C.2.2.2.2.1 (gU_V mw_284 mw_285 mw_286 mw_12 (subU mw_287)) rfl rfl rfl hdg_X11_errorsTurned_V_3 ⟨Nat.le_of_ble_eq_true rfl, Nat.le_of_ble_eq_true rfl⟩) (p_preV C hw (hP16.mem (k := 1) (by omega)) hP16.c1 rfl) rfl rfl hl.1 rfl (lv_room (Nat.le_of_ble_eq_true rfl)) dX11_errorsTurned_38 ⟨(Nat.le_of_ble_eq_true rfl), (Nat.le_of_ble_eq_true rfl)⟩) hw hA (fun S20 H locs hpost hw => ?_)
  obtain ⟨V24, hP22, hF23, hK25⟩ := hpost
  have hT26 := hT19.trans hF23
  refine lv_aload_n hx hb dX11_errorsTurned_41 rfl (lv_at hl 1 rfl) ?_
  refine lv_aload_n hx hb dX11_errorsTurned_42 rfl (lv_at hl 1 rfl) ?_
  refine p_get C hw (ci := 10) (Cn := RX11) (T := TX11) (N := 8) (hP22.mem (k := 0) (by omega)) hP22.c0 rfl hin_RX11 6 (by decide) (mU mw_28) rfl rfl dX11_errorsTurned_43 ?_
  refine p_calli (va_runV (As := [.ref (G 11)]) (rest := []) C.fix (g_X11_errorsIn2 l D cy S20 H.size hP22) (cwV 1 C.2.2.2.2.1 (gU_V mw_522 mw_523 mw_524 mw_2 (subU mw_525)) rfl rfl rfl hdg_X11_errorsTurned_V_4 ⟨Nat.le_of_ble_eq_true rfl, Nat.le_of_ble_eq_true rfl⟩) (p_preV C hw (hP22.mem (k := 0) (by omega)) hP22.c0 rfl) rfl rfl hl.1 rfl (lv_room (Nat.le_of_ble_eq_true rfl)) dX11_errorsTurned_46 ⟨(Nat.le_of_ble_eq_true rfl), (Nat.le_of_ble_eq_true rfl)⟩) hw hA (fun r28 S27 H locs hpost hw => ?_)
  obtain ⟨hr_, hS_⟩ := hpost
  subst hr_
  subst hS_
  exact (p_iret C hw ⟨V24, (congrArg nI (eOf_d (V := V) (V1 := V24) (t := 10) hP hs (fun j hj => (hK25.2 j (Or.inl (by omega))).1.trans (ht9.2.2 j (by omega)).1) ((hK25.2 0 (Or.inl (by omega))).2.trans (ht9.2.2 0 (by omega)).2) hK25.1 ((hK25.2 (n + 10) (Or.inr (by omega))).1.trans (ht9.1.trans hzn)) (fun q hq => by rw [(hK25.2 (n + 10) (Or.inr (by omega))).2, ht9.2.1 q (by omega), hzn]))), hP22, hT26, (fun r hr => ⟨(hK25.2 r (by omega)).1.trans (ht9.2.2 r (by omega)).1, (hK25.2 r (by omega)).2.trans (ht9.2.2 r (by omega)).2⟩)⟩ hr hlocks dX11_errorsTurned_49)
