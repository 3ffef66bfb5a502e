theorem hde_X11_errorsIn0_V_0 : yX4_at.cls = RX4 ∧ yX4_at.cls ≠ "java/lang/invoke/MethodHandle" ∧ yX4_at.cls ≠ "java/lang/invoke/VarHandle" ∧ (parseMethodDescriptor yX4_at.desc).map (fun d => d.parameters.length) = some 1 := by decide +kernel
theorem hde_X11_errorsIn0_V_1 : yX7_unlike.cls = RX7 ∧ yX7_unlike.cls ≠ "java/lang/invoke/MethodHandle" ∧ yX7_unlike.cls ≠ "java/lang/invoke/VarHandle" ∧ (parseMethodDescriptor yX7_unlike.desc).map (fun d => d.parameters.length) = some 1 := by decide +kernel
set_option maxHeartbeats 4000000 in
set_option maxRecDepth 100000 in
theorem e_X11_errorsIn0 (l : Launch) (D : va_G) (cy : Nat → ClassId) (S : pS) (sz : Nat) (x : Nat) (v : Nat) (ch : Nat) (ln : Nat) (sl : Nat) (mk : Nat) (co : Nat) (ca : Nat) (su : Nat) (lt : Nat) (col : Nat) (con : Nat) (cor0 : Nat) (cor1 : Nat) (cor2 : Nat) (cor3 : Nat) (cor4 : Nat) (cob0 : Nat) (vl : Nat) (vn : Nat) (rq : Nat → Option Nat) (vr : Nat) (hL_x : x ∈ S.1) (hf_x : S.2 x = .inr (11, [.ref ch, .ref ln, .ref sl, .ref mk, .ref co, .ref ca, .ref su, .ref lt])) (hL_co : co ∈ S.1) (hf_co : S.2 co = .inr (5, [.ref col, .ref con])) (hL_col : col ∈ S.1) (hf_col : S.2 col = aQ (cy 2) 5 (va_up (va_up (va_up (va_up (va_up (fun _ => none) 0 (some cor0)) 1 (some cor1)) 2 (some cor2)) 3 (some cor3)) 4 (some cor4))) (hL_cor0 : cor0 ∈ S.1) (hf_cor0 : S.2 cor0 = .inr (8, [.ref cob0, .int (nI 0)])) (hL_v : v ∈ S.1) (hf_v : S.2 v = .inr (5, [.ref vl, .ref vn])) (hL_vl : vl ∈ S.1) (hf_vl : S.2 vl = aQ (cy 2) 5 rq) (hq : rq 0 = some vr) : Met l yX11_errorsIn (Cond.code yX11_errorsIn cX11_errorsIn 2 (some .int) :: lwU) ({ frames := 1, cells := 0, slots := 0, locals := 23 }) (pPc D cy S sz [.ref x, .ref v]) (pQi D cy S sz (fun r S' => r = (nI 0) ∧ S = S')) 0 0 (pA S sz) := by
  refine Met.ofW (cc := cX11_errorsIn) (maxL := 2) (ret := (some .int)) (by decide) rfl ?_
  intro p e s m args below meth c s₁ B hml hv
  obtain ⟨rfl, rfl, C, hw, hA, hr, hlocks⟩ := p_start B hml hv
  have hx := C.1
  have hb := C.2.1
  have hl := lv_entry ([.ref x, .ref v]) (n := 2) (Nat.le_of_ble_eq_true rfl)
  rw [lg_entry_eq]
  generalize (lg_sl ([.ref x, .ref v]) ++ List.replicate (2 - (lg_sl ([.ref x, .ref v])).length) Slot.unset).toArray = ls at hl ⊢
  have hl : lv_has ls 2 [(0, .ref x), (1, .ref v)] := hl
  have hin_RX11 : ∀ w ∈ u_ws RX11 TX11 8, w ∈ (Cond.code yX11_errorsIn cX11_errorsIn 2 (some .int) :: lwU) := fun w h => mU (sub_RX11 w h)
  refine lv_aload_n hx hb dX11_errorsIn_0 rfl (lv_at hl 0 rfl) ?_
  refine p_get C hw (ci := 11) (Cn := RX11) (T := TX11) (N := 8) hL_x hf_x rfl hin_RX11 4 (by decide) (mU mw_30) rfl rfl dX11_errorsIn_1 ?_
  refine lv_iconst (v := nI 0) hx hb dX11_errorsIn_4 (by decide) ?_
  refine p_callq (va_runV (As := [.int (nI 0)]) (rest := []) C.fix (c_X4_at l D cy S s.heap.size co col con 0 cor0 (va_up (va_up (va_up (va_up (va_up (fun _ => none) 0 (some cor0)) 1 (some cor1)) 2 (some cor2)) 3 (some cor3)) 4 (some cor4)) hL_co hf_co hL_col hf_col (by first | assumption | decide | omega) (by first | assumption | rfl | simp [va_up])) (cwV 1 C.2.2.2.2.1 (gU_V mw_126 mw_127 mw_128 mw_29 sub_X4_at) rfl rfl rfl hde_X11_errorsIn0_V_0 ⟨Nat.le_of_ble_eq_true rfl, Nat.le_of_ble_eq_true rfl⟩) (p_preV C hw hL_co hf_co rfl) rfl rfl hl.1 rfl (lv_room (Nat.le_of_ble_eq_true rfl)) dX11_errorsIn_5 ⟨Nat.le_of_ble_eq_true rfl, Nat.le_of_ble_eq_true rfl⟩) hw hA (fun r2 S1 H locs hpost hw => ?_)
  obtain ⟨hr_, hS_⟩ := hpost
  subst hr_
  subst hS_
  refine lv_aload_n hx hb dX11_errorsIn_8 rfl (lv_at hl 1 rfl) ?_
  refine lv_iconst (v := nI 0) hx hb dX11_errorsIn_9 (by decide) ?_
  refine p_callq (va_runV (As := [.int (nI 0)]) (rest := [.ref cor0]) C.fix (c_X4_at l D cy S H.size v vl vn 0 vr rq hL_v hf_v hL_vl hf_vl (by first | assumption | decide | omega) (by first | assumption | rfl | simp [va_up])) (cwV 1 C.2.2.2.2.1 (gU_V mw_126 mw_127 mw_128 mw_29 sub_X4_at) rfl rfl rfl hde_X11_errorsIn0_V_0 ⟨Nat.le_of_ble_eq_true rfl, Nat.le_of_ble_eq_true rfl⟩) (p_preV C hw hL_v hf_v rfl) rfl rfl hl.1 rfl (lv_room (Nat.le_of_ble_eq_true rfl)) dX11_errorsIn_10 ⟨Nat.le_of_ble_eq_true rfl, Nat.le_of_ble_eq_true rfl⟩) hw hA (fun r4 S3 H locs hpost hw => ?_)
  obtain ⟨hr_, hS_⟩ := hpost
  subst hr_
  subst hS_
  refine p_calli (va_runV (As := [.ref vr]) (rest := []) C.fix (e_X7_unlike0 l D cy S H.size cor0 vr cob0 hL_cor0 hf_cor0 ) (cwV 1 C.2.2.2.2.1 (gU_V mw_790 mw_791 mw_792 mw_25 (subU mw_793)) rfl rfl rfl hde_X11_errorsIn0_V_1 ⟨Nat.le_of_ble_eq_true rfl, Nat.le_of_ble_eq_true rfl⟩) (p_preV C hw hL_cor0 hf_cor0 rfl) rfl rfl hl.1 rfl (lv_room (Nat.le_of_ble_eq_true rfl)) dX11_errorsIn_13 ⟨Nat.le_of_ble_eq_true rfl, Nat.le_of_ble_eq_true rfl⟩) hw hA (fun r6 S5 H locs hpost hw => ?_)
  obtain ⟨hr_, hS_⟩ := hpost
  subst hr_
  subst hS_
  exact (p_iret C hw (⟨rfl, rfl⟩) hr hlocks dX11_errorsIn_16)

theorem hde_X11_length_V_0 : yX4_at.cls = RX4 ∧ yX4_at.cls ≠ "java/lang/invoke/MethodHandle" ∧ yX4_at.cls ≠ "java/lang/invoke/VarHandle" ∧ (parseMethodDescriptor yX4_at.desc).map (fun d => d.parameters.length) = some 1 := by decide +kernel
theorem hde_X11_length_V_1 : yX7_size.cls = RX7 ∧ yX7_size.cls ≠ "java/lang/invoke/MethodHandle" ∧ yX7_size.cls ≠ "java/lang/invoke/VarHandle" ∧ (parseMethodDescriptor yX7_size.desc).map (fun d => d.parameters.length) = some 0 := by decide +kernel
set_option maxHeartbeats 4000000 in
set_option maxRecDepth 100000 in
theorem e_X11_length (l : Launch) (D : va_G) (cy : Nat → ClassId) (S : pS) (sz : Nat) (x : Nat) (ch : Nat) (ln : Nat) (sl : Nat) (mk : Nat) (co : Nat) (ca : Nat) (su : Nat) (lt : Nat) (col : Nat) (con : Nat) (cor0 : Nat) (cor1 : Nat) (cor2 : Nat) (cor3 : Nat) (cor4 : Nat) (cob0 : Nat) (hL_x : x ∈ S.1) (hf_x : S.2 x = .inr (11, [.ref ch, .ref ln, .ref sl, .ref mk, .ref co, .ref ca, .ref su, .ref lt])) (hL_co : co ∈ S.1) (hf_co : S.2 co = .inr (5, [.ref col, .ref con])) (hL_col : col ∈ S.1) (hf_col : S.2 col = aQ (cy 2) 5 (va_up (va_up (va_up (va_up (va_up (fun _ => none) 0 (some cor0)) 1 (some cor1)) 2 (some cor2)) 3 (some cor3)) 4 (some cor4))) (hL_cor0 : cor0 ∈ S.1) (hf_cor0 : S.2 cor0 = .inr (8, [.ref cob0, .int (nI 0)]))  : Met l yX11_length (Cond.code yX11_length cX11_length 1 (some .int) :: lwU) ({ frames := 1, cells := 0, slots := 0, locals := 22 }) (pPc D cy S sz [.ref x]) (pQi D cy S sz (fun r S' => r = (nI 0) ∧ S = S')) 0 0 (pA S sz) := by
  refine Met.ofW (cc := cX11_length) (maxL := 1) (ret := (some .int)) (by decide) rfl ?_
  intro p e s m args below meth c s₁ B hml hv
  obtain ⟨rfl, rfl, C, hw, hA, hr, hlocks⟩ := p_start B hml hv
  have hx := C.1
  have hb := C.2.1
  have hl := lv_entry ([.ref x]) (n := 1) (Nat.le_of_ble_eq_true rfl)
  rw [lg_entry_eq]
  generalize (lg_sl ([.ref x]) ++ List.replicate (1 - (lg_sl ([.ref x])).length) Slot.unset).toArray = ls at hl ⊢
  have hl : lv_has ls 1 [(0, .ref x)] := hl
  have hin_RX11 : ∀ w ∈ u_ws RX11 TX11 8, w ∈ (Cond.code yX11_length cX11_length 1 (some .int) :: lwU) := fun w h => mU (sub_RX11 w h)
  refine lv_aload_n hx hb dX11_length_0 rfl (lv_at hl 0 rfl) ?_
  refine p_get C hw (ci := 11) (Cn := RX11) (T := TX11) (N := 8) hL_x hf_x rfl hin_RX11 4 (by decide) (mU mw_30) rfl rfl dX11_length_1 ?_
  refine lv_iconst (v := nI 0) hx hb dX11_length_4 (by decide) ?_
  refine p_callq (va_runV (As := [.int (nI 0)]) (rest := []) C.fix (c_X4_at l D cy S s.heap.size co col con 0 cor0 (va_up (va_up (va_up (va_up (va_up (fun _ => none) 0 (some cor0)) 1 (some cor1)) 2 (some cor2)) 3 (some cor3)) 4 (some cor4)) hL_co hf_co hL_col hf_col (by first | assumption | decide | omega) (by first | assumption | rfl | simp [va_up])) (cwV 1 C.2.2.2.2.1 (gU_V mw_126 mw_127 mw_128 mw_29 sub_X4_at) rfl rfl rfl hde_X11_length_V_0 ⟨Nat.le_of_ble_eq_true rfl, Nat.le_of_ble_eq_true rfl⟩) (p_preV C hw hL_co hf_co rfl) rfl rfl hl.1 rfl (lv_room (Nat.le_of_ble_eq_true rfl)) dX11_length_5 ⟨Nat.le_of_ble_eq_true rfl, Nat.le_of_ble_eq_true rfl⟩) hw hA (fun r2 S1 H locs hpost hw => ?_)
  obtain ⟨hr_, hS_⟩ := hpost
  subst hr_
  subst hS_
  refine p_calli (va_runV (As := []) (rest := []) C.fix (c_X7_size l D cy S H.size cor0 cob0 0 hL_cor0 hf_cor0) (cwV 0 C.2.2.2.2.1 (gU_V mw_130 mw_131 mw_132 mw_25 sub_X7_size) rfl rfl rfl hde_X11_length_V_1 ⟨Nat.le_of_ble_eq_true rfl, Nat.le_of_ble_eq_true rfl⟩) (p_preV C hw hL_cor0 hf_cor0 rfl) rfl rfl hl.1 rfl (lv_room (Nat.le_of_ble_eq_true rfl)) dX11_length_8 ⟨Nat.le_of_ble_eq_true rfl, Nat.le_of_ble_eq_true rfl⟩) hw hA (fun r4 S3 H locs hpost hw => ?_)
  obtain ⟨hr_, hS_⟩ := hpost
  subst hr_
  subst hS_
  exact (p_iret C hw (⟨rfl, rfl⟩) hr hlocks dX11_length_11)

theorem hde_X11_stages_V_0 : yX1_count.cls = RX1 ∧ yX1_count.cls ≠ "java/lang/invoke/MethodHandle" ∧ yX1_count.cls ≠ "java/lang/invoke/VarHandle" ∧ (parseMethodDescriptor yX1_count.desc).map (fun d => d.parameters.length) = some 0 := by decide +kernel
set_option maxHeartbeats 4000000 in
set_option maxRecDepth 100000 in
theorem e_X11_stages (l : Launch) (D : va_G) (cy : Nat → ClassId) (S : pS) (sz : Nat) (x : Nat) (ch : Nat) (ln : Nat) (sl : Nat) (mk : Nat) (co : Nat) (ca : Nat) (su : Nat) (lt : Nat) (lk : Nat) (hL_x : x ∈ S.1) (hf_x : S.2 x = .inr (11, [.ref ch, .ref ln, .ref sl, .ref mk, .ref co, .ref ca, .ref su, .ref lt])) (hL_ch : ch ∈ S.1) (hf_ch : S.2 ch = .inr (2, [.ref lk, .int (nI 0)]))  : Met l yX11_stages (Cond.code yX11_stages cX11_stages 1 (some .int) :: lwU) ({ frames := 1, cells := 0, slots := 0, locals := 20 }) (pPc D cy S sz [.ref x]) (pQi D cy S sz (fun r S' => r = (nI 0) ∧ S = S')) 0 0 (pA S sz) := by
  refine Met.ofW (cc := cX11_stages) (maxL := 1) (ret := (some .int)) (by decide) rfl ?_
  intro p e s m args below meth c s₁ B hml hv
  obtain ⟨rfl, rfl, C, hw, hA, hr, hlocks⟩ := p_start B hml hv
  have hx := C.1
  have hb := C.2.1
  have hl := lv_entry ([.ref x]) (n := 1) (Nat.le_of_ble_eq_true rfl)
  rw [lg_entry_eq]
  generalize (lg_sl ([.ref x]) ++ List.replicate (1 - (lg_sl ([.ref x])).length) Slot.unset).toArray = ls at hl ⊢
  have hl : lv_has ls 1 [(0, .ref x)] := hl
  have hin_RX11 : ∀ w ∈ u_ws RX11 TX11 8, w ∈ (Cond.code yX11_stages cX11_stages 1 (some .int) :: lwU) := fun w h => mU (sub_RX11 w h)
  refine lv_aload_n hx hb dX11_stages_0 rfl (lv_at hl 0 rfl) ?_
  refine p_get C hw (ci := 11) (Cn := RX11) (T := TX11) (N := 8) hL_x hf_x rfl hin_RX11 0 (by decide) (mU mw_17) rfl rfl dX11_stages_1 ?_
  refine p_calli (va_runV (As := []) (rest := []) C.fix (c_X1_count l D cy S s.heap.size ch lk 0 hL_ch hf_ch) (cwV 0 C.2.2.2.2.1 (gU_V mw_260 mw_261 mw_262 mw_16 sub_X1_count) rfl rfl rfl hde_X11_stages_V_0 ⟨Nat.le_of_ble_eq_true rfl, Nat.le_of_ble_eq_true rfl⟩) (p_preV C hw hL_ch hf_ch rfl) rfl rfl hl.1 rfl (lv_room (Nat.le_of_ble_eq_true rfl)) dX11_stages_4 ⟨Nat.le_of_ble_eq_true rfl, Nat.le_of_ble_eq_true rfl⟩) hw hA (fun r2 S1 H locs hpost hw => ?_)
  obtain ⟨hr_, hS_⟩ := hpost
  subst hr_
  subst hS_
  exact (p_iret C hw (⟨rfl, rfl⟩) hr hlocks dX11_stages_7)

theorem hde_X11_sent_V_0 : yX11_last.cls = RX11 ∧ yX11_last.cls ≠ "java/lang/invoke/MethodHandle" ∧ yX11_last.cls ≠ "java/lang/invoke/VarHandle" ∧ (parseMethodDescriptor yX11_last.desc).map (fun d => d.parameters.length) = some 1 := by decide +kernel
theorem hde_X11_sent_V_1 : yX7_size.cls = RX7 ∧ yX7_size.cls ≠ "java/lang/invoke/MethodHandle" ∧ yX7_size.cls ≠ "java/lang/invoke/VarHandle" ∧ (parseMethodDescriptor yX7_size.desc).map (fun d => d.parameters.length) = some 0 := by decide +kernel
set_option maxHeartbeats 4000000 in
set_option maxRecDepth 100000 in
theorem e_X11_sent (l : Launch) (D : va_G) (cy : Nat → ClassId) (S : pS) (sz : Nat) (x : Nat) (ch : Nat) (ln : Nat) (sl : Nat) (mk : Nat) (co : Nat) (ca : Nat) (su : Nat) (lt : Nat) (lk : Nat) (col : Nat) (con : Nat) (cor0 : Nat) (cor1 : Nat) (cor2 : Nat) (cor3 : Nat) (cor4 : Nat) (cob0 : Nat) (hL_x : x ∈ S.1) (hf_x : S.2 x = .inr (11, [.ref ch, .ref ln, .ref sl, .ref mk, .ref co, .ref ca, .ref su, .ref lt])) (hL_ch : ch ∈ S.1) (hf_ch : S.2 ch = .inr (2, [.ref lk, .int (nI 0)])) (hL_co : co ∈ S.1) (hf_co : S.2 co = .inr (5, [.ref col, .ref con])) (hL_col : col ∈ S.1) (hf_col : S.2 col = aQ (cy 2) 5 (va_up (va_up (va_up (va_up (va_up (fun _ => none) 0 (some cor0)) 1 (some cor1)) 2 (some cor2)) 3 (some cor3)) 4 (some cor4))) (hL_cor0 : cor0 ∈ S.1) (hf_cor0 : S.2 cor0 = .inr (8, [.ref cob0, .int (nI 0)]))  : Met l yX11_sent (Cond.code yX11_sent cX11_sent 1 (some .int) :: lwU) ({ frames := 2, cells := 0, slots := 0, locals := 43 }) (pPc D cy S sz [.ref x]) (pQi D cy S sz (fun r S' => r = (nI 0) ∧ S = S')) 0 0 (pA S sz) := by
  refine Met.ofW (cc := cX11_sent) (maxL := 1) (ret := (some .int)) (by decide) rfl ?_
  intro p e s m args below meth c s₁ B hml hv
  obtain ⟨rfl, rfl, C, hw, hA, hr, hlocks⟩ := p_start B hml hv
  have hx := C.1
  have hb := C.2.1
  have hl := lv_entry ([.ref x]) (n := 1) (Nat.le_of_ble_eq_true rfl)
  rw [lg_entry_eq]
  generalize (lg_sl ([.ref x]) ++ List.replicate (1 - (lg_sl ([.ref x])).length) Slot.unset).toArray = ls at hl ⊢
  have hl : lv_has ls 1 [(0, .ref x)] := hl
  have hin_RX11 : ∀ w ∈ u_ws RX11 TX11 8, w ∈ (Cond.code yX11_sent cX11_sent 1 (some .int) :: lwU) := fun w h => mU (sub_RX11 w h)
  refine lv_aload_n hx hb dX11_sent_0 rfl (lv_at hl 0 rfl) ?_
  refine lv_aload_n hx hb dX11_sent_1 rfl (lv_at hl 0 rfl) ?_
  refine p_get C hw (ci := 11) (Cn := RX11) (T := TX11) (N := 8) hL_x hf_x rfl hin_RX11 4 (by decide) (mU mw_30) rfl rfl dX11_sent_2 ?_
  refine p_callq (va_runV (As := [.ref co]) (rest := []) C.fix (e_X11_last0 l D cy S s.heap.size x co ch ln sl mk co ca su lt lk col con (va_up (va_up (va_up (va_up (va_up (fun _ => none) 0 (some cor0)) 1 (some cor1)) 2 (some cor2)) 3 (some cor3)) 4 (some cor4)) cor0 hL_x hf_x hL_ch hf_ch hL_co hf_co hL_col hf_col (by first | assumption | rfl | simp [va_up])) (cwV 1 C.2.2.2.2.1 (gU_V mw_256 mw_257 mw_258 mw_2 (subU mw_259)) rfl rfl rfl hde_X11_sent_V_0 ⟨Nat.le_of_ble_eq_true rfl, Nat.le_of_ble_eq_true rfl⟩) (p_preV C hw hL_x hf_x rfl) rfl rfl hl.1 rfl (lv_room (Nat.le_of_ble_eq_true rfl)) dX11_sent_5 ⟨Nat.le_of_ble_eq_true rfl, Nat.le_of_ble_eq_true rfl⟩) hw hA (fun r2 S1 H locs hpost hw => ?_)
  obtain ⟨hr_, hS_⟩ := hpost
  subst hr_
  subst hS_
  refine p_calli (va_runV (As := []) (rest := []) C.fix (c_X7_size l D cy S H.size cor0 cob0 0 hL_cor0 hf_cor0) (cwV 0 C.2.2.2.2.1 (gU_V mw_130 mw_131 mw_132 mw_25 sub_X7_size) rfl rfl rfl hde_X11_sent_V_1 ⟨Nat.le_of_ble_eq_true rfl, Nat.le_of_ble_eq_true rfl⟩) (p_preV C hw hL_cor0 hf_cor0 rfl) rfl rfl hl.1 rfl (lv_room (Nat.le_of_ble_eq_true rfl)) dX11_sent_8 ⟨Nat.le_of_ble_eq_true rfl, Nat.le_of_ble_eq_true rfl⟩) hw hA (fun r4 S3 H locs hpost hw => ?_)
  obtain ⟨hr_, hS_⟩ := hpost
  subst hr_
  subst hS_
  exact (p_iret C hw (⟨rfl, rfl⟩) hr hlocks dX11_sent_11)

theorem hde_X11_hurt_V_0 : yX11_last.cls = RX11 ∧ yX11_last.cls ≠ "java/lang/invoke/MethodHandle" ∧ yX11_last.cls ≠ "java/lang/invoke/VarHandle" ∧ (parseMethodDescriptor yX11_last.desc).map (fun d => d.parameters.length) = some 1 := by decide +kernel
theorem hde_X11_hurt_V_1 : yX7_unlike.cls = RX7 ∧ yX7_unlike.cls ≠ "java/lang/invoke/MethodHandle" ∧ yX7_unlike.cls ≠ "java/lang/invoke/VarHandle" ∧ (parseMethodDescriptor yX7_unlike.desc).map (fun d => d.parameters.length) = some 1 := by decide +kernel
set_option maxHeartbeats 4000000 in
set_option maxRecDepth 100000 in
theorem e_X11_hurt (l : Launch) (D : va_G) (cy : Nat → ClassId) (S : pS) (sz : Nat) (x : Nat) (ch : Nat) (ln : Nat) (sl : Nat) (mk : Nat) (co : Nat) (ca : Nat) (su : Nat) (lt : Nat) (lk : Nat) (col : Nat) (con : Nat) (cor0 : Nat) (cor1 : Nat) (cor2 : Nat) (cor3 : Nat) (cor4 : Nat) (cob0 : Nat) (cal : Nat) (can : Nat) (car0 : Nat) (car1 : Nat) (car2 : Nat) (car3 : Nat) (car4 : Nat) (hL_x : x ∈ S.1) (hf_x : S.2 x = .inr (11, [.ref ch, .ref ln, .ref sl, .ref mk, .ref co, .ref ca, .ref su, .ref lt])) (hL_ch : ch ∈ S.1) (hf_ch : S.2 ch = .inr (2, [.ref lk, .int (nI 0)])) (hL_co : co ∈ S.1) (hf_co : S.2 co = .inr (5, [.ref col, .ref con])) (hL_col : col ∈ S.1) (hf_col : S.2 col = aQ (cy 2) 5 (va_up (va_up (va_up (va_up (va_up (fun _ => none) 0 (some cor0)) 1 (some cor1)) 2 (some cor2)) 3 (some cor3)) 4 (some cor4))) (hL_cor0 : cor0 ∈ S.1) (hf_cor0 : S.2 cor0 = .inr (8, [.ref cob0, .int (nI 0)])) (hL_ca : ca ∈ S.1) (hf_ca : S.2 ca = .inr (5, [.ref cal, .ref can])) (hL_cal : cal ∈ S.1) (hf_cal : S.2 cal = aQ (cy 2) 5 (va_up (va_up (va_up (va_up (va_up (fun _ => none) 0 (some car0)) 1 (some car1)) 2 (some car2)) 3 (some car3)) 4 (some car4)))  : Met l yX11_hurt (Cond.code yX11_hurt cX11_hurt 1 (some .int) :: lwU) ({ frames := 2, cells := 0, slots := 0, locals := 43 }) (pPc D cy S sz [.ref x]) (pQi D cy S sz (fun r S' => r = (nI 0) ∧ S = S')) 0 0 (pA S sz) := by
  refine Met.ofW (cc := cX11_hurt) (maxL := 1) (ret := (some .int)) (by decide) rfl ?_
  intro p e s m args below meth c s₁ B hml hv
  obtain ⟨rfl, rfl, C, hw, hA, hr, hlocks⟩ := p_start B hml hv
  have hx := C.1
  have hb := C.2.1
  have hl := lv_entry ([.ref x]) (n := 1) (Nat.le_of_ble_eq_true rfl)
  rw [lg_entry_eq]
  generalize (lg_sl ([.ref x]) ++ List.replicate (1 - (lg_sl ([.ref x])).length) Slot.unset).toArray = ls at hl ⊢
  have hl : lv_has ls 1 [(0, .ref x)] := hl
  have hin_RX11 : ∀ w ∈ u_ws RX11 TX11 8, w ∈ (Cond.code yX11_hurt cX11_hurt 1 (some .int) :: lwU) := fun w h => mU (sub_RX11 w h)
  refine lv_aload_n hx hb dX11_hurt_0 rfl (lv_at hl 0 rfl) ?_
  refine lv_aload_n hx hb dX11_hurt_1 rfl (lv_at hl 0 rfl) ?_
  refine p_get C hw (ci := 11) (Cn := RX11) (T := TX11) (N := 8) hL_x hf_x rfl hin_RX11 4 (by decide) (mU mw_30) rfl rfl dX11_hurt_2 ?_
  refine p_callq (va_runV (As := [.ref co]) (rest := []) C.fix (e_X11_last0 l D cy S s.heap.size x co ch ln sl mk co ca su lt lk col con (va_up (va_up (va_up (va_up (va_up (fun _ => none) 0 (some cor0)) 1 (some cor1)) 2 (some cor2)) 3 (some cor3)) 4 (some cor4)) cor0 hL_x hf_x hL_ch hf_ch hL_co hf_co hL_col hf_col (by first | assumption | rfl | simp [va_up])) (cwV 1 C.2.2.2.2.1 (gU_V mw_256 mw_257 mw_258 mw_2 (subU mw_259)) rfl rfl rfl hde_X11_hurt_V_0 ⟨Nat.le_of_ble_eq_true rfl, Nat.le_of_ble_eq_true rfl⟩) (p_preV C hw hL_x hf_x rfl) rfl rfl hl.1 rfl (lv_room (Nat.le_of_ble_eq_true rfl)) dX11_hurt_5 ⟨Nat.le_of_ble_eq_true rfl, Nat.le_of_ble_eq_true rfl⟩) hw hA (fun r2 S1 H locs hpost hw => ?_)
  obtain ⟨hr_, hS_⟩ := hpost
  subst hr_
  subst hS_
  refine lv_aload_n hx hb dX11_hurt_8 rfl (lv_at hl 0 rfl) ?_
  refine lv_aload_n hx hb dX11_hurt_9 rfl (lv_at hl 0 rfl) ?_
  refine p_get C hw (ci := 11) (Cn := RX11) (T := TX11) (N := 8) hL_x hf_x rfl hin_RX11 5 (by decide) (mU mw_31) rfl rfl dX11_hurt_10 ?_
  refine p_callq (va_runV (As := [.ref ca]) (rest := [.ref cor0]) C.fix (e_X11_last0 l D cy S H.size x ca ch ln sl mk co ca su lt lk cal can (va_up (va_up (va_up (va_up (va_up (fun _ => none) 0 (some car0)) 1 (some car1)) 2 (some car2)) 3 (some car3)) 4 (some car4)) car0 hL_x hf_x hL_ch hf_ch hL_ca hf_ca hL_cal hf_cal (by first | assumption | rfl | simp [va_up])) (cwV 1 C.2.2.2.2.1 (gU_V mw_256 mw_257 mw_258 mw_2 (subU mw_259)) rfl rfl rfl hde_X11_hurt_V_0 ⟨Nat.le_of_ble_eq_true rfl, Nat.le_of_ble_eq_true rfl⟩) (p_preV C hw hL_x hf_x rfl) rfl rfl hl.1 rfl (lv_room (Nat.le_of_ble_eq_true rfl)) dX11_hurt_13 ⟨Nat.le_of_ble_eq_true rfl, Nat.le_of_ble_eq_true rfl⟩) hw hA (fun r4 S3 H locs hpost hw => ?_)
  obtain ⟨hr_, hS_⟩ := hpost
  subst hr_
  subst hS_
  refine p_calli (va_runV (As := [.ref car0]) (rest := []) C.fix (e_X7_unlike0 l D cy S H.size cor0 car0 cob0 hL_cor0 hf_cor0 ) (cwV 1 C.2.2.2.2.1 (gU_V mw_790 mw_791 mw_792 mw_25 (subU mw_793)) rfl rfl rfl hde_X11_hurt_V_1 ⟨Nat.le_of_ble_eq_true rfl, Nat.le_of_ble_eq_true rfl⟩) (p_preV C hw hL_cor0 hf_cor0 rfl) rfl rfl hl.1 rfl (lv_room (Nat.le_of_ble_eq_true rfl)) dX11_hurt_16 ⟨Nat.le_of_ble_eq_true rfl, Nat.le_of_ble_eq_true rfl⟩) hw hA (fun r6 S5 H locs hpost hw => ?_)
  obtain ⟨hr_, hS_⟩ := hpost
  subst hr_
  subst hS_
  exact (p_iret C hw (⟨rfl, rfl⟩) hr hlocks dX11_hurt_19)

theorem hde_X11_errors_V_0 : yX11_errorsIn.cls = RX11 ∧ yX11_errorsIn.cls ≠ "java/lang/invoke/MethodHandle" ∧ yX11_errorsIn.cls ≠ "java/lang/invoke/VarHandle" ∧ (parseMethodDescriptor yX11_errorsIn.desc).map (fun d => d.parameters.length) = some 1 := by decide +kernel
set_option maxHeartbeats 4000000 in
set_option maxRecDepth 100000 in
theorem e_X11_errors (l : Launch) (D : va_G) (cy : Nat → ClassId) (S : pS) (sz : Nat) (x : Nat) (ch : Nat) (ln : Nat) (sl : Nat) (mk : Nat) (co : Nat) (ca : Nat) (su : Nat) (lt : Nat) (col : Nat) (con : Nat) (cor0 : Nat) (cor1 : Nat) (cor2 : Nat) (cor3 : Nat) (cor4 : Nat) (cob0 : Nat) (cal : Nat) (can : Nat) (car0 : Nat) (car1 : Nat) (car2 : Nat) (car3 : Nat) (car4 : Nat) (hL_x : x ∈ S.1) (hf_x : S.2 x = .inr (11, [.ref ch, .ref ln, .ref sl, .ref mk, .ref co, .ref ca, .ref su, .ref lt])) (hL_co : co ∈ S.1) (hf_co : S.2 co = .inr (5, [.ref col, .ref con])) (hL_col : col ∈ S.1) (hf_col : S.2 col = aQ (cy 2) 5 (va_up (va_up (va_up (va_up (va_up (fun _ => none) 0 (some cor0)) 1 (some cor1)) 2 (some cor2)) 3 (some cor3)) 4 (some cor4))) (hL_cor0 : cor0 ∈ S.1) (hf_cor0 : S.2 cor0 = .inr (8, [.ref cob0, .int (nI 0)])) (hL_ca : ca ∈ S.1) (hf_ca : S.2 ca = .inr (5, [.ref cal, .ref can])) (hL_cal : cal ∈ S.1) (hf_cal : S.2 cal = aQ (cy 2) 5 (va_up (va_up (va_up (va_up (va_up (fun _ => none) 0 (some car0)) 1 (some car1)) 2 (some car2)) 3 (some car3)) 4 (some car4)))  : Met l yX11_errors (Cond.code yX11_errors cX11_errors 1 (some .int) :: lwU) ({ frames := 2, cells := 0, slots := 0, locals := 44 }) (pPc D cy S sz [.ref x]) (pQi D cy S sz (fun r S' => r = (nI 0) ∧ S = S')) 0 0 (pA S sz) := by
  refine Met.ofW (cc := cX11_errors) (maxL := 1) (ret := (some .int)) (by decide) rfl ?_
  intro p e s m args below meth c s₁ B hml hv
  obtain ⟨rfl, rfl, C, hw, hA, hr, hlocks⟩ := p_start B hml hv
  have hx := C.1
  have hb := C.2.1
  have hl := lv_entry ([.ref x]) (n := 1) (Nat.le_of_ble_eq_true rfl)
  rw [lg_entry_eq]
  generalize (lg_sl ([.ref x]) ++ List.replicate (1 - (lg_sl ([.ref x])).length) Slot.unset).toArray = ls at hl ⊢
  have hl : lv_has ls 1 [(0, .ref x)] := hl
  have hin_RX11 : ∀ w ∈ u_ws RX11 TX11 8, w ∈ (Cond.code yX11_errors cX11_errors 1 (some .int) :: lwU) := fun w h => mU (sub_RX11 w h)
  refine lv_aload_n hx hb dX11_errors_0 rfl (lv_at hl 0 rfl) ?_
  refine lv_aload_n hx hb dX11_errors_1 rfl (lv_at hl 0 rfl) ?_
  refine p_get C hw (ci := 11) (Cn := RX11) (T := TX11) (N := 8) hL_x hf_x rfl hin_RX11 5 (by decide) (mU mw_31) rfl rfl dX11_errors_2 ?_
  refine p_calli (va_runV (As := [.ref ca]) (rest := []) C.fix (e_X11_errorsIn0 l D cy S s.heap.size x ca ch ln sl mk co ca su lt col con cor0 cor1 cor2 cor3 cor4 cob0 cal can (va_up (va_up (va_up (va_up (va_up (fun _ => none) 0 (some car0)) 1 (some car1)) 2 (some car2)) 3 (some car3)) 4 (some car4)) car0 hL_x hf_x hL_co hf_co hL_col hf_col hL_cor0 hf_cor0 hL_ca hf_ca hL_cal hf_cal (by first | assumption | rfl | simp [va_up])) (cwV 1 C.2.2.2.2.1 (gU_V mw_931 mw_932 mw_933 mw_2 (subU mw_934)) rfl rfl rfl hde_X11_errors_V_0 ⟨Nat.le_of_ble_eq_true rfl, Nat.le_of_ble_eq_true rfl⟩) (p_preV C hw hL_x hf_x rfl) rfl rfl hl.1 rfl (lv_room (Nat.le_of_ble_eq_true rfl)) dX11_errors_5 ⟨Nat.le_of_ble_eq_true rfl, Nat.le_of_ble_eq_true rfl⟩) hw hA (fun r2 S1 H locs hpost hw => ?_)
  obtain ⟨hr_, hS_⟩ := hpost
  subst hr_
  subst hS_
  exact (p_iret C hw (⟨rfl, rfl⟩) hr hlocks dX11_errors_8)

theorem hde_X11_weak_V_0 : yX11_errorsIn.cls = RX11 ∧ yX11_errorsIn.cls ≠ "java/lang/invoke/MethodHandle" ∧ yX11_errorsIn.cls ≠ "java/lang/invoke/VarHandle" ∧ (parseMethodDescriptor yX11_errorsIn.desc).map (fun d => d.parameters.length) = some 1 := by decide +kernel
theorem hde_X11_weak_V_1 : yX11_last.cls = RX11 ∧ yX11_last.cls ≠ "java/lang/invoke/MethodHandle" ∧ yX11_last.cls ≠ "java/lang/invoke/VarHandle" ∧ (parseMethodDescriptor yX11_last.desc).map (fun d => d.parameters.length) = some 1 := by decide +kernel
theorem hde_X11_weak_V_2 : yX7_size.cls = RX7 ∧ yX7_size.cls ≠ "java/lang/invoke/MethodHandle" ∧ yX7_size.cls ≠ "java/lang/invoke/VarHandle" ∧ (parseMethodDescriptor yX7_size.desc).map (fun d => d.parameters.length) = some 0 := by decide +kernel
set_option maxHeartbeats 4000000 in
set_option maxRecDepth 100000 in
theorem e_X11_weak (l : Launch) (D : va_G) (cy : Nat → ClassId) (S : pS) (sz : Nat) (x : Nat) (ch : Nat) (ln : Nat) (sl : Nat) (mk : Nat) (co : Nat) (ca : Nat) (su : Nat) (lt : Nat) (lk : Nat) (col : Nat) (con : Nat) (cor0 : Nat) (cor1 : Nat) (cor2 : Nat) (cor3 : Nat) (cor4 : Nat) (cob0 : Nat) (cal : Nat) (can : Nat) (car0 : Nat) (car1 : Nat) (car2 : Nat) (car3 : Nat) (car4 : Nat) (hL_x : x ∈ S.1) (hf_x : S.2 x = .inr (11, [.ref ch, .ref ln, .ref sl, .ref mk, .ref co, .ref ca, .ref su, .ref lt])) (hL_ch : ch ∈ S.1) (hf_ch : S.2 ch = .inr (2, [.ref lk, .int (nI 0)])) (hL_co : co ∈ S.1) (hf_co : S.2 co = .inr (5, [.ref col, .ref con])) (hL_col : col ∈ S.1) (hf_col : S.2 col = aQ (cy 2) 5 (va_up (va_up (va_up (va_up (va_up (fun _ => none) 0 (some cor0)) 1 (some cor1)) 2 (some cor2)) 3 (some cor3)) 4 (some cor4))) (hL_cor0 : cor0 ∈ S.1) (hf_cor0 : S.2 cor0 = .inr (8, [.ref cob0, .int (nI 0)])) (hL_ca : ca ∈ S.1) (hf_ca : S.2 ca = .inr (5, [.ref cal, .ref can])) (hL_cal : cal ∈ S.1) (hf_cal : S.2 cal = aQ (cy 2) 5 (va_up (va_up (va_up (va_up (va_up (fun _ => none) 0 (some car0)) 1 (some car1)) 2 (some car2)) 3 (some car3)) 4 (some car4)))  : Met l yX11_weak (Cond.code yX11_weak cX11_weak 5 (some .int) :: lwU) ({ frames := 2, cells := 0, slots := 0, locals := 44 }) (pPc D cy S sz [.ref x]) (pQi D cy S sz (fun r S' => r = (nI 0) ∧ S = S')) 0 0 (pA S sz) := by
  refine Met.ofW (cc := cX11_weak) (maxL := 5) (ret := (some .int)) (by decide) rfl ?_
  intro p e s m args below meth c s₁ B hml hv
  obtain ⟨rfl, rfl, C, hw, hA, hr, hlocks⟩ := p_start B hml hv
  have hx := C.1
  have hb := C.2.1
  have hl := lv_entry ([.ref x]) (n := 5) (Nat.le_of_ble_eq_true rfl)
  rw [lg_entry_eq]
  generalize (lg_sl ([.ref x]) ++ List.replicate (5 - (lg_sl ([.ref x])).length) Slot.unset).toArray = ls at hl ⊢
  have hl : lv_has ls 5 [(0, .ref x)] := hl
  have hin_RX11 : ∀ w ∈ u_ws RX11 TX11 8, w ∈ (Cond.code yX11_weak cX11_weak 5 (some .int) :: lwU) := fun w h => mU (sub_RX11 w h)
  refine lv_aload_n hx hb dX11_weak_0 rfl (lv_at hl 0 rfl) ?_
  refine lv_aload_n hx hb dX11_weak_1 rfl (lv_at hl 0 rfl) ?_
  refine p_get C hw (ci := 11) (Cn := RX11) (T := TX11) (N := 8) hL_x hf_x rfl hin_RX11 5 (by decide) (mU mw_31) rfl rfl dX11_weak_2 ?_
  refine p_calli (va_runV (As := [.ref ca]) (rest := []) C.fix (e_X11_errorsIn0 l D cy S s.heap.size x ca ch ln sl mk co ca su lt col con cor0 cor1 cor2 cor3 cor4 cob0 cal can (va_up (va_up (va_up (va_up (va_up (fun _ => none) 0 (some car0)) 1 (some car1)) 2 (some car2)) 3 (some car3)) 4 (some car4)) car0 hL_x hf_x hL_co hf_co hL_col hf_col hL_cor0 hf_cor0 hL_ca hf_ca hL_cal hf_cal (by first | assumption | rfl | simp [va_up])) (cwV 1 C.2.2.2.2.1 (gU_V mw_931 mw_932 mw_933 mw_2 (subU mw_934)) rfl rfl rfl hde_X11_weak_V_0 ⟨Nat.le_of_ble_eq_true rfl, Nat.le_of_ble_eq_true rfl⟩) (p_preV C hw hL_x hf_x rfl) rfl rfl hl.1 rfl (lv_room (Nat.le_of_ble_eq_true rfl)) dX11_weak_5 ⟨Nat.le_of_ble_eq_true rfl, Nat.le_of_ble_eq_true rfl⟩) hw hA (fun r2 S1 H locs hpost hw => ?_)
  obtain ⟨hr_, hS_⟩ := hpost
  subst hr_
  subst hS_
  refine lv_istore_n (lv' := [(1, .int (nI 0)), (0, .ref x)]) hx hb dX11_weak_8 rfl hl (by decide) rfl (fun ls hl => ?_)
  refine lv_aload_n hx hb dX11_weak_9 rfl (lv_at hl 1 rfl) ?_
  refine lv_aload_n hx hb dX11_weak_10 rfl (lv_at hl 1 rfl) ?_
  refine p_get C hw (ci := 11) (Cn := RX11) (T := TX11) (N := 8) hL_x hf_x rfl hin_RX11 4 (by decide) (mU mw_30) rfl rfl dX11_weak_11 ?_
  refine p_callq (va_runV (As := [.ref co]) (rest := []) C.fix (e_X11_last0 l D cy S H.size x co ch ln sl mk co ca su lt lk col con (va_up (va_up (va_up (va_up (va_up (fun _ => none) 0 (some cor0)) 1 (some cor1)) 2 (some cor2)) 3 (some cor3)) 4 (some cor4)) cor0 hL_x hf_x hL_ch hf_ch hL_co hf_co hL_col hf_col (by first | assumption | rfl | simp [va_up])) (cwV 1 C.2.2.2.2.1 (gU_V mw_256 mw_257 mw_258 mw_2 (subU mw_259)) rfl rfl rfl hde_X11_weak_V_1 ⟨Nat.le_of_ble_eq_true rfl, Nat.le_of_ble_eq_true rfl⟩) (p_preV C hw hL_x hf_x rfl) rfl rfl hl.1 rfl (lv_room (Nat.le_of_ble_eq_true rfl)) dX11_weak_14 ⟨Nat.le_of_ble_eq_true rfl, Nat.le_of_ble_eq_true rfl⟩) hw hA (fun r4 S3 H locs hpost hw => ?_)
  obtain ⟨hr_, hS_⟩ := hpost
  subst hr_
  subst hS_
  refine p_calli (va_runV (As := []) (rest := []) C.fix (c_X7_size l D cy S H.size cor0 cob0 0 hL_cor0 hf_cor0) (cwV 0 C.2.2.2.2.1 (gU_V mw_130 mw_131 mw_132 mw_25 sub_X7_size) rfl rfl rfl hde_X11_weak_V_2 ⟨Nat.le_of_ble_eq_true rfl, Nat.le_of_ble_eq_true rfl⟩) (p_preV C hw hL_cor0 hf_cor0 rfl) rfl rfl hl.1 rfl (lv_room (Nat.le_of_ble_eq_true rfl)) dX11_weak_17 ⟨Nat.le_of_ble_eq_true rfl, Nat.le_of_ble_eq_true rfl⟩) hw hA (fun r6 S5 H locs hpost hw => ?_)
  obtain ⟨hr_, hS_⟩ := hpost
  subst hr_
  subst hS_
  refine lv_istore_n (lv' := [(2, .int (nI 0)), (1, .int (nI 0)), (0, .ref x)]) hx hb dX11_weak_20 rfl hl (by decide) rfl (fun ls hl => ?_)
  refine lv_iconst (v := nI 0) hx hb dX11_weak_21 (by decide) ?_
  refine lv_istore_n (lv' := [(3, .int (nI 0)), (2, .int (nI 0)), (1, .int (nI 0)), (0, .ref x)]) hx hb dX11_weak_22 rfl hl (by decide) rfl (fun ls hl => ?_)
  refine lv_iconst (v := nI 0) hx hb dX11_weak_23 (by decide) ?_
  refine lv_istore (lv' := [(4, .int (nI 0)), (3, .int (nI 0)), (2, .int (nI 0)), (1, .int (nI 0)), (0, .ref x)]) hx hb dX11_weak_24 hl (by decide) rfl (fun ls hl => ?_)
  refine lv_iload hx hb dX11_weak_26 (lv_at hl 0 rfl) ?_
  refine lv_iload_n hx hb dX11_weak_28 rfl (lv_at hl 2 rfl) ?_
  refine n_icmp_ge (tgt := 51) hx hb (by first | decide | omega) (by first | decide | omega) dX11_weak_29 (by decide) (fun h_29 => ?_) (fun h_29 => ?_)
  · skip
    refine lv_iload_n hx hb dX11_weak_51 rfl (lv_at hl 1 rfl) ?_
    exact (p_iret C hw (⟨rfl, rfl⟩) hr hlocks dX11_weak_52)
  · exact absurd h_29 (by first | decide | omega)

theorem hde_X11_rate_V_0 : yX11_last.cls = RX11 ∧ yX11_last.cls ≠ "java/lang/invoke/MethodHandle" ∧ yX11_last.cls ≠ "java/lang/invoke/VarHandle" ∧ (parseMethodDescriptor yX11_last.desc).map (fun d => d.parameters.length) = some 1 := by decide +kernel
theorem hde_X11_rate_V_1 : yX7_size.cls = RX7 ∧ yX7_size.cls ≠ "java/lang/invoke/MethodHandle" ∧ yX7_size.cls ≠ "java/lang/invoke/VarHandle" ∧ (parseMethodDescriptor yX7_size.desc).map (fun d => d.parameters.length) = some 0 := by decide +kernel
set_option maxHeartbeats 4000000 in
set_option maxRecDepth 100000 in
theorem e_X11_rate (l : Launch) (D : va_G) (cy : Nat → ClassId) (S : pS) (sz : Nat) (x : Nat) (ch : Nat) (ln : Nat) (sl : Nat) (mk : Nat) (co : Nat) (ca : Nat) (su : Nat) (lt : Nat) (lk : Nat) (col : Nat) (con : Nat) (cor0 : Nat) (cor1 : Nat) (cor2 : Nat) (cor3 : Nat) (cor4 : Nat) (cob0 : Nat) (hL_x : x ∈ S.1) (hf_x : S.2 x = .inr (11, [.ref ch, .ref ln, .ref sl, .ref mk, .ref co, .ref ca, .ref su, .ref lt])) (hL_ch : ch ∈ S.1) (hf_ch : S.2 ch = .inr (2, [.ref lk, .int (nI 0)])) (hL_co : co ∈ S.1) (hf_co : S.2 co = .inr (5, [.ref col, .ref con])) (hL_col : col ∈ S.1) (hf_col : S.2 col = aQ (cy 2) 5 (va_up (va_up (va_up (va_up (va_up (fun _ => none) 0 (some cor0)) 1 (some cor1)) 2 (some cor2)) 3 (some cor3)) 4 (some cor4))) (hL_cor0 : cor0 ∈ S.1) (hf_cor0 : S.2 cor0 = .inr (8, [.ref cob0, .int (nI 0)]))  : Met l yX11_rate (Cond.code yX11_rate cX11_rate 2 (some .double) :: lwU) ({ frames := 2, cells := 0, slots := 0, locals := 43 }) (pPc D cy S sz [.ref x]) (pQd D cy S sz (fun r S' => r = FP.dconst0 ∧ S = S')) 0 0 (pA S sz) := by
  refine Met.ofW (cc := cX11_rate) (maxL := 2) (ret := (some .double)) (by decide) rfl ?_
  intro p e s m args below meth c s₁ B hml hv
  obtain ⟨rfl, rfl, C, hw, hA, hr, hlocks⟩ := p_start B hml hv
  have hx := C.1
  have hb := C.2.1
  have hl := lv_entry ([.ref x]) (n := 2) (Nat.le_of_ble_eq_true rfl)
  rw [lg_entry_eq]
  generalize (lg_sl ([.ref x]) ++ List.replicate (2 - (lg_sl ([.ref x])).length) Slot.unset).toArray = ls at hl ⊢
  have hl : lv_has ls 2 [(0, .ref x)] := hl
  have hin_RX11 : ∀ w ∈ u_ws RX11 TX11 8, w ∈ (Cond.code yX11_rate cX11_rate 2 (some .double) :: lwU) := fun w h => mU (sub_RX11 w h)
  refine lv_aload_n hx hb dX11_rate_0 rfl (lv_at hl 0 rfl) ?_
  refine lv_aload_n hx hb dX11_rate_1 rfl (lv_at hl 0 rfl) ?_
  refine p_get C hw (ci := 11) (Cn := RX11) (T := TX11) (N := 8) hL_x hf_x rfl hin_RX11 4 (by decide) (mU mw_30) rfl rfl dX11_rate_2 ?_
  refine p_callq (va_runV (As := [.ref co]) (rest := []) C.fix (e_X11_last0 l D cy S s.heap.size x co ch ln sl mk co ca su lt lk col con (va_up (va_up (va_up (va_up (va_up (fun _ => none) 0 (some cor0)) 1 (some cor1)) 2 (some cor2)) 3 (some cor3)) 4 (some cor4)) cor0 hL_x hf_x hL_ch hf_ch hL_co hf_co hL_col hf_col (by first | assumption | rfl | simp [va_up])) (cwV 1 C.2.2.2.2.1 (gU_V mw_256 mw_257 mw_258 mw_2 (subU mw_259)) rfl rfl rfl hde_X11_rate_V_0 ⟨Nat.le_of_ble_eq_true rfl, Nat.le_of_ble_eq_true rfl⟩) (p_preV C hw hL_x hf_x rfl) rfl rfl hl.1 rfl (lv_room (Nat.le_of_ble_eq_true rfl)) dX11_rate_5 ⟨Nat.le_of_ble_eq_true rfl, Nat.le_of_ble_eq_true rfl⟩) hw hA (fun r2 S1 H locs hpost hw => ?_)
  obtain ⟨hr_, hS_⟩ := hpost
  subst hr_
  subst hS_
  refine p_calli (va_runV (As := []) (rest := []) C.fix (c_X7_size l D cy S H.size cor0 cob0 0 hL_cor0 hf_cor0) (cwV 0 C.2.2.2.2.1 (gU_V mw_130 mw_131 mw_132 mw_25 sub_X7_size) rfl rfl rfl hde_X11_rate_V_1 ⟨Nat.le_of_ble_eq_true rfl, Nat.le_of_ble_eq_true rfl⟩) (p_preV C hw hL_cor0 hf_cor0 rfl) rfl rfl hl.1 rfl (lv_room (Nat.le_of_ble_eq_true rfl)) dX11_rate_8 ⟨Nat.le_of_ble_eq_true rfl, Nat.le_of_ble_eq_true rfl⟩) hw hA (fun r4 S3 H locs hpost hw => ?_)
  obtain ⟨hr_, hS_⟩ := hpost
  subst hr_
  subst hS_
  refine lv_istore_n (lv' := [(1, .int (nI 0)), (0, .ref x)]) hx hb dX11_rate_11 rfl hl (by decide) rfl (fun ls hl => ?_)
  refine lv_iload_n hx hb dX11_rate_12 rfl (lv_at hl 0 rfl) ?_
  refine n_if_ne (tgt := 20) hx hb (by first | decide | omega) dX11_rate_13 (by decide) (fun h_13 => ?_) (fun h_13 => ?_)
  · exact absurd h_13 (by first | decide | omega)
  · skip
    refine lv_dconst0 hx hb dX11_rate_16 ?_
    refine lv_goto (tgt := 35) hx hb dX11_rate_17 (by decide) ?_
    exact (p_dret C hw (⟨rfl, rfl⟩) hr hlocks dX11_rate_35)

theorem hde_X11_distance_V_0 : yX1_stageAt.cls = RX1 ∧ yX1_stageAt.cls ≠ "java/lang/invoke/MethodHandle" ∧ yX1_stageAt.cls ≠ "java/lang/invoke/VarHandle" ∧ (parseMethodDescriptor yX1_stageAt.desc).map (fun d => d.parameters.length) = some 1 := by decide +kernel
set_option maxHeartbeats 4000000 in
set_option maxRecDepth 100000 in
theorem e_X11_distance (l : Launch) (hflags : l.stackTraces = false) (D : va_G) (cy : Nat → ClassId) (ed : Nat) (S : pS) (sz : Nat) (x : Nat) (ch : Nat) (ln : Nat) (sl : Nat) (mk : Nat) (co : Nat) (ca : Nat) (su : Nat) (lt : Nat) (lk : Nat) (j : Int32) (hL_x : x ∈ S.1) (hf_x : S.2 x = .inr (11, [.ref ch, .ref ln, .ref sl, .ref mk, .ref co, .ref ca, .ref su, .ref lt])) (hL_ch : ch ∈ S.1) (hf_ch : S.2 ch = .inr (2, [.ref lk, .int (nI 0)]))  : vx_Met l yX11_distance (Cond.code yX11_distance cX11_distance 3 (some .int) :: lwU) ({ frames := 6, cells := 1, slots := 6, locals := 82 }) (ePc D cy ed S sz [.ref x, .int j]) (pQi D cy S sz (fun r S' => (False) ∧ True ∧ S = S')) (pX D S sz (fun E S' => (E = "java/lang/IndexOutOfBoundsException" ∧ (True) ∧ S = S'))) 1 6 (pA S sz) := by
  refine vx_ofW (cc := cX11_distance) (maxL := 3) (ret := (some .int)) (by decide) rfl ?_
  intro p e s m args below meth c s₁ B hml htab hv
  obtain ⟨rfl, rfl, C, hw, hA, hr, hlocks, hE⟩ := e_start B hml hv
  have hx := C.1
  have hb := C.2.1
  have hl := lv_entry ([.ref x, .int j]) (n := 3) (Nat.le_of_ble_eq_true rfl)
  rw [lg_entry_eq]
  generalize (lg_sl ([.ref x, .int j]) ++ List.replicate (3 - (lg_sl ([.ref x, .int j])).length) Slot.unset).toArray = ls at hl ⊢
  have hl : lv_has ls 3 [(0, .ref x), (1, .int j)] := hl
  have hin_RX11 : ∀ w ∈ u_ws RX11 TX11 8, w ∈ (Cond.code yX11_distance cX11_distance 3 (some .int) :: lwU) := fun w h => mU (sub_RX11 w h)
  refine lv_aload_n hx hb dX11_distance_0 rfl (lv_at hl 0 rfl) ?_
  refine p_get C hw (ci := 11) (Cn := RX11) (T := TX11) (N := 8) hL_x hf_x rfl hin_RX11 0 (by decide) (mU mw_17) rfl rfl dX11_distance_1 ?_
  refine lv_iload_n hx hb dX11_distance_4 rfl (lv_at hl 1 rfl) ?_
  refine p_callq (va_runV (As := [.int j]) (rest := []) C.fix (e_X1_stageAt0 l D cy S s.heap.size ch lk j hL_ch hf_ch ) (cwV 1 C.2.2.2.2.1 (gU_V mw_767 mw_139 mw_140 mw_16 (subU mw_141)) rfl rfl rfl hde_X11_distance_V_0 ⟨Nat.le_of_ble_eq_true rfl, Nat.le_of_ble_eq_true rfl⟩) (p_preV C hw hL_ch hf_ch rfl) rfl rfl hl.1 rfl (lv_room (Nat.le_of_ble_eq_true rfl)) dX11_distance_5 ⟨Nat.le_of_ble_eq_true rfl, Nat.le_of_ble_eq_true rfl⟩) hw hA (fun r2 S1 H locs hpost hw => ?_)
  obtain ⟨hr_, hS_⟩ := hpost
  subst hr_
  subst hS_
  refine lv_astore_nN (lv' := [(2, .null), (0, .ref x), (1, .int j)]) hx hb dX11_distance_8 rfl hl (by decide) rfl (fun ls hl => ?_)
  refine lv_aload_nN hx hb dX11_distance_9 rfl (lv_at hl 0 rfl) ?_
  refine lv_ifnonnullN hx hb dX11_distance_10 ?_
  exact x_throw (y := yX11_distance) C hflags hw hE (kS := 19) (kT := 2) mw_733 mw_734 tIO_x rfl rfl (by decide) tIO_n tIO_g hl.1.symm dX11_distance_13 dX11_distance_16 dX11_distance_17 dX11_distance_19 dX11_distance_22 htab (Nat.le_of_ble_eq_true rfl) (Nat.le_of_ble_eq_true rfl) (Nat.le_of_ble_eq_true rfl) (Nat.le_of_ble_eq_true rfl) hlocks (⟨rfl, (by first | trivial | assumption | omega), rfl⟩) (Nat.le_of_ble_eq_true rfl) (Nat.le_of_ble_eq_true rfl)

theorem hde_X11_ofStage_V_0 : yX1_stageAt.cls = RX1 ∧ yX1_stageAt.cls ≠ "java/lang/invoke/MethodHandle" ∧ yX1_stageAt.cls ≠ "java/lang/invoke/VarHandle" ∧ (parseMethodDescriptor yX1_stageAt.desc).map (fun d => d.parameters.length) = some 1 := by decide +kernel
set_option maxHeartbeats 4000000 in
set_option maxRecDepth 100000 in
theorem e_X11_ofStage (l : Launch) (hflags : l.stackTraces = false) (D : va_G) (cy : Nat → ClassId) (ed : Nat) (S : pS) (sz : Nat) (x : Nat) (ch : Nat) (ln : Nat) (sl : Nat) (mk : Nat) (co : Nat) (ca : Nat) (su : Nat) (lt : Nat) (lk : Nat) (j : Int32) (w : Int32) (hL_x : x ∈ S.1) (hf_x : S.2 x = .inr (11, [.ref ch, .ref ln, .ref sl, .ref mk, .ref co, .ref ca, .ref su, .ref lt])) (hL_ch : ch ∈ S.1) (hf_ch : S.2 ch = .inr (2, [.ref lk, .int (nI 0)]))  : vx_Met l yX11_ofStage (Cond.code yX11_ofStage cX11_ofStage 4 (some .int) :: lwU) ({ frames := 6, cells := 1, slots := 6, locals := 82 }) (ePc D cy ed S sz [.ref x, .int j, .int w]) (pQi D cy S sz (fun r S' => (False) ∧ True ∧ S = S')) (pX D S sz (fun E S' => (E = "java/lang/IndexOutOfBoundsException" ∧ (True) ∧ S = S'))) 1 6 (pA S sz) := by
  refine vx_ofW (cc := cX11_ofStage) (maxL := 4) (ret := (some .int)) (by decide) rfl ?_
  intro p e s m args below meth c s₁ B hml htab hv
  obtain ⟨rfl, rfl, C, hw, hA, hr, hlocks, hE⟩ := e_start B hml hv
  have hx := C.1
  have hb := C.2.1
  have hl := lv_entry ([.ref x, .int j, .int w]) (n := 4) (Nat.le_of_ble_eq_true rfl)
  rw [lg_entry_eq]
  generalize (lg_sl ([.ref x, .int j, .int w]) ++ List.replicate (4 - (lg_sl ([.ref x, .int j, .int w])).length) Slot.unset).toArray = ls at hl ⊢
  have hl : lv_has ls 4 [(0, .ref x), (1, .int j), (2, .int w)] := hl
  have hin_RX11 : ∀ w ∈ u_ws RX11 TX11 8, w ∈ (Cond.code yX11_ofStage cX11_ofStage 4 (some .int) :: lwU) := fun w h => mU (sub_RX11 w h)
  refine lv_aload_n hx hb dX11_ofStage_0 rfl (lv_at hl 0 rfl) ?_
  refine p_get C hw (ci := 11) (Cn := RX11) (T := TX11) (N := 8) hL_x hf_x rfl hin_RX11 0 (by decide) (mU mw_17) rfl rfl dX11_ofStage_1 ?_
  refine lv_iload_n hx hb dX11_ofStage_4 rfl (lv_at hl 1 rfl) ?_
  refine p_callq (va_runV (As := [.int j]) (rest := []) C.fix (e_X1_stageAt0 l D cy S s.heap.size ch lk j hL_ch hf_ch ) (cwV 1 C.2.2.2.2.1 (gU_V mw_767 mw_139 mw_140 mw_16 (subU mw_141)) rfl rfl rfl hde_X11_ofStage_V_0 ⟨Nat.le_of_ble_eq_true rfl, Nat.le_of_ble_eq_true rfl⟩) (p_preV C hw hL_ch hf_ch rfl) rfl rfl hl.1 rfl (lv_room (Nat.le_of_ble_eq_true rfl)) dX11_ofStage_5 ⟨Nat.le_of_ble_eq_true rfl, Nat.le_of_ble_eq_true rfl⟩) hw hA (fun r2 S1 H locs hpost hw => ?_)
  obtain ⟨hr_, hS_⟩ := hpost
  subst hr_
  subst hS_
  refine lv_astore_nN (lv' := [(3, .null), (0, .ref x), (1, .int j), (2, .int w)]) hx hb dX11_ofStage_8 rfl hl (by decide) rfl (fun ls hl => ?_)
  refine lv_aload_nN hx hb dX11_ofStage_9 rfl (lv_at hl 0 rfl) ?_
  refine lv_ifnonnullN hx hb dX11_ofStage_10 ?_
  exact x_throw (y := yX11_ofStage) C hflags hw hE (kS := 19) (kT := 2) mw_733 mw_734 tIO_x rfl rfl (by decide) tIO_n tIO_g hl.1.symm dX11_ofStage_13 dX11_ofStage_16 dX11_ofStage_17 dX11_ofStage_19 dX11_ofStage_22 htab (Nat.le_of_ble_eq_true rfl) (Nat.le_of_ble_eq_true rfl) (Nat.le_of_ble_eq_true rfl) (Nat.le_of_ble_eq_true rfl) hlocks (⟨rfl, (by first | trivial | assumption | omega), rfl⟩) (Nat.le_of_ble_eq_true rfl) (Nat.le_of_ble_eq_true rfl)

theorem hde_X11_words_V_0 : yX1_stageAt.cls = RX1 ∧ yX1_stageAt.cls ≠ "java/lang/invoke/MethodHandle" ∧ yX1_stageAt.cls ≠ "java/lang/invoke/VarHandle" ∧ (parseMethodDescriptor yX1_stageAt.desc).map (fun d => d.parameters.length) = some 1 := by decide +kernel
set_option maxHeartbeats 4000000 in
set_option maxRecDepth 100000 in
theorem e_X11_words (l : Launch) (hflags : l.stackTraces = false) (D : va_G) (cy : Nat → ClassId) (ed : Nat) (S : pS) (sz : Nat) (x : Nat) (ch : Nat) (ln : Nat) (sl : Nat) (mk : Nat) (co : Nat) (ca : Nat) (su : Nat) (lt : Nat) (lk : Nat) (j : Int32) (w : Int32) (hL_x : x ∈ S.1) (hf_x : S.2 x = .inr (11, [.ref ch, .ref ln, .ref sl, .ref mk, .ref co, .ref ca, .ref su, .ref lt])) (hL_ch : ch ∈ S.1) (hf_ch : S.2 ch = .inr (2, [.ref lk, .int (nI 0)]))  : vx_Met l yX11_words (Cond.code yX11_words cX11_words 4 (some .int) :: lwU) ({ frames := 6, cells := 1, slots := 6, locals := 82 }) (ePc D cy ed S sz [.ref x, .int j, .int w]) (pQi D cy S sz (fun r S' => (False) ∧ True ∧ S = S')) (pX D S sz (fun E S' => (E = "java/lang/IndexOutOfBoundsException" ∧ (True) ∧ S = S'))) 1 6 (pA S sz) := by
  refine vx_ofW (cc := cX11_words) (maxL := 4) (ret := (some .int)) (by decide) rfl ?_
  intro p e s m args below meth c s₁ B hml htab hv
  obtain ⟨rfl, rfl, C, hw, hA, hr, hlocks, hE⟩ := e_start B hml hv
  have hx := C.1
  have hb := C.2.1
  have hl := lv_entry ([.ref x, .int j, .int w]) (n := 4) (Nat.le_of_ble_eq_true rfl)
  rw [lg_entry_eq]
  generalize (lg_sl ([.ref x, .int j, .int w]) ++ List.replicate (4 - (lg_sl ([.ref x, .int j, .int w])).length) Slot.unset).toArray = ls at hl ⊢
  have hl : lv_has ls 4 [(0, .ref x), (1, .int j), (2, .int w)] := hl
  have hin_RX11 : ∀ w ∈ u_ws RX11 TX11 8, w ∈ (Cond.code yX11_words cX11_words 4 (some .int) :: lwU) := fun w h => mU (sub_RX11 w h)
  refine lv_aload_n hx hb dX11_words_0 rfl (lv_at hl 0 rfl) ?_
  refine p_get C hw (ci := 11) (Cn := RX11) (T := TX11) (N := 8) hL_x hf_x rfl hin_RX11 0 (by decide) (mU mw_17) rfl rfl dX11_words_1 ?_
  refine lv_iload_n hx hb dX11_words_4 rfl (lv_at hl 1 rfl) ?_
  refine p_callq (va_runV (As := [.int j]) (rest := []) C.fix (e_X1_stageAt0 l D cy S s.heap.size ch lk j hL_ch hf_ch ) (cwV 1 C.2.2.2.2.1 (gU_V mw_767 mw_139 mw_140 mw_16 (subU mw_141)) rfl rfl rfl hde_X11_words_V_0 ⟨Nat.le_of_ble_eq_true rfl, Nat.le_of_ble_eq_true rfl⟩) (p_preV C hw hL_ch hf_ch rfl) rfl rfl hl.1 rfl (lv_room (Nat.le_of_ble_eq_true rfl)) dX11_words_5 ⟨Nat.le_of_ble_eq_true rfl, Nat.le_of_ble_eq_true rfl⟩) hw hA (fun r2 S1 H locs hpost hw => ?_)
  obtain ⟨hr_, hS_⟩ := hpost
  subst hr_
  subst hS_
  refine lv_astore_nN (lv' := [(3, .null), (0, .ref x), (1, .int j), (2, .int w)]) hx hb dX11_words_8 rfl hl (by decide) rfl (fun ls hl => ?_)
  refine lv_aload_nN hx hb dX11_words_9 rfl (lv_at hl 0 rfl) ?_
  refine lv_ifnonnullN hx hb dX11_words_10 ?_
  exact x_throw (y := yX11_words) C hflags hw hE (kS := 19) (kT := 2) mw_733 mw_734 tIO_x rfl rfl (by decide) tIO_n tIO_g hl.1.symm dX11_words_13 dX11_words_16 dX11_words_17 dX11_words_19 dX11_words_22 htab (Nat.le_of_ble_eq_true rfl) (Nat.le_of_ble_eq_true rfl) (Nat.le_of_ble_eq_true rfl) (Nat.le_of_ble_eq_true rfl) hlocks (⟨rfl, (by first | trivial | assumption | omega), rfl⟩) (Nat.le_of_ble_eq_true rfl) (Nat.le_of_ble_eq_true rfl)

theorem hde_X11_bit_V_0 : yX11_last.cls = RX11 ∧ yX11_last.cls ≠ "java/lang/invoke/MethodHandle" ∧ yX11_last.cls ≠ "java/lang/invoke/VarHandle" ∧ (parseMethodDescriptor yX11_last.desc).map (fun d => d.parameters.length) = some 1 := by decide +kernel
theorem hde_X11_bit_V_1 : yX7_size.cls = RX7 ∧ yX7_size.cls ≠ "java/lang/invoke/MethodHandle" ∧ yX7_size.cls ≠ "java/lang/invoke/VarHandle" ∧ (parseMethodDescriptor yX7_size.desc).map (fun d => d.parameters.length) = some 0 := by decide +kernel
set_option maxHeartbeats 4000000 in
set_option maxRecDepth 100000 in
theorem e_X11_bit (l : Launch) (hflags : l.stackTraces = false) (D : va_G) (cy : Nat → ClassId) (ed : Nat) (S : pS) (sz : Nat) (x : Nat) (ch : Nat) (ln : Nat) (sl : Nat) (mk : Nat) (co : Nat) (ca : Nat) (su : Nat) (lt : Nat) (lk : Nat) (col : Nat) (con : Nat) (cor0 : Nat) (cor1 : Nat) (cor2 : Nat) (cor3 : Nat) (cor4 : Nat) (cob0 : Nat) (j : Int32) (w : Int32) (hL_x : x ∈ S.1) (hf_x : S.2 x = .inr (11, [.ref ch, .ref ln, .ref sl, .ref mk, .ref co, .ref ca, .ref su, .ref lt])) (hL_ch : ch ∈ S.1) (hf_ch : S.2 ch = .inr (2, [.ref lk, .int (nI 0)])) (hL_co : co ∈ S.1) (hf_co : S.2 co = .inr (5, [.ref col, .ref con])) (hL_col : col ∈ S.1) (hf_col : S.2 col = aQ (cy 2) 5 (va_up (va_up (va_up (va_up (va_up (fun _ => none) 0 (some cor0)) 1 (some cor1)) 2 (some cor2)) 3 (some cor3)) 4 (some cor4))) (hL_cor0 : cor0 ∈ S.1) (hf_cor0 : S.2 cor0 = .inr (8, [.ref cob0, .int (nI 0)]))  : vx_Met l yX11_bit (Cond.code yX11_bit cX11_bit 3 (some .int) :: lwU) ({ frames := 6, cells := 1, slots := 6, locals := 82 }) (ePc D cy ed S sz [.ref x, .int j, .int w]) (pQi D cy S sz (fun r S' => (False) ∧ True ∧ S = S')) (pX D S sz (fun E S' => (E = "java/lang/IndexOutOfBoundsException" ∧ (True) ∧ S = S'))) 1 6 (pA S sz) := by
  refine vx_ofW (cc := cX11_bit) (maxL := 3) (ret := (some .int)) (by decide) rfl ?_
  intro p e s m args below meth c s₁ B hml htab hv
  obtain ⟨rfl, rfl, C, hw, hA, hr, hlocks, hE⟩ := e_start B hml hv
  have hx := C.1
  have hb := C.2.1
  have hl := lv_entry ([.ref x, .int j, .int w]) (n := 3) (Nat.le_of_ble_eq_true rfl)
  rw [lg_entry_eq]
  generalize (lg_sl ([.ref x, .int j, .int w]) ++ List.replicate (3 - (lg_sl ([.ref x, .int j, .int w])).length) Slot.unset).toArray = ls at hl ⊢
  have hl : lv_has ls 3 [(0, .ref x), (1, .int j), (2, .int w)] := hl
  have hin_RX11 : ∀ w ∈ u_ws RX11 TX11 8, w ∈ (Cond.code yX11_bit cX11_bit 3 (some .int) :: lwU) := fun w h => mU (sub_RX11 w h)
  refine lv_iload_n hx hb dX11_bit_0 rfl (lv_at hl 1 rfl) ?_
  refine z_if_lt (tgt := 19) hx hb rfl dX11_bit_1 (by decide) (fun h_1 => ?_) (fun h_1 => ?_)
  · skip
    exact x_throw (y := yX11_bit) C hflags hw hE (kS := 21) (kT := 2) mw_733 mw_734 tIO_x rfl rfl (by decide) tIO_n tIO_g hl.1.symm dX11_bit_19 dX11_bit_22 dX11_bit_23 dX11_bit_25 dX11_bit_28 htab (Nat.le_of_ble_eq_true rfl) (Nat.le_of_ble_eq_true rfl) (Nat.le_of_ble_eq_true rfl) (Nat.le_of_ble_eq_true rfl) hlocks (⟨rfl, (by first | trivial | assumption | omega), rfl⟩) (Nat.le_of_ble_eq_true rfl) (Nat.le_of_ble_eq_true rfl)
  · skip
    refine lv_iload_n hx hb dX11_bit_4 rfl (lv_at hl 1 rfl) ?_
    refine lv_aload_n hx hb dX11_bit_5 rfl (lv_at hl 0 rfl) ?_
    refine lv_aload_n hx hb dX11_bit_6 rfl (lv_at hl 0 rfl) ?_
    refine p_get C hw (ci := 11) (Cn := RX11) (T := TX11) (N := 8) hL_x hf_x rfl hin_RX11 4 (by decide) (mU mw_30) rfl rfl dX11_bit_7 ?_
    refine p_callq (va_runV (As := [.ref co]) (rest := [.int j]) C.fix (e_X11_last0 l D cy S s.heap.size x co ch ln sl mk co ca su lt lk col con (va_up (va_up (va_up (va_up (va_up (fun _ => none) 0 (some cor0)) 1 (some cor1)) 2 (some cor2)) 3 (some cor3)) 4 (some cor4)) cor0 hL_x hf_x hL_ch hf_ch hL_co hf_co hL_col hf_col (by first | assumption | rfl | simp [va_up])) (cwV 1 C.2.2.2.2.1 (gU_V mw_256 mw_257 mw_258 mw_2 (subU mw_259)) rfl rfl rfl hde_X11_bit_V_0 ⟨Nat.le_of_ble_eq_true rfl, Nat.le_of_ble_eq_true rfl⟩) (p_preV C hw hL_x hf_x rfl) rfl rfl hl.1 rfl (lv_room (Nat.le_of_ble_eq_true rfl)) dX11_bit_10 ⟨Nat.le_of_ble_eq_true rfl, Nat.le_of_ble_eq_true rfl⟩) hw hA (fun r2 S1 H locs hpost hw => ?_)
    obtain ⟨hr_, hS_⟩ := hpost
    subst hr_
    subst hS_
    refine p_calli (va_runV (As := []) (rest := [.int j]) C.fix (c_X7_size l D cy S H.size cor0 cob0 0 hL_cor0 hf_cor0) (cwV 0 C.2.2.2.2.1 (gU_V mw_130 mw_131 mw_132 mw_25 sub_X7_size) rfl rfl rfl hde_X11_bit_V_1 ⟨Nat.le_of_ble_eq_true rfl, Nat.le_of_ble_eq_true rfl⟩) (p_preV C hw hL_cor0 hf_cor0 rfl) rfl rfl hl.1 rfl (lv_room (Nat.le_of_ble_eq_true rfl)) dX11_bit_13 ⟨Nat.le_of_ble_eq_true rfl, Nat.le_of_ble_eq_true rfl⟩) hw hA (fun r4 S3 H locs hpost hw => ?_)
    obtain ⟨hr_, hS_⟩ := hpost
    subst hr_
    subst hS_
    refine z_icmp_lt (tgt := 29) hx hb rfl (nI_toInt (by first | decide | omega)) dX11_bit_16 (by decide) (fun h_16 => ?_) (fun h_16 => ?_)
    · exfalso; omega
    · skip
      exact x_throw (y := yX11_bit) C hflags hw hE (kS := 21) (kT := 2) mw_733 mw_734 tIO_x rfl rfl (by decide) tIO_n tIO_g hl.1.symm dX11_bit_19 dX11_bit_22 dX11_bit_23 dX11_bit_25 dX11_bit_28 htab (Nat.le_of_ble_eq_true rfl) (Nat.le_of_ble_eq_true rfl) (Nat.le_of_ble_eq_true rfl) (Nat.le_of_ble_eq_true rfl) hlocks (⟨rfl, (by first | trivial | assumption | omega), rfl⟩) (Nat.le_of_ble_eq_true rfl) (Nat.le_of_ble_eq_true rfl)

theorem hde_X11_told_V_0 : yX4_at.cls = RX4 ∧ yX4_at.cls ≠ "java/lang/invoke/MethodHandle" ∧ yX4_at.cls ≠ "java/lang/invoke/VarHandle" ∧ (parseMethodDescriptor yX4_at.desc).map (fun d => d.parameters.length) = some 1 := by decide +kernel
theorem hde_X11_told_V_1 : yX7_size.cls = RX7 ∧ yX7_size.cls ≠ "java/lang/invoke/MethodHandle" ∧ yX7_size.cls ≠ "java/lang/invoke/VarHandle" ∧ (parseMethodDescriptor yX7_size.desc).map (fun d => d.parameters.length) = some 0 := by decide +kernel
set_option maxHeartbeats 4000000 in
set_option maxRecDepth 100000 in
theorem e_X11_told (l : Launch) (hflags : l.stackTraces = false) (D : va_G) (cy : Nat → ClassId) (ed : Nat) (S : pS) (sz : Nat) (x : Nat) (ch : Nat) (ln : Nat) (sl : Nat) (mk : Nat) (co : Nat) (ca : Nat) (su : Nat) (lt : Nat) (col : Nat) (con : Nat) (cor0 : Nat) (cor1 : Nat) (cor2 : Nat) (cor3 : Nat) (cor4 : Nat) (cob0 : Nat) (j : Int32) (w : Int32) (hL_x : x ∈ S.1) (hf_x : S.2 x = .inr (11, [.ref ch, .ref ln, .ref sl, .ref mk, .ref co, .ref ca, .ref su, .ref lt])) (hL_co : co ∈ S.1) (hf_co : S.2 co = .inr (5, [.ref col, .ref con])) (hL_col : col ∈ S.1) (hf_col : S.2 col = aQ (cy 2) 5 (va_up (va_up (va_up (va_up (va_up (fun _ => none) 0 (some cor0)) 1 (some cor1)) 2 (some cor2)) 3 (some cor3)) 4 (some cor4))) (hL_cor0 : cor0 ∈ S.1) (hf_cor0 : S.2 cor0 = .inr (8, [.ref cob0, .int (nI 0)]))  : vx_Met l yX11_told (Cond.code yX11_told cX11_told 3 (some .int) :: lwU) ({ frames := 6, cells := 1, slots := 6, locals := 82 }) (ePc D cy ed S sz [.ref x, .int j, .int w]) (pQi D cy S sz (fun r S' => (False) ∧ True ∧ S = S')) (pX D S sz (fun E S' => (E = "java/lang/IndexOutOfBoundsException" ∧ (True) ∧ S = S'))) 1 6 (pA S sz) := by
  refine vx_ofW (cc := cX11_told) (maxL := 3) (ret := (some .int)) (by decide) rfl ?_
  intro p e s m args below meth c s₁ B hml htab hv
  obtain ⟨rfl, rfl, C, hw, hA, hr, hlocks, hE⟩ := e_start B hml hv
  have hx := C.1
  have hb := C.2.1
  have hl := lv_entry ([.ref x, .int j, .int w]) (n := 3) (Nat.le_of_ble_eq_true rfl)
  rw [lg_entry_eq]
  generalize (lg_sl ([.ref x, .int j, .int w]) ++ List.replicate (3 - (lg_sl ([.ref x, .int j, .int w])).length) Slot.unset).toArray = ls at hl ⊢
  have hl : lv_has ls 3 [(0, .ref x), (1, .int j), (2, .int w)] := hl
  have hin_RX11 : ∀ w ∈ u_ws RX11 TX11 8, w ∈ (Cond.code yX11_told cX11_told 3 (some .int) :: lwU) := fun w h => mU (sub_RX11 w h)
  refine lv_iload_n hx hb dX11_told_0 rfl (lv_at hl 1 rfl) ?_
  refine z_if_lt (tgt := 19) hx hb rfl dX11_told_1 (by decide) (fun h_1 => ?_) (fun h_1 => ?_)
  · skip
    exact x_throw (y := yX11_told) C hflags hw hE (kS := 23) (kT := 2) mw_733 mw_734 tIO_x rfl rfl (by decide) tIO_n tIO_g hl.1.symm dX11_told_19 dX11_told_22 dX11_told_23 dX11_told_25 dX11_told_28 htab (Nat.le_of_ble_eq_true rfl) (Nat.le_of_ble_eq_true rfl) (Nat.le_of_ble_eq_true rfl) (Nat.le_of_ble_eq_true rfl) hlocks (⟨rfl, (by first | trivial | assumption | omega), rfl⟩) (Nat.le_of_ble_eq_true rfl) (Nat.le_of_ble_eq_true rfl)
  · skip
    refine lv_iload_n hx hb dX11_told_4 rfl (lv_at hl 1 rfl) ?_
    refine lv_aload_n hx hb dX11_told_5 rfl (lv_at hl 0 rfl) ?_
    refine p_get C hw (ci := 11) (Cn := RX11) (T := TX11) (N := 8) hL_x hf_x rfl hin_RX11 4 (by decide) (mU mw_30) rfl rfl dX11_told_6 ?_
    refine lv_iconst (v := nI 0) hx hb dX11_told_9 (by decide) ?_
    refine p_callq (va_runV (As := [.int (nI 0)]) (rest := [.int j]) C.fix (c_X4_at l D cy S s.heap.size co col con 0 cor0 (va_up (va_up (va_up (va_up (va_up (fun _ => none) 0 (some cor0)) 1 (some cor1)) 2 (some cor2)) 3 (some cor3)) 4 (some cor4)) hL_co hf_co hL_col hf_col (by first | assumption | decide | omega) (by first | assumption | rfl | simp [va_up])) (cwV 1 C.2.2.2.2.1 (gU_V mw_126 mw_127 mw_128 mw_29 sub_X4_at) rfl rfl rfl hde_X11_told_V_0 ⟨Nat.le_of_ble_eq_true rfl, Nat.le_of_ble_eq_true rfl⟩) (p_preV C hw hL_co hf_co rfl) rfl rfl hl.1 rfl (lv_room (Nat.le_of_ble_eq_true rfl)) dX11_told_10 ⟨Nat.le_of_ble_eq_true rfl, Nat.le_of_ble_eq_true rfl⟩) hw hA (fun r2 S1 H locs hpost hw => ?_)
    obtain ⟨hr_, hS_⟩ := hpost
    subst hr_
    subst hS_
    refine p_calli (va_runV (As := []) (rest := [.int j]) C.fix (c_X7_size l D cy S H.size cor0 cob0 0 hL_cor0 hf_cor0) (cwV 0 C.2.2.2.2.1 (gU_V mw_130 mw_131 mw_132 mw_25 sub_X7_size) rfl rfl rfl hde_X11_told_V_1 ⟨Nat.le_of_ble_eq_true rfl, Nat.le_of_ble_eq_true rfl⟩) (p_preV C hw hL_cor0 hf_cor0 rfl) rfl rfl hl.1 rfl (lv_room (Nat.le_of_ble_eq_true rfl)) dX11_told_13 ⟨Nat.le_of_ble_eq_true rfl, Nat.le_of_ble_eq_true rfl⟩) hw hA (fun r4 S3 H locs hpost hw => ?_)
    obtain ⟨hr_, hS_⟩ := hpost
    subst hr_
    subst hS_
    refine z_icmp_lt (tgt := 29) hx hb rfl (nI_toInt (by first | decide | omega)) dX11_told_16 (by decide) (fun h_16 => ?_) (fun h_16 => ?_)
    · exfalso; omega
    · skip
      exact x_throw (y := yX11_told) C hflags hw hE (kS := 23) (kT := 2) mw_733 mw_734 tIO_x rfl rfl (by decide) tIO_n tIO_g hl.1.symm dX11_told_19 dX11_told_22 dX11_told_23 dX11_told_25 dX11_told_28 htab (Nat.le_of_ble_eq_true rfl) (Nat.le_of_ble_eq_true rfl) (Nat.le_of_ble_eq_true rfl) (Nat.le_of_ble_eq_true rfl) hlocks (⟨rfl, (by first | trivial | assumption | omega), rfl⟩) (Nat.le_of_ble_eq_true rfl) (Nat.le_of_ble_eq_true rfl)

theorem hde_X11_errorsWith_V_0 : yX11_last.cls = RX11 ∧ yX11_last.cls ≠ "java/lang/invoke/MethodHandle" ∧ yX11_last.cls ≠ "java/lang/invoke/VarHandle" ∧ (parseMethodDescriptor yX11_last.desc).map (fun d => d.parameters.length) = some 1 := by decide +kernel
theorem hde_X11_errorsWith_V_1 : yX7_size.cls = RX7 ∧ yX7_size.cls ≠ "java/lang/invoke/MethodHandle" ∧ yX7_size.cls ≠ "java/lang/invoke/VarHandle" ∧ (parseMethodDescriptor yX7_size.desc).map (fun d => d.parameters.length) = some 0 := by decide +kernel
set_option maxHeartbeats 4000000 in
set_option maxRecDepth 100000 in
theorem e_X11_errorsWith (l : Launch) (hflags : l.stackTraces = false) (D : va_G) (cy : Nat → ClassId) (ed : Nat) (S : pS) (sz : Nat) (x : Nat) (ch : Nat) (ln : Nat) (sl : Nat) (mk : Nat) (co : Nat) (ca : Nat) (su : Nat) (lt : Nat) (lk : Nat) (col : Nat) (con : Nat) (cor0 : Nat) (cor1 : Nat) (cor2 : Nat) (cor3 : Nat) (cor4 : Nat) (cob0 : Nat) (j : Int32) (hL_x : x ∈ S.1) (hf_x : S.2 x = .inr (11, [.ref ch, .ref ln, .ref sl, .ref mk, .ref co, .ref ca, .ref su, .ref lt])) (hL_ch : ch ∈ S.1) (hf_ch : S.2 ch = .inr (2, [.ref lk, .int (nI 0)])) (hL_co : co ∈ S.1) (hf_co : S.2 co = .inr (5, [.ref col, .ref con])) (hL_col : col ∈ S.1) (hf_col : S.2 col = aQ (cy 2) 5 (va_up (va_up (va_up (va_up (va_up (fun _ => none) 0 (some cor0)) 1 (some cor1)) 2 (some cor2)) 3 (some cor3)) 4 (some cor4))) (hL_cor0 : cor0 ∈ S.1) (hf_cor0 : S.2 cor0 = .inr (8, [.ref cob0, .int (nI 0)]))  : vx_Met l yX11_errorsWith (Cond.code yX11_errorsWith cX11_errorsWith 2 (some .int) :: lwU) ({ frames := 6, cells := 1, slots := 6, locals := 82 }) (ePc D cy ed S sz [.ref x, .int j]) (pQi D cy S sz (fun r S' => (False) ∧ True ∧ S = S')) (pX D S sz (fun E S' => (E = "java/lang/IndexOutOfBoundsException" ∧ (True) ∧ S = S'))) 1 6 (pA S sz) := by
  refine vx_ofW (cc := cX11_errorsWith) (maxL := 2) (ret := (some .int)) (by decide) rfl ?_
  intro p e s m args below meth c s₁ B hml htab hv
  obtain ⟨rfl, rfl, C, hw, hA, hr, hlocks, hE⟩ := e_start B hml hv
  have hx := C.1
  have hb := C.2.1
  have hl := lv_entry ([.ref x, .int j]) (n := 2) (Nat.le_of_ble_eq_true rfl)
  rw [lg_entry_eq]
  generalize (lg_sl ([.ref x, .int j]) ++ List.replicate (2 - (lg_sl ([.ref x, .int j])).length) Slot.unset).toArray = ls at hl ⊢
  have hl : lv_has ls 2 [(0, .ref x), (1, .int j)] := hl
  have hin_RX11 : ∀ w ∈ u_ws RX11 TX11 8, w ∈ (Cond.code yX11_errorsWith cX11_errorsWith 2 (some .int) :: lwU) := fun w h => mU (sub_RX11 w h)
  refine lv_iload_n hx hb dX11_errorsWith_0 rfl (lv_at hl 1 rfl) ?_
  refine z_if_lt (tgt := 19) hx hb rfl dX11_errorsWith_1 (by decide) (fun h_1 => ?_) (fun h_1 => ?_)
  · skip
    exact x_throw (y := yX11_errorsWith) C hflags hw hE (kS := 21) (kT := 2) mw_733 mw_734 tIO_x rfl rfl (by decide) tIO_n tIO_g hl.1.symm dX11_errorsWith_19 dX11_errorsWith_22 dX11_errorsWith_23 dX11_errorsWith_25 dX11_errorsWith_28 htab (Nat.le_of_ble_eq_true rfl) (Nat.le_of_ble_eq_true rfl) (Nat.le_of_ble_eq_true rfl) (Nat.le_of_ble_eq_true rfl) hlocks (⟨rfl, (by first | trivial | assumption | omega), rfl⟩) (Nat.le_of_ble_eq_true rfl) (Nat.le_of_ble_eq_true rfl)
  · skip
    refine lv_iload_n hx hb dX11_errorsWith_4 rfl (lv_at hl 1 rfl) ?_
    refine lv_aload_n hx hb dX11_errorsWith_5 rfl (lv_at hl 0 rfl) ?_
    refine lv_aload_n hx hb dX11_errorsWith_6 rfl (lv_at hl 0 rfl) ?_
    refine p_get C hw (ci := 11) (Cn := RX11) (T := TX11) (N := 8) hL_x hf_x rfl hin_RX11 4 (by decide) (mU mw_30) rfl rfl dX11_errorsWith_7 ?_
    refine p_callq (va_runV (As := [.ref co]) (rest := [.int j]) C.fix (e_X11_last0 l D cy S s.heap.size x co ch ln sl mk co ca su lt lk col con (va_up (va_up (va_up (va_up (va_up (fun _ => none) 0 (some cor0)) 1 (some cor1)) 2 (some cor2)) 3 (some cor3)) 4 (some cor4)) cor0 hL_x hf_x hL_ch hf_ch hL_co hf_co hL_col hf_col (by first | assumption | rfl | simp [va_up])) (cwV 1 C.2.2.2.2.1 (gU_V mw_256 mw_257 mw_258 mw_2 (subU mw_259)) rfl rfl rfl hde_X11_errorsWith_V_0 ⟨Nat.le_of_ble_eq_true rfl, Nat.le_of_ble_eq_true rfl⟩) (p_preV C hw hL_x hf_x rfl) rfl rfl hl.1 rfl (lv_room (Nat.le_of_ble_eq_true rfl)) dX11_errorsWith_10 ⟨Nat.le_of_ble_eq_true rfl, Nat.le_of_ble_eq_true rfl⟩) hw hA (fun r2 S1 H locs hpost hw => ?_)
    obtain ⟨hr_, hS_⟩ := hpost
    subst hr_
    subst hS_
    refine p_calli (va_runV (As := []) (rest := [.int j]) C.fix (c_X7_size l D cy S H.size cor0 cob0 0 hL_cor0 hf_cor0) (cwV 0 C.2.2.2.2.1 (gU_V mw_130 mw_131 mw_132 mw_25 sub_X7_size) rfl rfl rfl hde_X11_errorsWith_V_1 ⟨Nat.le_of_ble_eq_true rfl, Nat.le_of_ble_eq_true rfl⟩) (p_preV C hw hL_cor0 hf_cor0 rfl) rfl rfl hl.1 rfl (lv_room (Nat.le_of_ble_eq_true rfl)) dX11_errorsWith_13 ⟨Nat.le_of_ble_eq_true rfl, Nat.le_of_ble_eq_true rfl⟩) hw hA (fun r4 S3 H locs hpost hw => ?_)
    obtain ⟨hr_, hS_⟩ := hpost
    subst hr_
    subst hS_
    refine z_icmp_lt (tgt := 29) hx hb rfl (nI_toInt (by first | decide | omega)) dX11_errorsWith_16 (by decide) (fun h_16 => ?_) (fun h_16 => ?_)
    · exfalso; omega
    · skip
      exact x_throw (y := yX11_errorsWith) C hflags hw hE (kS := 21) (kT := 2) mw_733 mw_734 tIO_x rfl rfl (by decide) tIO_n tIO_g hl.1.symm dX11_errorsWith_19 dX11_errorsWith_22 dX11_errorsWith_23 dX11_errorsWith_25 dX11_errorsWith_28 htab (Nat.le_of_ble_eq_true rfl) (Nat.le_of_ble_eq_true rfl) (Nat.le_of_ble_eq_true rfl) (Nat.le_of_ble_eq_true rfl) hlocks (⟨rfl, (by first | trivial | assumption | omega), rfl⟩) (Nat.le_of_ble_eq_true rfl) (Nat.le_of_ble_eq_true rfl)

theorem hde_X11_drop_V_0 : yX1_count.cls = RX1 ∧ yX1_count.cls ≠ "java/lang/invoke/MethodHandle" ∧ yX1_count.cls ≠ "java/lang/invoke/VarHandle" ∧ (parseMethodDescriptor yX1_count.desc).map (fun d => d.parameters.length) = some 0 := by decide +kernel
set_option maxHeartbeats 4000000 in
set_option maxRecDepth 100000 in
theorem e_X11_drop (l : Launch) (hflags : l.stackTraces = false) (D : va_G) (cy : Nat → ClassId) (ed : Nat) (S : pS) (sz : Nat) (x : Nat) (ch : Nat) (ln : Nat) (sl : Nat) (mk : Nat) (co : Nat) (ca : Nat) (su : Nat) (lt : Nat) (lk : Nat) (hL_x : x ∈ S.1) (hf_x : S.2 x = .inr (11, [.ref ch, .ref ln, .ref sl, .ref mk, .ref co, .ref ca, .ref su, .ref lt])) (hL_ch : ch ∈ S.1) (hf_ch : S.2 ch = .inr (2, [.ref lk, .int (nI 0)]))  : vx_Met l yX11_drop (Cond.code yX11_drop cX11_drop 1 (some .int) :: lwU) ({ frames := 6, cells := 1, slots := 6, locals := 82 }) (ePc D cy ed S sz [.ref x]) (pQi D cy S sz (fun r S' => (False) ∧ True ∧ S = S')) (pX D S sz (fun E S' => (E = "java/lang/IllegalStateException" ∧ (True) ∧ S = S'))) 1 6 (pA S sz) := by
  refine vx_ofW (cc := cX11_drop) (maxL := 1) (ret := (some .int)) (by decide) rfl ?_
  intro p e s m args below meth c s₁ B hml htab hv
  obtain ⟨rfl, rfl, C, hw, hA, hr, hlocks, hE⟩ := e_start B hml hv
  have hx := C.1
  have hb := C.2.1
  have hl := lv_entry ([.ref x]) (n := 1) (Nat.le_of_ble_eq_true rfl)
  rw [lg_entry_eq]
  generalize (lg_sl ([.ref x]) ++ List.replicate (1 - (lg_sl ([.ref x])).length) Slot.unset).toArray = ls at hl ⊢
  have hl : lv_has ls 1 [(0, .ref x)] := hl
  have hin_RX11 : ∀ w ∈ u_ws RX11 TX11 8, w ∈ (Cond.code yX11_drop cX11_drop 1 (some .int) :: lwU) := fun w h => mU (sub_RX11 w h)
  refine lv_aload_n hx hb dX11_drop_0 rfl (lv_at hl 0 rfl) ?_
  refine p_get C hw (ci := 11) (Cn := RX11) (T := TX11) (N := 8) hL_x hf_x rfl hin_RX11 0 (by decide) (mU mw_17) rfl rfl dX11_drop_1 ?_
  refine p_calli (va_runV (As := []) (rest := []) C.fix (c_X1_count l D cy S s.heap.size ch lk 0 hL_ch hf_ch) (cwV 0 C.2.2.2.2.1 (gU_V mw_260 mw_261 mw_262 mw_16 sub_X1_count) rfl rfl rfl hde_X11_drop_V_0 ⟨Nat.le_of_ble_eq_true rfl, Nat.le_of_ble_eq_true rfl⟩) (p_preV C hw hL_ch hf_ch rfl) rfl rfl hl.1 rfl (lv_room (Nat.le_of_ble_eq_true rfl)) dX11_drop_4 ⟨Nat.le_of_ble_eq_true rfl, Nat.le_of_ble_eq_true rfl⟩) hw hA (fun r2 S1 H locs hpost hw => ?_)
  obtain ⟨hr_, hS_⟩ := hpost
  subst hr_
  subst hS_
  refine n_if_ne (tgt := 20) hx hb (by first | decide | omega) dX11_drop_7 (by decide) (fun h_7 => ?_) (fun h_7 => ?_)
  · exact absurd h_7 (by first | decide | omega)
  · skip
    exact x_throw (y := yX11_drop) C hflags hw hE (kS := 14) (kT := 1) mw_121 mw_122 tIS_x rfl rfl (by decide) tIS_n tIS_g hl.1.symm dX11_drop_10 dX11_drop_13 dX11_drop_14 dX11_drop_16 dX11_drop_19 htab (Nat.le_of_ble_eq_true rfl) (Nat.le_of_ble_eq_true rfl) (Nat.le_of_ble_eq_true rfl) (Nat.le_of_ble_eq_true rfl) hlocks (⟨rfl, (by first | trivial | assumption | omega), rfl⟩) (Nat.le_of_ble_eq_true rfl) (Nat.le_of_ble_eq_true rfl)
