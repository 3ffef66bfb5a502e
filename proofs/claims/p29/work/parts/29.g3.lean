theorem hdg_X11_length_V_0 : yX4_at.cls = RX4 ∧ yX4_at.cls ≠ "java/lang/invoke/MethodHandle" ∧ yX4_at.cls ≠ "java/lang/invoke/VarHandle" ∧ (parseMethodDescriptor yX4_at.desc).map (fun d => d.parameters.length) = some 1 := by decide +kernel
theorem hdg_X11_length_V_1 : yX7_size.cls = RX7 ∧ yX7_size.cls ≠ "java/lang/invoke/MethodHandle" ∧ yX7_size.cls ≠ "java/lang/invoke/VarHandle" ∧ (parseMethodDescriptor yX7_size.desc).map (fun d => d.parameters.length) = some 0 := by decide +kernel
set_option maxHeartbeats 4000000 in
set_option maxRecDepth 100000 in
theorem g_X11_length (l : Launch) (D : va_G) (cy : Nat → ClassId) (S : pS) (sz : Nat) {G T : Nat → Nat} {n : Nat} {ws : Nat → WV} {l1 l2 : va_E} {V : RV} (hP : Pic cy S G T n ws l1 l2 V)  : Met l yX11_length (Cond.code yX11_length cX11_length 1 (some .int) :: lwU) ({ frames := 1, cells := 0, slots := 0, locals := 22 }) (pPc D cy S sz [.ref (G 0)]) (pQi D cy S sz (fun r S' => r = nI (V.1 0) ∧ S = S')) 0 0 (pA S sz) := by
  refine Met.ofW (cc := cX11_length) (maxL := 1) (ret := (some .int)) (by decide) rfl ?_
  intro p e s m args below meth c s₁ B hml hv
  obtain ⟨rfl, rfl, C, hw, hA, hr, hlocks⟩ := p_start B hml hv
  have hx := C.1
  have hb := C.2.1
  have hl := lv_entry ([.ref (G 0)]) (n := 1) (Nat.le_of_ble_eq_true rfl)
  rw [lg_entry_eq]
  generalize (lg_sl ([.ref (G 0)]) ++ List.replicate (1 - (lg_sl ([.ref (G 0)])).length) Slot.unset).toArray = ls at hl ⊢
  have hl : lv_has ls 1 [(0, .ref (G 0))] := hl
  have hin_RX11 : ∀ w ∈ u_ws RX11 TX11 8, w ∈ (Cond.code yX11_length cX11_length 1 (some .int) :: lwU) := fun w h => mU (sub_RX11 w h)
  have hn4 := hP.n4
  refine lv_aload_n hx hb dX11_length_0 rfl (lv_at hl 0 rfl) ?_
  refine p_get C hw (ci := 10) (Cn := RX11) (T := TX11) (N := 8) (hP.mem (k := 0) (by omega)) hP.c0 rfl hin_RX11 4 (by decide) (mU mw_26) rfl rfl dX11_length_1 ?_
  refine lv_iconst (v := nI 0) hx hb dX11_length_4 (by decide) ?_
  obtain ⟨rq1, erq1, frq1⟩ := hP.leq (L := 0) (by omega)
  refine p_callq (va_runV (As := [.int (nI 0)]) (rest := []) C.fix (c_X4_at l D cy S s.heap.size (G 9) (G (12 + 0)) (G (15 + 0)) 0 (G (21 + 0)) rq1 (hP.mem (by omega)) (hP.lev (L := 0) (by omega)) (hP.mem (by omega)) erq1 (by omega) (frq1 0 (by omega))) (cwV 1 C.2.2.2.2.1 (gU_V mw_111 mw_112 mw_113 mw_25 sub_X4_at) rfl rfl rfl hdg_X11_length_V_0 ⟨Nat.le_of_ble_eq_true rfl, Nat.le_of_ble_eq_true rfl⟩) (p_preV C hw (hP.mem (k := 9 + 0) (by omega)) (hP.lev (L := 0) (by omega)) rfl) rfl rfl hl.1 rfl (lv_room (Nat.le_of_ble_eq_true rfl)) dX11_length_5 ⟨(Nat.le_of_ble_eq_true rfl), (Nat.le_of_ble_eq_true rfl)⟩) hw hA (fun r3 S2 H locs hpost hw => ?_)
  obtain ⟨hr_, hS_⟩ := hpost
  subst hr_
  subst hS_
  refine p_calli (va_runV (As := []) (rest := []) C.fix (c_X7_size l D cy S H.size (G (21 + 0)) (G (37 + 0)) (V.1 0) (hP.mem (by omega)) (hP.rh (r := 0) (by omega))) (cwV 0 C.2.2.2.2.1 (gU_V mw_115 mw_116 mw_117 mw_21 sub_X7_size) rfl rfl rfl hdg_X11_length_V_1 ⟨Nat.le_of_ble_eq_true rfl, Nat.le_of_ble_eq_true rfl⟩) (p_preV C hw (hP.mem (k := 21 + 0) (by omega)) (hP.rh (r := 0) (by omega)) rfl) rfl rfl hl.1 rfl (lv_room (Nat.le_of_ble_eq_true rfl)) dX11_length_8 ⟨(Nat.le_of_ble_eq_true rfl), (Nat.le_of_ble_eq_true rfl)⟩) hw hA (fun r7 S6 H locs hpost hw => ?_)
  obtain ⟨hr_, hS_⟩ := hpost
  subst hr_
  subst hS_
  exact (p_iret C hw ⟨rfl, rfl⟩ hr hlocks dX11_length_11)

theorem hdg_X11_stages_V_0 : yX1_count.cls = RX1 ∧ yX1_count.cls ≠ "java/lang/invoke/MethodHandle" ∧ yX1_count.cls ≠ "java/lang/invoke/VarHandle" ∧ (parseMethodDescriptor yX1_count.desc).map (fun d => d.parameters.length) = some 0 := by decide +kernel
set_option maxHeartbeats 4000000 in
set_option maxRecDepth 100000 in
theorem g_X11_stages (l : Launch) (D : va_G) (cy : Nat → ClassId) (S : pS) (sz : Nat) {G T : Nat → Nat} {n : Nat} {ws : Nat → WV} {l1 l2 : va_E} {V : RV} (hP : Pic cy S G T n ws l1 l2 V)  : Met l yX11_stages (Cond.code yX11_stages cX11_stages 1 (some .int) :: lwU) ({ frames := 1, cells := 0, slots := 0, locals := 20 }) (pPc D cy S sz [.ref (G 0)]) (pQi D cy S sz (fun r S' => r = nI n ∧ S = S')) 0 0 (pA S sz) := by
  refine Met.ofW (cc := cX11_stages) (maxL := 1) (ret := (some .int)) (by decide) rfl ?_
  intro p e s m args below meth c s₁ B hml hv
  obtain ⟨rfl, rfl, C, hw, hA, hr, hlocks⟩ := p_start B hml hv
  have hx := C.1
  have hb := C.2.1
  have hl := lv_entry ([.ref (G 0)]) (n := 1) (Nat.le_of_ble_eq_true rfl)
  rw [lg_entry_eq]
  generalize (lg_sl ([.ref (G 0)]) ++ List.replicate (1 - (lg_sl ([.ref (G 0)])).length) Slot.unset).toArray = ls at hl ⊢
  have hl : lv_has ls 1 [(0, .ref (G 0))] := hl
  have hin_RX11 : ∀ w ∈ u_ws RX11 TX11 8, w ∈ (Cond.code yX11_stages cX11_stages 1 (some .int) :: lwU) := fun w h => mU (sub_RX11 w h)
  have hn4 := hP.n4
  refine lv_aload_n hx hb dX11_stages_0 rfl (lv_at hl 0 rfl) ?_
  refine p_get C hw (ci := 10) (Cn := RX11) (T := TX11) (N := 8) (hP.mem (k := 0) (by omega)) hP.c0 rfl hin_RX11 0 (by decide) (mU mw_13) rfl rfl dX11_stages_1 ?_
  refine p_calli (va_runV (As := []) (rest := []) C.fix (c_X1_count l D cy S s.heap.size (G 1) (G 2) n (hP.mem (by omega)) hP.c1) (cwV 0 C.2.2.2.2.1 (gU_V mw_245 mw_246 mw_247 mw_12 sub_X1_count) rfl rfl rfl hdg_X11_stages_V_0 ⟨Nat.le_of_ble_eq_true rfl, Nat.le_of_ble_eq_true rfl⟩) (p_preV C hw (hP.mem (k := 1) (by omega)) hP.c1 rfl) rfl rfl hl.1 rfl (lv_room (Nat.le_of_ble_eq_true rfl)) dX11_stages_4 ⟨(Nat.le_of_ble_eq_true rfl), (Nat.le_of_ble_eq_true rfl)⟩) hw hA (fun r2 S1 H locs hpost hw => ?_)
  obtain ⟨hr_, hS_⟩ := hpost
  subst hr_
  subst hS_
  exact (p_iret C hw ⟨rfl, rfl⟩ hr hlocks dX11_stages_7)

theorem hdg_X11_sent_V_0 : yX11_last.cls = RX11 ∧ yX11_last.cls ≠ "java/lang/invoke/MethodHandle" ∧ yX11_last.cls ≠ "java/lang/invoke/VarHandle" ∧ (parseMethodDescriptor yX11_last.desc).map (fun d => d.parameters.length) = some 1 := by decide +kernel
theorem hdg_X11_sent_V_1 : yX7_size.cls = RX7 ∧ yX7_size.cls ≠ "java/lang/invoke/MethodHandle" ∧ yX7_size.cls ≠ "java/lang/invoke/VarHandle" ∧ (parseMethodDescriptor yX7_size.desc).map (fun d => d.parameters.length) = some 0 := by decide +kernel
set_option maxHeartbeats 4000000 in
set_option maxRecDepth 100000 in
theorem g_X11_sent (l : Launch) (D : va_G) (cy : Nat → ClassId) (S : pS) (sz : Nat) {G T : Nat → Nat} {n : Nat} {ws : Nat → WV} {l1 l2 : va_E} {V : RV} (hP : Pic cy S G T n ws l1 l2 V)  : Met l yX11_sent (Cond.code yX11_sent cX11_sent 1 (some .int) :: lwU) ({ frames := 2, cells := 0, slots := 0, locals := 43 }) (pPc D cy S sz [.ref (G 0)]) (pQi D cy S sz (fun r S' => r = nI (V.1 n) ∧ S = S')) 0 0 (pA S sz) := by
  refine Met.ofW (cc := cX11_sent) (maxL := 1) (ret := (some .int)) (by decide) rfl ?_
  intro p e s m args below meth c s₁ B hml hv
  obtain ⟨rfl, rfl, C, hw, hA, hr, hlocks⟩ := p_start B hml hv
  have hx := C.1
  have hb := C.2.1
  have hl := lv_entry ([.ref (G 0)]) (n := 1) (Nat.le_of_ble_eq_true rfl)
  rw [lg_entry_eq]
  generalize (lg_sl ([.ref (G 0)]) ++ List.replicate (1 - (lg_sl ([.ref (G 0)])).length) Slot.unset).toArray = ls at hl ⊢
  have hl : lv_has ls 1 [(0, .ref (G 0))] := hl
  have hin_RX11 : ∀ w ∈ u_ws RX11 TX11 8, w ∈ (Cond.code yX11_sent cX11_sent 1 (some .int) :: lwU) := fun w h => mU (sub_RX11 w h)
  have hn4 := hP.n4
  refine lv_aload_n hx hb dX11_sent_0 rfl (lv_at hl 0 rfl) ?_
  refine lv_aload_n hx hb dX11_sent_1 rfl (lv_at hl 0 rfl) ?_
  refine p_get C hw (ci := 10) (Cn := RX11) (T := TX11) (N := 8) (hP.mem (k := 0) (by omega)) hP.c0 rfl hin_RX11 4 (by decide) (mU mw_26) rfl rfl dX11_sent_2 ?_
  refine p_callq (va_runV (As := [.ref (G 9)]) (rest := []) C.fix (g_X11_last0 l D cy S s.heap.size hP) (cwV 1 C.2.2.2.2.1 (gU_V mw_241 mw_242 mw_243 mw_2 (subU mw_244)) rfl rfl rfl hdg_X11_sent_V_0 ⟨Nat.le_of_ble_eq_true rfl, Nat.le_of_ble_eq_true rfl⟩) (p_preV C hw (hP.mem (k := 0) (by omega)) hP.c0 rfl) rfl rfl hl.1 rfl (lv_room (Nat.le_of_ble_eq_true rfl)) dX11_sent_5 ⟨(Nat.le_of_ble_eq_true rfl), (Nat.le_of_ble_eq_true rfl)⟩) hw hA (fun r2 S1 H locs hpost hw => ?_)
  obtain ⟨hr_, hS_⟩ := hpost
  subst hr_
  subst hS_
  refine p_calli (va_runV (As := []) (rest := []) C.fix (c_X7_size l D cy S H.size (G (21 + n)) (G (37 + n)) (V.1 n) (hP.mem (by omega)) (hP.rh (r := n) (by omega))) (cwV 0 C.2.2.2.2.1 (gU_V mw_115 mw_116 mw_117 mw_21 sub_X7_size) rfl rfl rfl hdg_X11_sent_V_1 ⟨Nat.le_of_ble_eq_true rfl, Nat.le_of_ble_eq_true rfl⟩) (p_preV C hw (hP.mem (k := 21 + n) (by omega)) (hP.rh (r := n) (by omega)) rfl) rfl rfl hl.1 rfl (lv_room (Nat.le_of_ble_eq_true rfl)) dX11_sent_8 ⟨(Nat.le_of_ble_eq_true rfl), (Nat.le_of_ble_eq_true rfl)⟩) hw hA (fun r6 S5 H locs hpost hw => ?_)
  obtain ⟨hr_, hS_⟩ := hpost
  subst hr_
  subst hS_
  exact (p_iret C hw ⟨rfl, rfl⟩ hr hlocks dX11_sent_11)

theorem hdg_X11_hurt_V_0 : yX11_last.cls = RX11 ∧ yX11_last.cls ≠ "java/lang/invoke/MethodHandle" ∧ yX11_last.cls ≠ "java/lang/invoke/VarHandle" ∧ (parseMethodDescriptor yX11_last.desc).map (fun d => d.parameters.length) = some 1 := by decide +kernel
theorem hdg_X11_hurt_V_1 : yX7_unlike.cls = RX7 ∧ yX7_unlike.cls ≠ "java/lang/invoke/MethodHandle" ∧ yX7_unlike.cls ≠ "java/lang/invoke/VarHandle" ∧ (parseMethodDescriptor yX7_unlike.desc).map (fun d => d.parameters.length) = some 1 := by decide +kernel
set_option maxHeartbeats 4000000 in
set_option maxRecDepth 100000 in
theorem g_X11_hurt (l : Launch) (D : va_G) (cy : Nat → ClassId) (S : pS) (sz : Nat) {G T : Nat → Nat} {n : Nat} {ws : Nat → WV} {l1 l2 : va_E} {V : RV} (hP : Pic cy S G T n ws l1 l2 V)  : Met l yX11_hurt (Cond.code yX11_hurt cX11_hurt 1 (some .int) :: lwU) ({ frames := 2, cells := 0, slots := 0, locals := 44 }) (pPc D cy S sz [.ref (G 0)]) (pQi D cy S sz (fun r S' => r = nI (hurtN n V) ∧ S = S')) 0 0 (pA S sz) := by
  refine Met.ofW (cc := cX11_hurt) (maxL := 1) (ret := (some .int)) (by decide) rfl ?_
  intro p e s m args below meth c s₁ B hml hv
  obtain ⟨rfl, rfl, C, hw, hA, hr, hlocks⟩ := p_start B hml hv
  have hx := C.1
  have hb := C.2.1
  have hl := lv_entry ([.ref (G 0)]) (n := 1) (Nat.le_of_ble_eq_true rfl)
  rw [lg_entry_eq]
  generalize (lg_sl ([.ref (G 0)]) ++ List.replicate (1 - (lg_sl ([.ref (G 0)])).length) Slot.unset).toArray = ls at hl ⊢
  have hl : lv_has ls 1 [(0, .ref (G 0))] := hl
  have hin_RX11 : ∀ w ∈ u_ws RX11 TX11 8, w ∈ (Cond.code yX11_hurt cX11_hurt 1 (some .int) :: lwU) := fun w h => mU (sub_RX11 w h)
  have hn4 := hP.n4
  refine lv_aload_n hx hb dX11_hurt_0 rfl (lv_at hl 0 rfl) ?_
  refine lv_aload_n hx hb dX11_hurt_1 rfl (lv_at hl 0 rfl) ?_
  refine p_get C hw (ci := 10) (Cn := RX11) (T := TX11) (N := 8) (hP.mem (k := 0) (by omega)) hP.c0 rfl hin_RX11 4 (by decide) (mU mw_26) rfl rfl dX11_hurt_2 ?_
  refine p_callq (va_runV (As := [.ref (G 9)]) (rest := []) C.fix (g_X11_last0 l D cy S s.heap.size hP) (cwV 1 C.2.2.2.2.1 (gU_V mw_241 mw_242 mw_243 mw_2 (subU mw_244)) rfl rfl rfl hdg_X11_hurt_V_0 ⟨Nat.le_of_ble_eq_true rfl, Nat.le_of_ble_eq_true rfl⟩) (p_preV C hw (hP.mem (k := 0) (by omega)) hP.c0 rfl) rfl rfl hl.1 rfl (lv_room (Nat.le_of_ble_eq_true rfl)) dX11_hurt_5 ⟨(Nat.le_of_ble_eq_true rfl), (Nat.le_of_ble_eq_true rfl)⟩) hw hA (fun r2 S1 H locs hpost hw => ?_)
  obtain ⟨hr_, hS_⟩ := hpost
  subst hr_
  subst hS_
  refine lv_aload_n hx hb dX11_hurt_8 rfl (lv_at hl 0 rfl) ?_
  refine lv_aload_n hx hb dX11_hurt_9 rfl (lv_at hl 0 rfl) ?_
  refine p_get C hw (ci := 10) (Cn := RX11) (T := TX11) (N := 8) (hP.mem (k := 0) (by omega)) hP.c0 rfl hin_RX11 5 (by decide) (mU mw_27) rfl rfl dX11_hurt_10 ?_
  refine p_callq (va_runV (As := [.ref (G 10)]) (rest := [.ref (G (21 + n))]) C.fix (g_X11_last1 l D cy S H.size hP) (cwV 1 C.2.2.2.2.1 (gU_V mw_241 mw_242 mw_243 mw_2 (subU mw_244)) rfl rfl rfl hdg_X11_hurt_V_0 ⟨Nat.le_of_ble_eq_true rfl, Nat.le_of_ble_eq_true rfl⟩) (p_preV C hw (hP.mem (k := 0) (by omega)) hP.c0 rfl) rfl rfl hl.1 rfl (lv_room (Nat.le_of_ble_eq_true rfl)) dX11_hurt_13 ⟨(Nat.le_of_ble_eq_true rfl), (Nat.le_of_ble_eq_true rfl)⟩) hw hA (fun r6 S5 H locs hpost hw => ?_)
  obtain ⟨hr_, hS_⟩ := hpost
  subst hr_
  subst hS_
  refine p_calli (va_runV (As := [.ref (G (21 + (n + 5)))]) (rest := []) C.fix (c_X7_unlike l D cy S H.size (G (21 + n)) (G (37 + n)) (gcap n) (V.1 n) (G (21 + (n + 5))) (G (37 + (n + 5))) (gcap (n + 5)) (V.1 (n + 5)) (V.2 n) (V.2 (n + 5)) (hP.mem (by omega)) (hP.rh (r := n) (by omega)) (hP.mem (by omega)) (hP.rb (r := n) (by omega)) (hP.mem (by omega)) (hP.rh (r := (n + 5)) (by omega)) (hP.mem (by omega)) (hP.rb (r := (n + 5)) (by omega)) (gcap_27 _) (hP.rn (by omega)) (hP.rg2 (by omega)) (gcap_27 _) (hP.rn (by omega)) (hP.rg2 (by omega))) (cwV 1 C.2.2.2.2.1 (gU_V mw_514 mw_515 mw_516 mw_21 sub_X7_unlike) rfl rfl rfl hdg_X11_hurt_V_1 ⟨Nat.le_of_ble_eq_true rfl, Nat.le_of_ble_eq_true rfl⟩) (p_preV C hw (hP.mem (k := 21 + n) (by omega)) (hP.rh (r := n) (by omega)) rfl) rfl rfl hl.1 rfl (lv_room (Nat.le_of_ble_eq_true rfl)) dX11_hurt_16 ⟨(Nat.le_of_ble_eq_true rfl), (Nat.le_of_ble_eq_true rfl)⟩) hw hA (fun r10 S9 H locs hpost hw => ?_)
  obtain ⟨hr_, hS_⟩ := hpost
  subst hr_
  subst hS_
  exact (p_iret C hw ⟨rfl, rfl⟩ hr hlocks dX11_hurt_19)

theorem hdg_X11_errors_V_0 : yX11_errorsIn.cls = RX11 ∧ yX11_errorsIn.cls ≠ "java/lang/invoke/MethodHandle" ∧ yX11_errorsIn.cls ≠ "java/lang/invoke/VarHandle" ∧ (parseMethodDescriptor yX11_errorsIn.desc).map (fun d => d.parameters.length) = some 1 := by decide +kernel
set_option maxHeartbeats 4000000 in
set_option maxRecDepth 100000 in
theorem g_X11_errors (l : Launch) (D : va_G) (cy : Nat → ClassId) (S : pS) (sz : Nat) {G T : Nat → Nat} {n : Nat} {ws : Nat → WV} {l1 l2 : va_E} {V : RV} (hP : Pic cy S G T n ws l1 l2 V)  : Met l yX11_errors (Cond.code yX11_errors cX11_errors 1 (some .int) :: lwU) ({ frames := 3, cells := 0, slots := 0, locals := 65 }) (pPc D cy S sz [.ref (G 0)]) (pQi D cy S sz (fun r S' => r = nI (errN V) ∧ S = S')) 0 0 (pA S sz) := by
  refine Met.ofW (cc := cX11_errors) (maxL := 1) (ret := (some .int)) (by decide) rfl ?_
  intro p e s m args below meth c s₁ B hml hv
  obtain ⟨rfl, rfl, C, hw, hA, hr, hlocks⟩ := p_start B hml hv
  have hx := C.1
  have hb := C.2.1
  have hl := lv_entry ([.ref (G 0)]) (n := 1) (Nat.le_of_ble_eq_true rfl)
  rw [lg_entry_eq]
  generalize (lg_sl ([.ref (G 0)]) ++ List.replicate (1 - (lg_sl ([.ref (G 0)])).length) Slot.unset).toArray = ls at hl ⊢
  have hl : lv_has ls 1 [(0, .ref (G 0))] := hl
  have hin_RX11 : ∀ w ∈ u_ws RX11 TX11 8, w ∈ (Cond.code yX11_errors cX11_errors 1 (some .int) :: lwU) := fun w h => mU (sub_RX11 w h)
  have hn4 := hP.n4
  refine lv_aload_n hx hb dX11_errors_0 rfl (lv_at hl 0 rfl) ?_
  refine lv_aload_n hx hb dX11_errors_1 rfl (lv_at hl 0 rfl) ?_
  refine p_get C hw (ci := 10) (Cn := RX11) (T := TX11) (N := 8) (hP.mem (k := 0) (by omega)) hP.c0 rfl hin_RX11 5 (by decide) (mU mw_27) rfl rfl dX11_errors_2 ?_
  refine p_calli (va_runV (As := [.ref (G 10)]) (rest := []) C.fix (g_X11_errorsIn1 l D cy S s.heap.size hP) (cwV 1 C.2.2.2.2.1 (gU_V mw_522 mw_523 mw_524 mw_2 (subU mw_525)) rfl rfl rfl hdg_X11_errors_V_0 ⟨Nat.le_of_ble_eq_true rfl, Nat.le_of_ble_eq_true rfl⟩) (p_preV C hw (hP.mem (k := 0) (by omega)) hP.c0 rfl) rfl rfl hl.1 rfl (lv_room (Nat.le_of_ble_eq_true rfl)) dX11_errors_5 ⟨(Nat.le_of_ble_eq_true rfl), (Nat.le_of_ble_eq_true rfl)⟩) hw hA (fun r2 S1 H locs hpost hw => ?_)
  obtain ⟨hr_, hS_⟩ := hpost
  subst hr_
  subst hS_
  exact (p_iret C hw ⟨rfl, rfl⟩ hr hlocks dX11_errors_8)

theorem hdg_X11_bit0_V_0 : yX11_last.cls = RX11 ∧ yX11_last.cls ≠ "java/lang/invoke/MethodHandle" ∧ yX11_last.cls ≠ "java/lang/invoke/VarHandle" ∧ (parseMethodDescriptor yX11_last.desc).map (fun d => d.parameters.length) = some 1 := by decide +kernel
theorem hdg_X11_bit0_V_1 : yX7_size.cls = RX7 ∧ yX7_size.cls ≠ "java/lang/invoke/MethodHandle" ∧ yX7_size.cls ≠ "java/lang/invoke/VarHandle" ∧ (parseMethodDescriptor yX7_size.desc).map (fun d => d.parameters.length) = some 0 := by decide +kernel
theorem hdg_X11_bit0_V_2 : yX7_get.cls = RX7 ∧ yX7_get.cls ≠ "java/lang/invoke/MethodHandle" ∧ yX7_get.cls ≠ "java/lang/invoke/VarHandle" ∧ (parseMethodDescriptor yX7_get.desc).map (fun d => d.parameters.length) = some 1 := by decide +kernel
set_option maxHeartbeats 4000000 in
set_option maxRecDepth 100000 in
theorem g_X11_bit0 (l : Launch) (D : va_G) (cy : Nat → ClassId) (S : pS) (sz : Nat) {G T : Nat → Nat} {n : Nat} {ws : Nat → WV} {l1 l2 : va_E} {V : RV} (hP : Pic cy S G T n ws l1 l2 V) (pp : Nat) (hp : pp < V.1 n) : Met l yX11_bit (Cond.code yX11_bit cX11_bit 3 (some .int) :: lwU) ({ frames := 2, cells := 0, slots := 0, locals := 43 }) (pPc D cy S sz [.ref (G 0), .int (nI pp), .int (nI 0)]) (pQi D cy S sz (fun r S' => r = nI (rg (V.2 (n)) (V.1 (n)) pp) ∧ S = S')) 0 0 (pA S sz) := by
  refine Met.ofW (cc := cX11_bit) (maxL := 3) (ret := (some .int)) (by decide) rfl ?_
  intro p e s m args below meth c s₁ B hml hv
  obtain ⟨rfl, rfl, C, hw, hA, hr, hlocks⟩ := p_start B hml hv
  have hx := C.1
  have hb := C.2.1
  have hl := lv_entry ([.ref (G 0), .int (nI pp), .int (nI 0)]) (n := 3) (Nat.le_of_ble_eq_true rfl)
  rw [lg_entry_eq]
  generalize (lg_sl ([.ref (G 0), .int (nI pp), .int (nI 0)]) ++ List.replicate (3 - (lg_sl ([.ref (G 0), .int (nI pp), .int (nI 0)])).length) Slot.unset).toArray = ls at hl ⊢
  have hl : lv_has ls 3 [(0, .ref (G 0)), (1, .int (nI pp)), (2, .int (nI 0))] := hl
  have hin_RX11 : ∀ w ∈ u_ws RX11 TX11 8, w ∈ (Cond.code yX11_bit cX11_bit 3 (some .int) :: lwU) := fun w h => mU (sub_RX11 w h)
  have hn4 := hP.n4
  have h320 := hP.r320 (r := n) (by omega)
  refine lv_iload_n hx hb dX11_bit_0 rfl (lv_at hl 1 rfl) ?_
  refine n_if_lt (tgt := 19) hx hb (by omega) dX11_bit_1 (by decide) ?_
  refine lv_iload_n hx hb dX11_bit_4 rfl (lv_at hl 1 rfl) ?_
  refine lv_aload_n hx hb dX11_bit_5 rfl (lv_at hl 0 rfl) ?_
  refine lv_aload_n hx hb dX11_bit_6 rfl (lv_at hl 0 rfl) ?_
  refine p_get C hw (ci := 10) (Cn := RX11) (T := TX11) (N := 8) (hP.mem (k := 0) (by omega)) hP.c0 rfl hin_RX11 4 (by decide) (mU mw_26) rfl rfl dX11_bit_7 ?_
  refine p_callq (va_runV (As := [.ref (G 9)]) (rest := [.int (nI pp)]) C.fix (g_X11_last0 l D cy S s.heap.size hP) (cwV 1 C.2.2.2.2.1 (gU_V mw_241 mw_242 mw_243 mw_2 (subU mw_244)) rfl rfl rfl hdg_X11_bit0_V_0 ⟨Nat.le_of_ble_eq_true rfl, Nat.le_of_ble_eq_true rfl⟩) (p_preV C hw (hP.mem (k := 0) (by omega)) hP.c0 rfl) rfl rfl hl.1 rfl (lv_room (Nat.le_of_ble_eq_true rfl)) dX11_bit_10 ⟨(Nat.le_of_ble_eq_true rfl), (Nat.le_of_ble_eq_true rfl)⟩) hw hA (fun r2 S1 H locs hpost hw => ?_)
  obtain ⟨hr_, hS_⟩ := hpost
  subst hr_
  subst hS_
  refine p_calli (va_runV (As := []) (rest := [.int (nI pp)]) C.fix (c_X7_size l D cy S H.size (G (21 + n)) (G (37 + n)) (V.1 n) (hP.mem (by omega)) (hP.rh (r := n) (by omega))) (cwV 0 C.2.2.2.2.1 (gU_V mw_115 mw_116 mw_117 mw_21 sub_X7_size) rfl rfl rfl hdg_X11_bit0_V_1 ⟨Nat.le_of_ble_eq_true rfl, Nat.le_of_ble_eq_true rfl⟩) (p_preV C hw (hP.mem (k := 21 + n) (by omega)) (hP.rh (r := n) (by omega)) rfl) rfl rfl hl.1 rfl (lv_room (Nat.le_of_ble_eq_true rfl)) dX11_bit_13 ⟨(Nat.le_of_ble_eq_true rfl), (Nat.le_of_ble_eq_true rfl)⟩) hw hA (fun r6 S5 H locs hpost hw => ?_)
  obtain ⟨hr_, hS_⟩ := hpost
  subst hr_
  subst hS_
  refine n_icmp_lt (tgt := 29) hx hb (by omega) (by omega) dX11_bit_16 (by decide) (fun h_16 => ?_) (fun h_16 => ?_)
  · skip
    refine lv_iload_n hx hb dX11_bit_29 rfl (lv_at hl 2 rfl) ?_
    refine n_if_eq (tgt := 48) hx hb (by first | decide | omega) dX11_bit_30 (by decide) (fun h_30 => ?_) (fun h_30 => ?_)
    · skip
      refine lv_iload_n hx hb dX11_bit_48 rfl (lv_at hl 2 rfl) ?_
      refine n_if_ne (tgt := 67) hx hb (by first | decide | omega) dX11_bit_49 (by decide) (fun h_49 => ?_) (fun h_49 => ?_)
      · exact absurd h_49 (by first | decide | omega)
      · skip
        refine lv_aload_n hx hb dX11_bit_52 rfl (lv_at hl 0 rfl) ?_
        refine lv_aload_n hx hb dX11_bit_53 rfl (lv_at hl 0 rfl) ?_
        refine p_get C hw (ci := 10) (Cn := RX11) (T := TX11) (N := 8) (hP.mem (k := 0) (by omega)) hP.c0 rfl hin_RX11 4 (by decide) (mU mw_26) rfl rfl dX11_bit_54 ?_
        refine p_callq (va_runV (As := [.ref (G 9)]) (rest := []) C.fix (g_X11_last0 l D cy S H.size hP) (cwV 1 C.2.2.2.2.1 (gU_V mw_241 mw_242 mw_243 mw_2 (subU mw_244)) rfl rfl rfl hdg_X11_bit0_V_0 ⟨Nat.le_of_ble_eq_true rfl, Nat.le_of_ble_eq_true rfl⟩) (p_preV C hw (hP.mem (k := 0) (by omega)) hP.c0 rfl) rfl rfl hl.1 rfl (lv_room (Nat.le_of_ble_eq_true rfl)) dX11_bit_57 ⟨(Nat.le_of_ble_eq_true rfl), (Nat.le_of_ble_eq_true rfl)⟩) hw hA (fun r10 S9 H locs hpost hw => ?_)
        obtain ⟨hr_, hS_⟩ := hpost
        subst hr_
        subst hS_
        refine lv_iload_n hx hb dX11_bit_60 rfl (lv_at hl 1 rfl) ?_
        refine p_calli (va_runV (As := [.int (nI pp)]) (rest := []) C.fix (c_X7_get l D cy S H.size (G (21 + n)) (G (37 + n)) (gcap n) (V.1 n) pp (V.2 n) (hP.mem (by omega)) (hP.rh (r := n) (by omega)) (hP.mem (by omega)) (hP.rb (r := n) (by omega)) (gcap_27 _) (hP.rn (by omega)) (by omega)) (cwV 1 C.2.2.2.2.1 (gU_V mw_593 mw_195 mw_196 mw_21 sub_X7_get) rfl rfl rfl hdg_X11_bit0_V_2 ⟨Nat.le_of_ble_eq_true rfl, Nat.le_of_ble_eq_true rfl⟩) (p_preV C hw (hP.mem (k := 21 + n) (by omega)) (hP.rh (r := n) (by omega)) rfl) rfl rfl hl.1 rfl (lv_room (Nat.le_of_ble_eq_true rfl)) dX11_bit_61 ⟨(Nat.le_of_ble_eq_true rfl), (Nat.le_of_ble_eq_true rfl)⟩) hw hA (fun r14 S13 H locs hpost hw => ?_)
        obtain ⟨hr_, hS_⟩ := hpost
        subst hr_
        subst hS_
        refine lv_goto (tgt := 79) hx hb dX11_bit_64 (by decide) ?_
        exact (p_iret C hw ⟨rfl, rfl⟩ hr hlocks dX11_bit_79)
    · exact absurd h_30 (by first | decide | omega)
  · exact absurd h_16 (by first | decide | omega)

theorem hdg_X11_told0_V_0 : yX4_at.cls = RX4 ∧ yX4_at.cls ≠ "java/lang/invoke/MethodHandle" ∧ yX4_at.cls ≠ "java/lang/invoke/VarHandle" ∧ (parseMethodDescriptor yX4_at.desc).map (fun d => d.parameters.length) = some 1 := by decide +kernel
theorem hdg_X11_told0_V_1 : yX7_size.cls = RX7 ∧ yX7_size.cls ≠ "java/lang/invoke/MethodHandle" ∧ yX7_size.cls ≠ "java/lang/invoke/VarHandle" ∧ (parseMethodDescriptor yX7_size.desc).map (fun d => d.parameters.length) = some 0 := by decide +kernel
theorem hdg_X11_told0_V_2 : yX7_get.cls = RX7 ∧ yX7_get.cls ≠ "java/lang/invoke/MethodHandle" ∧ yX7_get.cls ≠ "java/lang/invoke/VarHandle" ∧ (parseMethodDescriptor yX7_get.desc).map (fun d => d.parameters.length) = some 1 := by decide +kernel
set_option maxHeartbeats 4000000 in
set_option maxRecDepth 100000 in
theorem g_X11_told0 (l : Launch) (D : va_G) (cy : Nat → ClassId) (S : pS) (sz : Nat) {G T : Nat → Nat} {n : Nat} {ws : Nat → WV} {l1 l2 : va_E} {V : RV} (hP : Pic cy S G T n ws l1 l2 V) (pp : Nat) (hp : pp < V.1 0) : Met l yX11_told (Cond.code yX11_told cX11_told 3 (some .int) :: lwU) ({ frames := 1, cells := 0, slots := 0, locals := 22 }) (pPc D cy S sz [.ref (G 0), .int (nI pp), .int (nI 0)]) (pQi D cy S sz (fun r S' => r = nI (rg (V.2 0) (V.1 0) pp) ∧ S = S')) 0 0 (pA S sz) := by
  refine Met.ofW (cc := cX11_told) (maxL := 3) (ret := (some .int)) (by decide) rfl ?_
  intro p e s m args below meth c s₁ B hml hv
  obtain ⟨rfl, rfl, C, hw, hA, hr, hlocks⟩ := p_start B hml hv
  have hx := C.1
  have hb := C.2.1
  have hl := lv_entry ([.ref (G 0), .int (nI pp), .int (nI 0)]) (n := 3) (Nat.le_of_ble_eq_true rfl)
  rw [lg_entry_eq]
  generalize (lg_sl ([.ref (G 0), .int (nI pp), .int (nI 0)]) ++ List.replicate (3 - (lg_sl ([.ref (G 0), .int (nI pp), .int (nI 0)])).length) Slot.unset).toArray = ls at hl ⊢
  have hl : lv_has ls 3 [(0, .ref (G 0)), (1, .int (nI pp)), (2, .int (nI 0))] := hl
  have hin_RX11 : ∀ w ∈ u_ws RX11 TX11 8, w ∈ (Cond.code yX11_told cX11_told 3 (some .int) :: lwU) := fun w h => mU (sub_RX11 w h)
  have hn4 := hP.n4
  have h320 := hP.r320 (r := 0) (by omega)
  refine lv_iload_n hx hb dX11_told_0 rfl (lv_at hl 1 rfl) ?_
  refine n_if_lt (tgt := 19) hx hb (by omega) dX11_told_1 (by decide) ?_
  refine lv_iload_n hx hb dX11_told_4 rfl (lv_at hl 1 rfl) ?_
  refine lv_aload_n hx hb dX11_told_5 rfl (lv_at hl 0 rfl) ?_
  refine p_get C hw (ci := 10) (Cn := RX11) (T := TX11) (N := 8) (hP.mem (k := 0) (by omega)) hP.c0 rfl hin_RX11 4 (by decide) (mU mw_26) rfl rfl dX11_told_6 ?_
  refine lv_iconst (v := nI 0) hx hb dX11_told_9 (by decide) ?_
  obtain ⟨rq1, erq1, frq1⟩ := hP.leq (L := 0) (by omega)
  refine p_callq (va_runV (As := [.int (nI 0)]) (rest := [.int (nI pp)]) C.fix (c_X4_at l D cy S s.heap.size (G 9) (G (12 + 0)) (G (15 + 0)) 0 (G (21 + 0)) rq1 (hP.mem (by omega)) (hP.lev (L := 0) (by omega)) (hP.mem (by omega)) erq1 (by omega) (frq1 0 (by omega))) (cwV 1 C.2.2.2.2.1 (gU_V mw_111 mw_112 mw_113 mw_25 sub_X4_at) rfl rfl rfl hdg_X11_told0_V_0 ⟨Nat.le_of_ble_eq_true rfl, Nat.le_of_ble_eq_true rfl⟩) (p_preV C hw (hP.mem (k := 9 + 0) (by omega)) (hP.lev (L := 0) (by omega)) rfl) rfl rfl hl.1 rfl (lv_room (Nat.le_of_ble_eq_true rfl)) dX11_told_10 ⟨(Nat.le_of_ble_eq_true rfl), (Nat.le_of_ble_eq_true rfl)⟩) hw hA (fun r3 S2 H locs hpost hw => ?_)
  obtain ⟨hr_, hS_⟩ := hpost
  subst hr_
  subst hS_
  refine p_calli (va_runV (As := []) (rest := [.int (nI pp)]) C.fix (c_X7_size l D cy S H.size (G (21 + 0)) (G (37 + 0)) (V.1 0) (hP.mem (by omega)) (hP.rh (r := 0) (by omega))) (cwV 0 C.2.2.2.2.1 (gU_V mw_115 mw_116 mw_117 mw_21 sub_X7_size) rfl rfl rfl hdg_X11_told0_V_1 ⟨Nat.le_of_ble_eq_true rfl, Nat.le_of_ble_eq_true rfl⟩) (p_preV C hw (hP.mem (k := 21 + 0) (by omega)) (hP.rh (r := 0) (by omega)) rfl) rfl rfl hl.1 rfl (lv_room (Nat.le_of_ble_eq_true rfl)) dX11_told_13 ⟨(Nat.le_of_ble_eq_true rfl), (Nat.le_of_ble_eq_true rfl)⟩) hw hA (fun r7 S6 H locs hpost hw => ?_)
  obtain ⟨hr_, hS_⟩ := hpost
  subst hr_
  subst hS_
  refine n_icmp_lt (tgt := 29) hx hb (by omega) (by omega) dX11_told_16 (by decide) (fun h_16 => ?_) (fun h_16 => ?_)
  · skip
    refine lv_iload_n hx hb dX11_told_29 rfl (lv_at hl 2 rfl) ?_
    refine n_if_eq (tgt := 48) hx hb (by first | decide | omega) dX11_told_30 (by decide) (fun h_30 => ?_) (fun h_30 => ?_)
    · skip
      refine lv_iload_n hx hb dX11_told_48 rfl (lv_at hl 2 rfl) ?_
      refine n_if_ne (tgt := 67) hx hb (by first | decide | omega) dX11_told_49 (by decide) (fun h_49 => ?_) (fun h_49 => ?_)
      · exact absurd h_49 (by first | decide | omega)
      · skip
        refine lv_aload_n hx hb dX11_told_52 rfl (lv_at hl 0 rfl) ?_
        refine p_get C hw (ci := 10) (Cn := RX11) (T := TX11) (N := 8) (hP.mem (k := 0) (by omega)) hP.c0 rfl hin_RX11 4 (by decide) (mU mw_26) rfl rfl dX11_told_53 ?_
        refine lv_iconst (v := nI 0) hx hb dX11_told_56 (by decide) ?_
        obtain ⟨rq10, erq10, frq10⟩ := hP.leq (L := 0) (by omega)
        refine p_callq (va_runV (As := [.int (nI 0)]) (rest := []) C.fix (c_X4_at l D cy S H.size (G 9) (G (12 + 0)) (G (15 + 0)) 0 (G (21 + 0)) rq10 (hP.mem (by omega)) (hP.lev (L := 0) (by omega)) (hP.mem (by omega)) erq10 (by omega) (frq10 0 (by omega))) (cwV 1 C.2.2.2.2.1 (gU_V mw_111 mw_112 mw_113 mw_25 sub_X4_at) rfl rfl rfl hdg_X11_told0_V_0 ⟨Nat.le_of_ble_eq_true rfl, Nat.le_of_ble_eq_true rfl⟩) (p_preV C hw (hP.mem (k := 9 + 0) (by omega)) (hP.lev (L := 0) (by omega)) rfl) rfl rfl hl.1 rfl (lv_room (Nat.le_of_ble_eq_true rfl)) dX11_told_57 ⟨(Nat.le_of_ble_eq_true rfl), (Nat.le_of_ble_eq_true rfl)⟩) hw hA (fun r12 S11 H locs hpost hw => ?_)
        obtain ⟨hr_, hS_⟩ := hpost
        subst hr_
        subst hS_
        refine lv_iload_n hx hb dX11_told_60 rfl (lv_at hl 1 rfl) ?_
        refine p_calli (va_runV (As := [.int (nI pp)]) (rest := []) C.fix (c_X7_get l D cy S H.size (G (21 + 0)) (G (37 + 0)) (gcap 0) (V.1 0) pp (V.2 0) (hP.mem (by omega)) (hP.rh (r := 0) (by omega)) (hP.mem (by omega)) (hP.rb (r := 0) (by omega)) (gcap_27 _) (hP.rn (by omega)) (by omega)) (cwV 1 C.2.2.2.2.1 (gU_V mw_593 mw_195 mw_196 mw_21 sub_X7_get) rfl rfl rfl hdg_X11_told0_V_2 ⟨Nat.le_of_ble_eq_true rfl, Nat.le_of_ble_eq_true rfl⟩) (p_preV C hw (hP.mem (k := 21 + 0) (by omega)) (hP.rh (r := 0) (by omega)) rfl) rfl rfl hl.1 rfl (lv_room (Nat.le_of_ble_eq_true rfl)) dX11_told_61 ⟨(Nat.le_of_ble_eq_true rfl), (Nat.le_of_ble_eq_true rfl)⟩) hw hA (fun r16 S15 H locs hpost hw => ?_)
        obtain ⟨hr_, hS_⟩ := hpost
        subst hr_
        subst hS_
        refine lv_goto (tgt := 79) hx hb dX11_told_64 (by decide) ?_
        exact (p_iret C hw ⟨rfl, rfl⟩ hr hlocks dX11_told_79)
    · exact absurd h_30 (by first | decide | omega)
  · exact absurd h_16 (by first | decide | omega)

theorem hdg_X11_bit1_V_0 : yX11_last.cls = RX11 ∧ yX11_last.cls ≠ "java/lang/invoke/MethodHandle" ∧ yX11_last.cls ≠ "java/lang/invoke/VarHandle" ∧ (parseMethodDescriptor yX11_last.desc).map (fun d => d.parameters.length) = some 1 := by decide +kernel
theorem hdg_X11_bit1_V_1 : yX7_size.cls = RX7 ∧ yX7_size.cls ≠ "java/lang/invoke/MethodHandle" ∧ yX7_size.cls ≠ "java/lang/invoke/VarHandle" ∧ (parseMethodDescriptor yX7_size.desc).map (fun d => d.parameters.length) = some 0 := by decide +kernel
theorem hdg_X11_bit1_V_2 : yX7_get.cls = RX7 ∧ yX7_get.cls ≠ "java/lang/invoke/MethodHandle" ∧ yX7_get.cls ≠ "java/lang/invoke/VarHandle" ∧ (parseMethodDescriptor yX7_get.desc).map (fun d => d.parameters.length) = some 1 := by decide +kernel
set_option maxHeartbeats 4000000 in
set_option maxRecDepth 100000 in
theorem g_X11_bit1 (l : Launch) (D : va_G) (cy : Nat → ClassId) (S : pS) (sz : Nat) {G T : Nat → Nat} {n : Nat} {ws : Nat → WV} {l1 l2 : va_E} {V : RV} (hP : Pic cy S G T n ws l1 l2 V) (pp : Nat) (hp : pp < V.1 n) (hzn : V.1 (n + 5) = V.1 n) : Met l yX11_bit (Cond.code yX11_bit cX11_bit 3 (some .int) :: lwU) ({ frames := 2, cells := 0, slots := 0, locals := 43 }) (pPc D cy S sz [.ref (G 0), .int (nI pp), .int (nI 1)]) (pQi D cy S sz (fun r S' => r = nI (rg (V.2 (n + 5)) (V.1 (n + 5)) pp) ∧ S = S')) 0 0 (pA S sz) := by
  refine Met.ofW (cc := cX11_bit) (maxL := 3) (ret := (some .int)) (by decide) rfl ?_
  intro p e s m args below meth c s₁ B hml hv
  obtain ⟨rfl, rfl, C, hw, hA, hr, hlocks⟩ := p_start B hml hv
  have hx := C.1
  have hb := C.2.1
  have hl := lv_entry ([.ref (G 0), .int (nI pp), .int (nI 1)]) (n := 3) (Nat.le_of_ble_eq_true rfl)
  rw [lg_entry_eq]
  generalize (lg_sl ([.ref (G 0), .int (nI pp), .int (nI 1)]) ++ List.replicate (3 - (lg_sl ([.ref (G 0), .int (nI pp), .int (nI 1)])).length) Slot.unset).toArray = ls at hl ⊢
  have hl : lv_has ls 3 [(0, .ref (G 0)), (1, .int (nI pp)), (2, .int (nI 1))] := hl
  have hin_RX11 : ∀ w ∈ u_ws RX11 TX11 8, w ∈ (Cond.code yX11_bit cX11_bit 3 (some .int) :: lwU) := fun w h => mU (sub_RX11 w h)
  have hn4 := hP.n4
  have h320 := hP.r320 (r := n) (by omega)
  refine lv_iload_n hx hb dX11_bit_0 rfl (lv_at hl 1 rfl) ?_
  refine n_if_lt (tgt := 19) hx hb (by omega) dX11_bit_1 (by decide) ?_
  refine lv_iload_n hx hb dX11_bit_4 rfl (lv_at hl 1 rfl) ?_
  refine lv_aload_n hx hb dX11_bit_5 rfl (lv_at hl 0 rfl) ?_
  refine lv_aload_n hx hb dX11_bit_6 rfl (lv_at hl 0 rfl) ?_
  refine p_get C hw (ci := 10) (Cn := RX11) (T := TX11) (N := 8) (hP.mem (k := 0) (by omega)) hP.c0 rfl hin_RX11 4 (by decide) (mU mw_26) rfl rfl dX11_bit_7 ?_
  refine p_callq (va_runV (As := [.ref (G 9)]) (rest := [.int (nI pp)]) C.fix (g_X11_last0 l D cy S s.heap.size hP) (cwV 1 C.2.2.2.2.1 (gU_V mw_241 mw_242 mw_243 mw_2 (subU mw_244)) rfl rfl rfl hdg_X11_bit1_V_0 ⟨Nat.le_of_ble_eq_true rfl, Nat.le_of_ble_eq_true rfl⟩) (p_preV C hw (hP.mem (k := 0) (by omega)) hP.c0 rfl) rfl rfl hl.1 rfl (lv_room (Nat.le_of_ble_eq_true rfl)) dX11_bit_10 ⟨(Nat.le_of_ble_eq_true rfl), (Nat.le_of_ble_eq_true rfl)⟩) hw hA (fun r2 S1 H locs hpost hw => ?_)
  obtain ⟨hr_, hS_⟩ := hpost
  subst hr_
  subst hS_
  refine p_calli (va_runV (As := []) (rest := [.int (nI pp)]) C.fix (c_X7_size l D cy S H.size (G (21 + n)) (G (37 + n)) (V.1 n) (hP.mem (by omega)) (hP.rh (r := n) (by omega))) (cwV 0 C.2.2.2.2.1 (gU_V mw_115 mw_116 mw_117 mw_21 sub_X7_size) rfl rfl rfl hdg_X11_bit1_V_1 ⟨Nat.le_of_ble_eq_true rfl, Nat.le_of_ble_eq_true rfl⟩) (p_preV C hw (hP.mem (k := 21 + n) (by omega)) (hP.rh (r := n) (by omega)) rfl) rfl rfl hl.1 rfl (lv_room (Nat.le_of_ble_eq_true rfl)) dX11_bit_13 ⟨(Nat.le_of_ble_eq_true rfl), (Nat.le_of_ble_eq_true rfl)⟩) hw hA (fun r6 S5 H locs hpost hw => ?_)
  obtain ⟨hr_, hS_⟩ := hpost
  subst hr_
  subst hS_
  refine n_icmp_lt (tgt := 29) hx hb (by omega) (by omega) dX11_bit_16 (by decide) (fun h_16 => ?_) (fun h_16 => ?_)
  · skip
    refine lv_iload_n hx hb dX11_bit_29 rfl (lv_at hl 2 rfl) ?_
    refine n_if_eq (tgt := 48) hx hb (by first | decide | omega) dX11_bit_30 (by decide) (fun h_30 => ?_) (fun h_30 => ?_)
    · exact absurd h_30 (by first | decide | omega)
    · skip
      refine lv_iload_n hx hb dX11_bit_33 rfl (lv_at hl 2 rfl) ?_
      refine lv_iconst (v := nI 1) hx hb dX11_bit_34 (by decide) ?_
      refine n_icmp_eq (tgt := 48) hx hb (by first | decide | omega) (by first | decide | omega) dX11_bit_35 (by decide) (fun h_35 => ?_) (fun h_35 => ?_)
      · skip
        refine lv_iload_n hx hb dX11_bit_48 rfl (lv_at hl 2 rfl) ?_
        refine n_if_ne (tgt := 67) hx hb (by first | decide | omega) dX11_bit_49 (by decide) (fun h_49 => ?_) (fun h_49 => ?_)
        · skip
          refine lv_aload_n hx hb dX11_bit_67 rfl (lv_at hl 0 rfl) ?_
          refine lv_aload_n hx hb dX11_bit_68 rfl (lv_at hl 0 rfl) ?_
          refine p_get C hw (ci := 10) (Cn := RX11) (T := TX11) (N := 8) (hP.mem (k := 0) (by omega)) hP.c0 rfl hin_RX11 5 (by decide) (mU mw_27) rfl rfl dX11_bit_69 ?_
          refine p_callq (va_runV (As := [.ref (G 10)]) (rest := []) C.fix (g_X11_last1 l D cy S H.size hP) (cwV 1 C.2.2.2.2.1 (gU_V mw_241 mw_242 mw_243 mw_2 (subU mw_244)) rfl rfl rfl hdg_X11_bit1_V_0 ⟨Nat.le_of_ble_eq_true rfl, Nat.le_of_ble_eq_true rfl⟩) (p_preV C hw (hP.mem (k := 0) (by omega)) hP.c0 rfl) rfl rfl hl.1 rfl (lv_room (Nat.le_of_ble_eq_true rfl)) dX11_bit_72 ⟨(Nat.le_of_ble_eq_true rfl), (Nat.le_of_ble_eq_true rfl)⟩) hw hA (fun r10 S9 H locs hpost hw => ?_)
          obtain ⟨hr_, hS_⟩ := hpost
          subst hr_
          subst hS_
          refine lv_iload_n hx hb dX11_bit_75 rfl (lv_at hl 1 rfl) ?_
          refine p_calli (va_runV (As := [.int (nI pp)]) (rest := []) C.fix (c_X7_get l D cy S H.size (G (21 + (n + 5))) (G (37 + (n + 5))) (gcap (n + 5)) (V.1 (n + 5)) pp (V.2 (n + 5)) (hP.mem (by omega)) (hP.rh (r := (n + 5)) (by omega)) (hP.mem (by omega)) (hP.rb (r := (n + 5)) (by omega)) (gcap_27 _) (hP.rn (by omega)) (by omega)) (cwV 1 C.2.2.2.2.1 (gU_V mw_593 mw_195 mw_196 mw_21 sub_X7_get) rfl rfl rfl hdg_X11_bit1_V_2 ⟨Nat.le_of_ble_eq_true rfl, Nat.le_of_ble_eq_true rfl⟩) (p_preV C hw (hP.mem (k := 21 + (n + 5)) (by omega)) (hP.rh (r := (n + 5)) (by omega)) rfl) rfl rfl hl.1 rfl (lv_room (Nat.le_of_ble_eq_true rfl)) dX11_bit_76 ⟨(Nat.le_of_ble_eq_true rfl), (Nat.le_of_ble_eq_true rfl)⟩) hw hA (fun r14 S13 H locs hpost hw => ?_)
          obtain ⟨hr_, hS_⟩ := hpost
          subst hr_
          subst hS_
          exact (p_iret C hw ⟨rfl, rfl⟩ hr hlocks dX11_bit_79)
        · exact absurd h_49 (by first | decide | omega)
      · exact absurd h_35 (by first | decide | omega)
  · exact absurd h_16 (by first | decide | omega)

theorem hdg_X11_told1_V_0 : yX4_at.cls = RX4 ∧ yX4_at.cls ≠ "java/lang/invoke/MethodHandle" ∧ yX4_at.cls ≠ "java/lang/invoke/VarHandle" ∧ (parseMethodDescriptor yX4_at.desc).map (fun d => d.parameters.length) = some 1 := by decide +kernel
theorem hdg_X11_told1_V_1 : yX7_size.cls = RX7 ∧ yX7_size.cls ≠ "java/lang/invoke/MethodHandle" ∧ yX7_size.cls ≠ "java/lang/invoke/VarHandle" ∧ (parseMethodDescriptor yX7_size.desc).map (fun d => d.parameters.length) = some 0 := by decide +kernel
theorem hdg_X11_told1_V_2 : yX7_get.cls = RX7 ∧ yX7_get.cls ≠ "java/lang/invoke/MethodHandle" ∧ yX7_get.cls ≠ "java/lang/invoke/VarHandle" ∧ (parseMethodDescriptor yX7_get.desc).map (fun d => d.parameters.length) = some 1 := by decide +kernel
set_option maxHeartbeats 4000000 in
set_option maxRecDepth 100000 in
theorem g_X11_told1 (l : Launch) (D : va_G) (cy : Nat → ClassId) (S : pS) (sz : Nat) {G T : Nat → Nat} {n : Nat} {ws : Nat → WV} {l1 l2 : va_E} {V : RV} (hP : Pic cy S G T n ws l1 l2 V) (pp : Nat) (hp : pp < V.1 0) : Met l yX11_told (Cond.code yX11_told cX11_told 3 (some .int) :: lwU) ({ frames := 1, cells := 0, slots := 0, locals := 22 }) (pPc D cy S sz [.ref (G 0), .int (nI pp), .int (nI 1)]) (pQi D cy S sz (fun r S' => r = nI (rg (V.2 5) (V.1 5) pp) ∧ S = S')) 0 0 (pA S sz) := by
  refine Met.ofW (cc := cX11_told) (maxL := 3) (ret := (some .int)) (by decide) rfl ?_
  intro p e s m args below meth c s₁ B hml hv
  obtain ⟨rfl, rfl, C, hw, hA, hr, hlocks⟩ := p_start B hml hv
  have hx := C.1
  have hb := C.2.1
  have hl := lv_entry ([.ref (G 0), .int (nI pp), .int (nI 1)]) (n := 3) (Nat.le_of_ble_eq_true rfl)
  rw [lg_entry_eq]
  generalize (lg_sl ([.ref (G 0), .int (nI pp), .int (nI 1)]) ++ List.replicate (3 - (lg_sl ([.ref (G 0), .int (nI pp), .int (nI 1)])).length) Slot.unset).toArray = ls at hl ⊢
  have hl : lv_has ls 3 [(0, .ref (G 0)), (1, .int (nI pp)), (2, .int (nI 1))] := hl
  have hin_RX11 : ∀ w ∈ u_ws RX11 TX11 8, w ∈ (Cond.code yX11_told cX11_told 3 (some .int) :: lwU) := fun w h => mU (sub_RX11 w h)
  have hn4 := hP.n4
  have h320 := hP.r320 (r := 0) (by omega)
  refine lv_iload_n hx hb dX11_told_0 rfl (lv_at hl 1 rfl) ?_
  refine n_if_lt (tgt := 19) hx hb (by omega) dX11_told_1 (by decide) ?_
  refine lv_iload_n hx hb dX11_told_4 rfl (lv_at hl 1 rfl) ?_
  refine lv_aload_n hx hb dX11_told_5 rfl (lv_at hl 0 rfl) ?_
  refine p_get C hw (ci := 10) (Cn := RX11) (T := TX11) (N := 8) (hP.mem (k := 0) (by omega)) hP.c0 rfl hin_RX11 4 (by decide) (mU mw_26) rfl rfl dX11_told_6 ?_
  refine lv_iconst (v := nI 0) hx hb dX11_told_9 (by decide) ?_
  obtain ⟨rq1, erq1, frq1⟩ := hP.leq (L := 0) (by omega)
  refine p_callq (va_runV (As := [.int (nI 0)]) (rest := [.int (nI pp)]) C.fix (c_X4_at l D cy S s.heap.size (G 9) (G (12 + 0)) (G (15 + 0)) 0 (G (21 + 0)) rq1 (hP.mem (by omega)) (hP.lev (L := 0) (by omega)) (hP.mem (by omega)) erq1 (by omega) (frq1 0 (by omega))) (cwV 1 C.2.2.2.2.1 (gU_V mw_111 mw_112 mw_113 mw_25 sub_X4_at) rfl rfl rfl hdg_X11_told1_V_0 ⟨Nat.le_of_ble_eq_true rfl, Nat.le_of_ble_eq_true rfl⟩) (p_preV C hw (hP.mem (k := 9 + 0) (by omega)) (hP.lev (L := 0) (by omega)) rfl) rfl rfl hl.1 rfl (lv_room (Nat.le_of_ble_eq_true rfl)) dX11_told_10 ⟨(Nat.le_of_ble_eq_true rfl), (Nat.le_of_ble_eq_true rfl)⟩) hw hA (fun r3 S2 H locs hpost hw => ?_)
  obtain ⟨hr_, hS_⟩ := hpost
  subst hr_
  subst hS_
  refine p_calli (va_runV (As := []) (rest := [.int (nI pp)]) C.fix (c_X7_size l D cy S H.size (G (21 + 0)) (G (37 + 0)) (V.1 0) (hP.mem (by omega)) (hP.rh (r := 0) (by omega))) (cwV 0 C.2.2.2.2.1 (gU_V mw_115 mw_116 mw_117 mw_21 sub_X7_size) rfl rfl rfl hdg_X11_told1_V_1 ⟨Nat.le_of_ble_eq_true rfl, Nat.le_of_ble_eq_true rfl⟩) (p_preV C hw (hP.mem (k := 21 + 0) (by omega)) (hP.rh (r := 0) (by omega)) rfl) rfl rfl hl.1 rfl (lv_room (Nat.le_of_ble_eq_true rfl)) dX11_told_13 ⟨(Nat.le_of_ble_eq_true rfl), (Nat.le_of_ble_eq_true rfl)⟩) hw hA (fun r7 S6 H locs hpost hw => ?_)
  obtain ⟨hr_, hS_⟩ := hpost
  subst hr_
  subst hS_
  refine n_icmp_lt (tgt := 29) hx hb (by omega) (by omega) dX11_told_16 (by decide) (fun h_16 => ?_) (fun h_16 => ?_)
  · skip
    refine lv_iload_n hx hb dX11_told_29 rfl (lv_at hl 2 rfl) ?_
    refine n_if_eq (tgt := 48) hx hb (by first | decide | omega) dX11_told_30 (by decide) (fun h_30 => ?_) (fun h_30 => ?_)
    · exact absurd h_30 (by first | decide | omega)
    · skip
      refine lv_iload_n hx hb dX11_told_33 rfl (lv_at hl 2 rfl) ?_
      refine lv_iconst (v := nI 1) hx hb dX11_told_34 (by decide) ?_
      refine n_icmp_eq (tgt := 48) hx hb (by first | decide | omega) (by first | decide | omega) dX11_told_35 (by decide) (fun h_35 => ?_) (fun h_35 => ?_)
      · skip
        refine lv_iload_n hx hb dX11_told_48 rfl (lv_at hl 2 rfl) ?_
        refine n_if_ne (tgt := 67) hx hb (by first | decide | omega) dX11_told_49 (by decide) (fun h_49 => ?_) (fun h_49 => ?_)
        · skip
          refine lv_aload_n hx hb dX11_told_67 rfl (lv_at hl 0 rfl) ?_
          refine p_get C hw (ci := 10) (Cn := RX11) (T := TX11) (N := 8) (hP.mem (k := 0) (by omega)) hP.c0 rfl hin_RX11 5 (by decide) (mU mw_27) rfl rfl dX11_told_68 ?_
          refine lv_iconst (v := nI 0) hx hb dX11_told_71 (by decide) ?_
          obtain ⟨rq10, erq10, frq10⟩ := hP.leq (L := 1) (by omega)
          refine p_callq (va_runV (As := [.int (nI 0)]) (rest := []) C.fix (c_X4_at l D cy S H.size (G 10) (G (12 + 1)) (G (15 + 1)) 0 (G (21 + 5)) rq10 (hP.mem (by omega)) (hP.lev (L := 1) (by omega)) (hP.mem (by omega)) erq10 (by omega) (frq10 0 (by omega))) (cwV 1 C.2.2.2.2.1 (gU_V mw_111 mw_112 mw_113 mw_25 sub_X4_at) rfl rfl rfl hdg_X11_told1_V_0 ⟨Nat.le_of_ble_eq_true rfl, Nat.le_of_ble_eq_true rfl⟩) (p_preV C hw (hP.mem (k := 9 + 1) (by omega)) (hP.lev (L := 1) (by omega)) rfl) rfl rfl hl.1 rfl (lv_room (Nat.le_of_ble_eq_true rfl)) dX11_told_72 ⟨(Nat.le_of_ble_eq_true rfl), (Nat.le_of_ble_eq_true rfl)⟩) hw hA (fun r12 S11 H locs hpost hw => ?_)
          obtain ⟨hr_, hS_⟩ := hpost
          subst hr_
          subst hS_
          refine lv_iload_n hx hb dX11_told_75 rfl (lv_at hl 1 rfl) ?_
          refine p_calli (va_runV (As := [.int (nI pp)]) (rest := []) C.fix (c_X7_get l D cy S H.size (G (21 + 5)) (G (37 + 5)) (gcap 5) (V.1 5) pp (V.2 5) (hP.mem (by omega)) (hP.rh (r := 5) (by omega)) (hP.mem (by omega)) (hP.rb (r := 5) (by omega)) (gcap_27 _) (hP.rn (by omega)) (by omega)) (cwV 1 C.2.2.2.2.1 (gU_V mw_593 mw_195 mw_196 mw_21 sub_X7_get) rfl rfl rfl hdg_X11_told1_V_2 ⟨Nat.le_of_ble_eq_true rfl, Nat.le_of_ble_eq_true rfl⟩) (p_preV C hw (hP.mem (k := 21 + 5) (by omega)) (hP.rh (r := 5) (by omega)) rfl) rfl rfl hl.1 rfl (lv_room (Nat.le_of_ble_eq_true rfl)) dX11_told_76 ⟨(Nat.le_of_ble_eq_true rfl), (Nat.le_of_ble_eq_true rfl)⟩) hw hA (fun r16 S15 H locs hpost hw => ?_)
          obtain ⟨hr_, hS_⟩ := hpost
          subst hr_
          subst hS_
          exact (p_iret C hw ⟨rfl, rfl⟩ hr hlocks dX11_told_79)
        · exact absurd h_49 (by first | decide | omega)
      · exact absurd h_35 (by first | decide | omega)
  · exact absurd h_16 (by first | decide | omega)

theorem hdg_X11_mendedBy_V_0 : yX4_at.cls = RX4 ∧ yX4_at.cls ≠ "java/lang/invoke/MethodHandle" ∧ yX4_at.cls ≠ "java/lang/invoke/VarHandle" ∧ (parseMethodDescriptor yX4_at.desc).map (fun d => d.parameters.length) = some 1 := by decide +kernel
theorem hdg_X11_mendedBy_V_1 : yX7_size.cls = RX7 ∧ yX7_size.cls ≠ "java/lang/invoke/MethodHandle" ∧ yX7_size.cls ≠ "java/lang/invoke/VarHandle" ∧ (parseMethodDescriptor yX7_size.desc).map (fun d => d.parameters.length) = some 0 := by decide +kernel
theorem hdg_X11_mendedBy_V_2 : yX7_resize.cls = RX7 ∧ yX7_resize.cls ≠ "java/lang/invoke/MethodHandle" ∧ yX7_resize.cls ≠ "java/lang/invoke/VarHandle" ∧ (parseMethodDescriptor yX7_resize.desc).map (fun d => d.parameters.length) = some 1 := by decide +kernel
theorem hdg_X11_mendedBy_V_3 : yX7_unlike.cls = RX7 ∧ yX7_unlike.cls ≠ "java/lang/invoke/MethodHandle" ∧ yX7_unlike.cls ≠ "java/lang/invoke/VarHandle" ∧ (parseMethodDescriptor yX7_unlike.desc).map (fun d => d.parameters.length) = some 1 := by decide +kernel
set_option maxHeartbeats 4000000 in
set_option maxRecDepth 100000 in
theorem g_X11_mendedBy (l : Launch) (D : va_G) (cy : Nat → ClassId) (S : pS) (sz : Nat) {G T : Nat → Nat} {n : Nat} {ws : Nat → WV} {l1 l2 : va_E} {V : RV} (hP : Pic cy S G T n ws l1 l2 V) (j : Nat) (hj : j < n) (hs : ∀ j, j < n → V.1 (j + 1) = sSize (ws j) (V.1 j)) (hu : ∀ j, j ≤ n → V.1 (j + 5) = V.1 j) : Met l yX11_mendedBy (Cond.code yX11_mendedBy cX11_mendedBy 5 (some .int) :: lwU) ({ frames := 3, cells := 0, slots := 0, locals := 72 }) (pPc D cy S sz [.ref (G 0), .ref (T (2 * j)), .int (nI j)]) (pQi D cy S sz (fun r S' => ∃ V', r = nI (mnd ws V j) ∧ Pic cy S' G T n ws l1 l2 V' ∧ Frm G S S' ∧ Kp V V')) 0 0 (pA S sz) := by
  refine Met.ofW (cc := cX11_mendedBy) (maxL := 5) (ret := (some .int)) (by decide) rfl ?_
  intro p e s m args below meth c s₁ B hml hv
  obtain ⟨rfl, rfl, C, hw, hA, hr, hlocks⟩ := p_start B hml hv
  have hx := C.1
  have hb := C.2.1
  have hl := lv_entry ([.ref (G 0), .ref (T (2 * j)), .int (nI j)]) (n := 5) (Nat.le_of_ble_eq_true rfl)
  rw [lg_entry_eq]
  generalize (lg_sl ([.ref (G 0), .ref (T (2 * j)), .int (nI j)]) ++ List.replicate (5 - (lg_sl ([.ref (G 0), .ref (T (2 * j)), .int (nI j)])).length) Slot.unset).toArray = ls at hl ⊢
  have hl : lv_has ls 5 [(0, .ref (G 0)), (1, .ref (T (2 * j))), (2, .int (nI j))] := hl
  have hin_RX11 : ∀ w ∈ u_ws RX11 TX11 8, w ∈ (Cond.code yX11_mendedBy cX11_mendedBy 5 (some .int) :: lwU) := fun w h => mU (sub_RX11 w h)
  have hn4 := hP.n4
  have huj := hu j (by omega)
  have huj1 := hu (j + 1) (by omega)
  have hsj := hs j hj
  have h320 := hP.r320 (r := j + 1) (by omega)
  refine lv_aload_n hx hb dX11_mendedBy_0 rfl (lv_at hl 0 rfl) ?_
  refine p_get C hw (ci := 10) (Cn := RX11) (T := TX11) (N := 8) (hP.mem (k := 0) (by omega)) hP.c0 rfl hin_RX11 5 (by decide) (mU mw_27) rfl rfl dX11_mendedBy_1 ?_
  refine lv_iload_n hx hb dX11_mendedBy_4 rfl (lv_at hl 2 rfl) ?_
  refine lv_iconst (v := nI 1) hx hb dX11_mendedBy_5 (by decide) ?_
  refine n_iadd hx hb dX11_mendedBy_6 ?_
  obtain ⟨rq1, erq1, frq1⟩ := hP.leq (L := 1) (by omega)
  refine p_callq (va_runV (As := [.int (nI (j + 1))]) (rest := []) C.fix (c_X4_at l D cy S s.heap.size (G 10) (G (12 + 1)) (G (15 + 1)) (j + 1) (G (21 + (j + 1 + 5))) rq1 (hP.mem (by omega)) (hP.lev (L := 1) (by omega)) (hP.mem (by omega)) erq1 (by omega) (frq1 (j + 1) (by omega))) (cwV 1 C.2.2.2.2.1 (gU_V mw_111 mw_112 mw_113 mw_25 sub_X4_at) rfl rfl rfl hdg_X11_mendedBy_V_0 ⟨Nat.le_of_ble_eq_true rfl, Nat.le_of_ble_eq_true rfl⟩) (p_preV C hw (hP.mem (k := 9 + 1) (by omega)) (hP.lev (L := 1) (by omega)) rfl) rfl rfl hl.1 rfl (lv_room (Nat.le_of_ble_eq_true rfl)) dX11_mendedBy_7 ⟨(Nat.le_of_ble_eq_true rfl), (Nat.le_of_ble_eq_true rfl)⟩) hw hA (fun r3 S2 H locs hpost hw => ?_)
  obtain ⟨hr_, hS_⟩ := hpost
  subst hr_
  subst hS_
  refine lv_astore_n (lv' := [(3, .ref (G (21 + (j + 1 + 5)))), (0, .ref (G 0)), (1, .ref (T (2 * j))), (2, .int (nI j))]) hx hb dX11_mendedBy_10 rfl hl (by decide) rfl (fun ls hl => ?_)
  refine lv_aload_n hx hb dX11_mendedBy_11 rfl (lv_at hl 1 rfl) ?_
  refine p_get C hw (ci := 10) (Cn := RX11) (T := TX11) (N := 8) (hP.mem (k := 0) (by omega)) hP.c0 rfl hin_RX11 6 (by decide) (mU mw_28) rfl rfl dX11_mendedBy_12 ?_
  refine lv_iload_n hx hb dX11_mendedBy_15 rfl (lv_at hl 3 rfl) ?_
  refine lv_iconst (v := nI 1) hx hb dX11_mendedBy_16 (by decide) ?_
  refine n_iadd hx hb dX11_mendedBy_17 ?_
  obtain ⟨rq6, erq6, frq6⟩ := hP.leq (L := 2) (by omega)
  refine p_callq (va_runV (As := [.int (nI (j + 1))]) (rest := []) C.fix (c_X4_at l D cy S H.size (G 11) (G (12 + 2)) (G (15 + 2)) (j + 1) (G (21 + (j + 1 + 10))) rq6 (hP.mem (by omega)) (hP.lev (L := 2) (by omega)) (hP.mem (by omega)) erq6 (by omega) (frq6 (j + 1) (by omega))) (cwV 1 C.2.2.2.2.1 (gU_V mw_111 mw_112 mw_113 mw_25 sub_X4_at) rfl rfl rfl hdg_X11_mendedBy_V_0 ⟨Nat.le_of_ble_eq_true rfl, Nat.le_of_ble_eq_true rfl⟩) (p_preV C hw (hP.mem (k := 9 + 2) (by omega)) (hP.lev (L := 2) (by omega)) rfl) rfl rfl hl.1 rfl (lv_room (Nat.le_of_ble_eq_true rfl)) dX11_mendedBy_18 ⟨(Nat.le_of_ble_eq_true rfl), (Nat.le_of_ble_eq_true rfl)⟩) hw hA (fun r8 S7 H locs hpost hw => ?_)
  obtain ⟨hr_, hS_⟩ := hpost
  subst hr_
  subst hS_
  refine lv_astore (lv' := [(4, .ref (G (21 + (j + 1 + 10)))), (3, .ref (G (21 + (j + 1 + 5)))), (0, .ref (G 0)), (1, .ref (T (2 * j))), (2, .int (nI j))]) hx hb dX11_mendedBy_21 hl (by decide) rfl (fun ls hl => ?_)
  refine lv_aload hx hb dX11_mendedBy_23 (lv_at hl 0 rfl) ?_
  refine lv_aload_n hx hb dX11_mendedBy_25 rfl (lv_at hl 1 rfl) ?_
  refine p_calli (va_runV (As := []) (rest := [.ref (G (21 + (j + 1 + 10)))]) C.fix (c_X7_size l D cy S H.size (G (21 + (j + 1 + 5))) (G (37 + (j + 1 + 5))) (V.1 (j + 1 + 5)) (hP.mem (by omega)) (hP.rh (r := (j + 1 + 5)) (by omega))) (cwV 0 C.2.2.2.2.1 (gU_V mw_115 mw_116 mw_117 mw_21 sub_X7_size) rfl rfl rfl hdg_X11_mendedBy_V_1 ⟨Nat.le_of_ble_eq_true rfl, Nat.le_of_ble_eq_true rfl⟩) (p_preV C hw (hP.mem (k := 21 + (j + 1 + 5)) (by omega)) (hP.rh (r := (j + 1 + 5)) (by omega)) rfl) rfl rfl hl.1 rfl (lv_room (Nat.le_of_ble_eq_true rfl)) dX11_mendedBy_26 ⟨(Nat.le_of_ble_eq_true rfl), (Nat.le_of_ble_eq_true rfl)⟩) hw hA (fun r12 S11 H locs hpost hw => ?_)
  obtain ⟨hr_, hS_⟩ := hpost
  subst hr_
  subst hS_
  refine p_callv (va_runV (As := [.int (nI (V.1 (j + 1 + 5)))]) (rest := []) C.fix (q_resize l D cy S H.size hP (j + 1 + 10) (V.1 (j + 1 + 5)) (by omega) (by rw [huj1]; omega)) (cwV 1 C.2.2.2.2.1 (gU_V mw_56 mw_57 mw_58 mw_21 sub_X7_resize) rfl rfl rfl hdg_X11_mendedBy_V_2 ⟨Nat.le_of_ble_eq_true rfl, Nat.le_of_ble_eq_true rfl⟩) (p_preV C hw (hP.mem (k := 21 + (j + 1 + 10)) (by omega)) (hP.rh (r := (j + 1 + 10)) (by omega)) rfl) rfl rfl hl.1 rfl (lv_room (Nat.le_of_ble_eq_true rfl)) dX11_mendedBy_29 ⟨(Nat.le_of_ble_eq_true rfl), (Nat.le_of_ble_eq_true rfl)⟩) hw hA (fun S15 H locs hpost hw => ?_)
  obtain ⟨hP17, hF18⟩ := hpost
  obtain ⟨V19, hV19⟩ : ∃ z : RV, z = (va_up V.1 (j + 1 + 10) (min (V.1 (j + 1 + 5)) (gcap (j + 1 + 10))), V.2) := ⟨_, rfl⟩
  rw [← hV19] at hP17
  refine lv_aload_n hx hb dX11_mendedBy_32 rfl (lv_at hl 3 rfl) ?_
  refine lv_aload_n hx hb dX11_mendedBy_33 rfl (lv_at hl 2 rfl) ?_
  refine p_get C hw (ci := 10) (Cn := RX11) (T := TX11) (N := 8) (hP17.mem (k := 0) (by omega)) hP17.c0 rfl hin_RX11 5 (by decide) (mU mw_27) rfl rfl dX11_mendedBy_34 ?_
  refine lv_iload_n hx hb dX11_mendedBy_37 rfl (lv_at hl 4 rfl) ?_
  obtain ⟨rq20, erq20, frq20⟩ := hP17.leq (L := 1) (by omega)
  refine p_callq (va_runV (As := [.int (nI j)]) (rest := [.ref (T (2 * j))]) C.fix (c_X4_at l D cy S15 H.size (G 10) (G (12 + 1)) (G (15 + 1)) j (G (21 + (j + 5))) rq20 (hP17.mem (by omega)) (hP17.lev (L := 1) (by omega)) (hP17.mem (by omega)) erq20 (by omega) (frq20 j (by omega))) (cwV 1 C.2.2.2.2.1 (gU_V mw_111 mw_112 mw_113 mw_25 sub_X4_at) rfl rfl rfl hdg_X11_mendedBy_V_0 ⟨Nat.le_of_ble_eq_true rfl, Nat.le_of_ble_eq_true rfl⟩) (p_preV C hw (hP17.mem (k := 9 + 1) (by omega)) (hP17.lev (L := 1) (by omega)) rfl) rfl rfl hl.1 rfl (lv_room (Nat.le_of_ble_eq_true rfl)) dX11_mendedBy_38 ⟨(Nat.le_of_ble_eq_true rfl), (Nat.le_of_ble_eq_true rfl)⟩) hw hA (fun r22 S21 H locs hpost hw => ?_)
  obtain ⟨hr_, hS_⟩ := hpost
  subst hr_
  subst hS_
  refine lv_aload hx hb dX11_mendedBy_41 (lv_at hl 0 rfl) ?_
  refine p_callv (v_code C hw hl.1 hP17 (j := j) (by omega) (r1 := (j + 5)) (r2 := (j + 1 + 10)) (by omega) (by omega) (by omega) (mend_s (by omega) huj1 huj hsj h320 hV19).1 mw_555 ⟨Nat.le_of_ble_eq_true rfl, Nat.le_of_ble_eq_true rfl⟩ ⟨(Nat.le_of_ble_eq_true rfl), (Nat.le_of_ble_eq_true rfl)⟩ (Nat.le_of_ble_eq_true rfl) dX11_mendedBy_43) hw hA (fun S25 H locs hpost hw => ?_)
  obtain ⟨gg30, hgg30, hP27, hF28⟩ := hpost
  obtain ⟨V29, hV29⟩ : ∃ z : RV, z = (V19.1, va_up V19.2 (j + 1 + 10) gg30) := ⟨_, rfl⟩
  rw [← hV29] at hP27
  have hT31 := hF18.trans hF28
  refine lv_aload hx hb dX11_mendedBy_46 (lv_at hl 0 rfl) ?_
  refine lv_aload_n hx hb dX11_mendedBy_48 rfl (lv_at hl 1 rfl) ?_
  refine p_calli (va_runV (As := [.ref (G (21 + (j + 1 + 5)))]) (rest := []) C.fix (c_X7_unlike l D cy S25 H.size (G (21 + (j + 1 + 10))) (G (37 + (j + 1 + 10))) (gcap (j + 1 + 10)) (V29.1 (j + 1 + 10)) (G (21 + (j + 1 + 5))) (G (37 + (j + 1 + 5))) (gcap (j + 1 + 5)) (V29.1 (j + 1 + 5)) (V29.2 (j + 1 + 10)) (V29.2 (j + 1 + 5)) (hP27.mem (by omega)) (hP27.rh (r := (j + 1 + 10)) (by omega)) (hP27.mem (by omega)) (hP27.rb (r := (j + 1 + 10)) (by omega)) (hP27.mem (by omega)) (hP27.rh (r := (j + 1 + 5)) (by omega)) (hP27.mem (by omega)) (hP27.rb (r := (j + 1 + 5)) (by omega)) (gcap_27 _) (hP27.rn (by omega)) (hP27.rg2 (by omega)) (gcap_27 _) (hP27.rn (by omega)) (hP27.rg2 (by omega))) (cwV 1 C.2.2.2.2.1 (gU_V mw_514 mw_515 mw_516 mw_21 sub_X7_unlike) rfl rfl rfl hdg_X11_mendedBy_V_3 ⟨Nat.le_of_ble_eq_true rfl, Nat.le_of_ble_eq_true rfl⟩) (p_preV C hw (hP27.mem (k := 21 + (j + 1 + 10)) (by omega)) (hP27.rh (r := (j + 1 + 10)) (by omega)) rfl) rfl rfl hl.1 rfl (lv_room (Nat.le_of_ble_eq_true rfl)) dX11_mendedBy_49 ⟨(Nat.le_of_ble_eq_true rfl), (Nat.le_of_ble_eq_true rfl)⟩) hw hA (fun r33 S32 H locs hpost hw => ?_)
  obtain ⟨hr_, hS_⟩ := hpost
  subst hr_
  subst hS_
  have hm9 := mend_b (ws := ws) (by omega) huj1 huj hsj h320 hV19 hV29 hgg30
  exact (p_iret C hw ⟨V29, congrArg nI hm9.1, hP27, hT31, hm9.2⟩ hr hlocks dX11_mendedBy_52)

theorem hdg_X11_ofStage0_V_0 : yX1_stageAt.cls = RX1 ∧ yX1_stageAt.cls ≠ "java/lang/invoke/MethodHandle" ∧ yX1_stageAt.cls ≠ "java/lang/invoke/VarHandle" ∧ (parseMethodDescriptor yX1_stageAt.desc).map (fun d => d.parameters.length) = some 1 := by decide +kernel
set_option maxHeartbeats 4000000 in
set_option maxRecDepth 100000 in
theorem g_X11_ofStage0 (l : Launch) (D : va_G) (cy : Nat → ClassId) (S : pS) (sz : Nat) {G T : Nat → Nat} {n : Nat} {ws : Nat → WV} {l1 l2 : va_E} {V : RV} (hP : Pic cy S G T n ws l1 l2 V) (j : Nat) (hj : j < n) : Met l yX11_ofStage (Cond.code yX11_ofStage cX11_ofStage 4 (some .int) :: lwU) ({ frames := 1, cells := 0, slots := 0, locals := 30 }) (pPc D cy S sz [.ref (G 0), .int (nI j), .int (nI 0)]) (pQi D cy S sz (fun r S' => r = nI (ws j).1 ∧ S = S')) 0 0 (pA S sz) := by
  refine Met.ofW (cc := cX11_ofStage) (maxL := 4) (ret := (some .int)) (by decide) rfl ?_
  intro p e s m args below meth c s₁ B hml hv
  obtain ⟨rfl, rfl, C, hw, hA, hr, hlocks⟩ := p_start B hml hv
  have hx := C.1
  have hb := C.2.1
  have hl := lv_entry ([.ref (G 0), .int (nI j), .int (nI 0)]) (n := 4) (Nat.le_of_ble_eq_true rfl)
  rw [lg_entry_eq]
  generalize (lg_sl ([.ref (G 0), .int (nI j), .int (nI 0)]) ++ List.replicate (4 - (lg_sl ([.ref (G 0), .int (nI j), .int (nI 0)])).length) Slot.unset).toArray = ls at hl ⊢
  have hl : lv_has ls 4 [(0, .ref (G 0)), (1, .int (nI j)), (2, .int (nI 0))] := hl
  have hin_RX11 : ∀ w ∈ u_ws RX11 TX11 8, w ∈ (Cond.code yX11_ofStage cX11_ofStage 4 (some .int) :: lwU) := fun w h => mU (sub_RX11 w h)
  have hn4 := hP.n4
  refine lv_aload_n hx hb dX11_ofStage_0 rfl (lv_at hl 0 rfl) ?_
  refine p_get C hw (ci := 10) (Cn := RX11) (T := TX11) (N := 8) (hP.mem (k := 0) (by omega)) hP.c0 rfl hin_RX11 0 (by decide) (mU mw_13) rfl rfl dX11_ofStage_1 ?_
  refine lv_iload_n hx hb dX11_ofStage_4 rfl (lv_at hl 1 rfl) ?_
  obtain ⟨lq1, elq1, flq1⟩ := hP.c2
  refine p_callq (va_runV (As := [.int (nI j)]) (rest := []) C.fix (c_X1_stageAt l D cy S s.heap.size (G 1) (G 2) n lq1 (nI j) (hP.mem (by omega)) hP.c1 (hP.mem (by omega)) elq1 hP.n4) (cwV 1 C.2.2.2.2.1 (gU_V mw_476 mw_124 mw_125 mw_12 sub_X1_stageAt) rfl rfl rfl hdg_X11_ofStage0_V_0 ⟨Nat.le_of_ble_eq_true rfl, Nat.le_of_ble_eq_true rfl⟩) (p_preV C hw (hP.mem (k := 1) (by omega)) hP.c1 rfl) rfl rfl hl.1 rfl (lv_room (Nat.le_of_ble_eq_true rfl)) dX11_ofStage_5 ⟨(Nat.le_of_ble_eq_true rfl), (Nat.le_of_ble_eq_true rfl)⟩) hw hA (fun r3 S2 H locs hpost hw => ?_)
  obtain ⟨hr_, hS_⟩ := hpost
  rw [stq_in (j := j) (by omega) (by omega), flq1 j (by omega)] at hr_
  subst hr_
  subst hS_
  refine lv_astore_n (lv' := [(3, .ref (T (2 * j))), (0, .ref (G 0)), (1, .int (nI j)), (2, .int (nI 0))]) hx hb dX11_ofStage_8 rfl hl (by decide) rfl (fun ls hl => ?_)
  refine lv_aload_n hx hb dX11_ofStage_9 rfl (lv_at hl 0 rfl) ?_
  refine lv_ifnonnull (tgt := 23) hx hb dX11_ofStage_10 (by decide) ?_
  refine lv_iload_n hx hb dX11_ofStage_23 rfl (lv_at hl 3 rfl) ?_
  refine lv_tableIn (tgt := 60) (off := 36) hx hb dX11_ofStage_24 (by decide) (by decide) (by decide) (by decide) ?_
  refine lv_aload_n hx hb dX11_ofStage_60 rfl (lv_at hl 0 rfl) ?_
  refine p_calli (v_kind C hw hl.1 hP (j := j) (by omega) mw_534 ⟨Nat.le_of_ble_eq_true rfl, Nat.le_of_ble_eq_true rfl⟩ ⟨(Nat.le_of_ble_eq_true rfl), (Nat.le_of_ble_eq_true rfl)⟩ (Nat.le_of_ble_eq_true rfl) dX11_ofStage_61) hw hA (fun r7 S6 H locs hpost hw => ?_)
  obtain ⟨hr_, hS_⟩ := hpost
  subst hr_
  subst hS_
  exact (p_iret C hw ⟨rfl, rfl⟩ hr hlocks dX11_ofStage_64)

theorem hdg_X11_ofStage1_V_0 : yX1_stageAt.cls = RX1 ∧ yX1_stageAt.cls ≠ "java/lang/invoke/MethodHandle" ∧ yX1_stageAt.cls ≠ "java/lang/invoke/VarHandle" ∧ (parseMethodDescriptor yX1_stageAt.desc).map (fun d => d.parameters.length) = some 1 := by decide +kernel
theorem hdg_X11_ofStage1_V_1 : yX4_at.cls = RX4 ∧ yX4_at.cls ≠ "java/lang/invoke/MethodHandle" ∧ yX4_at.cls ≠ "java/lang/invoke/VarHandle" ∧ (parseMethodDescriptor yX4_at.desc).map (fun d => d.parameters.length) = some 1 := by decide +kernel
theorem hdg_X11_ofStage1_V_2 : yX7_size.cls = RX7 ∧ yX7_size.cls ≠ "java/lang/invoke/MethodHandle" ∧ yX7_size.cls ≠ "java/lang/invoke/VarHandle" ∧ (parseMethodDescriptor yX7_size.desc).map (fun d => d.parameters.length) = some 0 := by decide +kernel
set_option maxHeartbeats 4000000 in
set_option maxRecDepth 100000 in
theorem g_X11_ofStage1 (l : Launch) (D : va_G) (cy : Nat → ClassId) (S : pS) (sz : Nat) {G T : Nat → Nat} {n : Nat} {ws : Nat → WV} {l1 l2 : va_E} {V : RV} (hP : Pic cy S G T n ws l1 l2 V) (j : Nat) (hj : j < n) : Met l yX11_ofStage (Cond.code yX11_ofStage cX11_ofStage 4 (some .int) :: lwU) ({ frames := 1, cells := 0, slots := 0, locals := 22 }) (pPc D cy S sz [.ref (G 0), .int (nI j), .int (nI 1)]) (pQi D cy S sz (fun r S' => r = nI (V.1 j) ∧ S = S')) 0 0 (pA S sz) := by
  refine Met.ofW (cc := cX11_ofStage) (maxL := 4) (ret := (some .int)) (by decide) rfl ?_
  intro p e s m args below meth c s₁ B hml hv
  obtain ⟨rfl, rfl, C, hw, hA, hr, hlocks⟩ := p_start B hml hv
  have hx := C.1
  have hb := C.2.1
  have hl := lv_entry ([.ref (G 0), .int (nI j), .int (nI 1)]) (n := 4) (Nat.le_of_ble_eq_true rfl)
  rw [lg_entry_eq]
  generalize (lg_sl ([.ref (G 0), .int (nI j), .int (nI 1)]) ++ List.replicate (4 - (lg_sl ([.ref (G 0), .int (nI j), .int (nI 1)])).length) Slot.unset).toArray = ls at hl ⊢
  have hl : lv_has ls 4 [(0, .ref (G 0)), (1, .int (nI j)), (2, .int (nI 1))] := hl
  have hin_RX11 : ∀ w ∈ u_ws RX11 TX11 8, w ∈ (Cond.code yX11_ofStage cX11_ofStage 4 (some .int) :: lwU) := fun w h => mU (sub_RX11 w h)
  have hn4 := hP.n4
  refine lv_aload_n hx hb dX11_ofStage_0 rfl (lv_at hl 0 rfl) ?_
  refine p_get C hw (ci := 10) (Cn := RX11) (T := TX11) (N := 8) (hP.mem (k := 0) (by omega)) hP.c0 rfl hin_RX11 0 (by decide) (mU mw_13) rfl rfl dX11_ofStage_1 ?_
  refine lv_iload_n hx hb dX11_ofStage_4 rfl (lv_at hl 1 rfl) ?_
  obtain ⟨lq1, elq1, flq1⟩ := hP.c2
  refine p_callq (va_runV (As := [.int (nI j)]) (rest := []) C.fix (c_X1_stageAt l D cy S s.heap.size (G 1) (G 2) n lq1 (nI j) (hP.mem (by omega)) hP.c1 (hP.mem (by omega)) elq1 hP.n4) (cwV 1 C.2.2.2.2.1 (gU_V mw_476 mw_124 mw_125 mw_12 sub_X1_stageAt) rfl rfl rfl hdg_X11_ofStage1_V_0 ⟨Nat.le_of_ble_eq_true rfl, Nat.le_of_ble_eq_true rfl⟩) (p_preV C hw (hP.mem (k := 1) (by omega)) hP.c1 rfl) rfl rfl hl.1 rfl (lv_room (Nat.le_of_ble_eq_true rfl)) dX11_ofStage_5 ⟨(Nat.le_of_ble_eq_true rfl), (Nat.le_of_ble_eq_true rfl)⟩) hw hA (fun r3 S2 H locs hpost hw => ?_)
  obtain ⟨hr_, hS_⟩ := hpost
  rw [stq_in (j := j) (by omega) (by omega), flq1 j (by omega)] at hr_
  subst hr_
  subst hS_
  refine lv_astore_n (lv' := [(3, .ref (T (2 * j))), (0, .ref (G 0)), (1, .int (nI j)), (2, .int (nI 1))]) hx hb dX11_ofStage_8 rfl hl (by decide) rfl (fun ls hl => ?_)
  refine lv_aload_n hx hb dX11_ofStage_9 rfl (lv_at hl 0 rfl) ?_
  refine lv_ifnonnull (tgt := 23) hx hb dX11_ofStage_10 (by decide) ?_
  refine lv_iload_n hx hb dX11_ofStage_23 rfl (lv_at hl 3 rfl) ?_
  refine lv_tableIn (tgt := 65) (off := 41) hx hb dX11_ofStage_24 (by decide) (by decide) (by decide) (by decide) ?_
  refine lv_aload_n hx hb dX11_ofStage_65 rfl (lv_at hl 1 rfl) ?_
  refine p_get C hw (ci := 10) (Cn := RX11) (T := TX11) (N := 8) (hP.mem (k := 0) (by omega)) hP.c0 rfl hin_RX11 4 (by decide) (mU mw_26) rfl rfl dX11_ofStage_66 ?_
  refine lv_iload_n hx hb dX11_ofStage_69 rfl (lv_at hl 2 rfl) ?_
  obtain ⟨rq6, erq6, frq6⟩ := hP.leq (L := 0) (by omega)
  refine p_callq (va_runV (As := [.int (nI j)]) (rest := []) C.fix (c_X4_at l D cy S H.size (G 9) (G (12 + 0)) (G (15 + 0)) j (G (21 + j)) rq6 (hP.mem (by omega)) (hP.lev (L := 0) (by omega)) (hP.mem (by omega)) erq6 (by omega) (frq6 j (by omega))) (cwV 1 C.2.2.2.2.1 (gU_V mw_111 mw_112 mw_113 mw_25 sub_X4_at) rfl rfl rfl hdg_X11_ofStage1_V_1 ⟨Nat.le_of_ble_eq_true rfl, Nat.le_of_ble_eq_true rfl⟩) (p_preV C hw (hP.mem (k := 9 + 0) (by omega)) (hP.lev (L := 0) (by omega)) rfl) rfl rfl hl.1 rfl (lv_room (Nat.le_of_ble_eq_true rfl)) dX11_ofStage_70 ⟨(Nat.le_of_ble_eq_true rfl), (Nat.le_of_ble_eq_true rfl)⟩) hw hA (fun r8 S7 H locs hpost hw => ?_)
  obtain ⟨hr_, hS_⟩ := hpost
  subst hr_
  subst hS_
  refine p_calli (va_runV (As := []) (rest := []) C.fix (c_X7_size l D cy S H.size (G (21 + j)) (G (37 + j)) (V.1 j) (hP.mem (by omega)) (hP.rh (r := j) (by omega))) (cwV 0 C.2.2.2.2.1 (gU_V mw_115 mw_116 mw_117 mw_21 sub_X7_size) rfl rfl rfl hdg_X11_ofStage1_V_2 ⟨Nat.le_of_ble_eq_true rfl, Nat.le_of_ble_eq_true rfl⟩) (p_preV C hw (hP.mem (k := 21 + j) (by omega)) (hP.rh (r := j) (by omega)) rfl) rfl rfl hl.1 rfl (lv_room (Nat.le_of_ble_eq_true rfl)) dX11_ofStage_73 ⟨(Nat.le_of_ble_eq_true rfl), (Nat.le_of_ble_eq_true rfl)⟩) hw hA (fun r12 S11 H locs hpost hw => ?_)
  obtain ⟨hr_, hS_⟩ := hpost
  subst hr_
  subst hS_
  exact (p_iret C hw ⟨rfl, rfl⟩ hr hlocks dX11_ofStage_76)

theorem hdg_X11_ofStage2_V_0 : yX1_stageAt.cls = RX1 ∧ yX1_stageAt.cls ≠ "java/lang/invoke/MethodHandle" ∧ yX1_stageAt.cls ≠ "java/lang/invoke/VarHandle" ∧ (parseMethodDescriptor yX1_stageAt.desc).map (fun d => d.parameters.length) = some 1 := by decide +kernel
theorem hdg_X11_ofStage2_V_1 : yX4_at.cls = RX4 ∧ yX4_at.cls ≠ "java/lang/invoke/MethodHandle" ∧ yX4_at.cls ≠ "java/lang/invoke/VarHandle" ∧ (parseMethodDescriptor yX4_at.desc).map (fun d => d.parameters.length) = some 1 := by decide +kernel
theorem hdg_X11_ofStage2_V_2 : yX7_size.cls = RX7 ∧ yX7_size.cls ≠ "java/lang/invoke/MethodHandle" ∧ yX7_size.cls ≠ "java/lang/invoke/VarHandle" ∧ (parseMethodDescriptor yX7_size.desc).map (fun d => d.parameters.length) = some 0 := by decide +kernel
set_option maxHeartbeats 4000000 in
set_option maxRecDepth 100000 in
theorem g_X11_ofStage2 (l : Launch) (D : va_G) (cy : Nat → ClassId) (S : pS) (sz : Nat) {G T : Nat → Nat} {n : Nat} {ws : Nat → WV} {l1 l2 : va_E} {V : RV} (hP : Pic cy S G T n ws l1 l2 V) (j : Nat) (hj : j < n) : Met l yX11_ofStage (Cond.code yX11_ofStage cX11_ofStage 4 (some .int) :: lwU) ({ frames := 1, cells := 0, slots := 0, locals := 22 }) (pPc D cy S sz [.ref (G 0), .int (nI j), .int (nI 2)]) (pQi D cy S sz (fun r S' => r = nI (V.1 (j + 1)) ∧ S = S')) 0 0 (pA S sz) := by
  refine Met.ofW (cc := cX11_ofStage) (maxL := 4) (ret := (some .int)) (by decide) rfl ?_
  intro p e s m args below meth c s₁ B hml hv
  obtain ⟨rfl, rfl, C, hw, hA, hr, hlocks⟩ := p_start B hml hv
  have hx := C.1
  have hb := C.2.1
  have hl := lv_entry ([.ref (G 0), .int (nI j), .int (nI 2)]) (n := 4) (Nat.le_of_ble_eq_true rfl)
  rw [lg_entry_eq]
  generalize (lg_sl ([.ref (G 0), .int (nI j), .int (nI 2)]) ++ List.replicate (4 - (lg_sl ([.ref (G 0), .int (nI j), .int (nI 2)])).length) Slot.unset).toArray = ls at hl ⊢
  have hl : lv_has ls 4 [(0, .ref (G 0)), (1, .int (nI j)), (2, .int (nI 2))] := hl
  have hin_RX11 : ∀ w ∈ u_ws RX11 TX11 8, w ∈ (Cond.code yX11_ofStage cX11_ofStage 4 (some .int) :: lwU) := fun w h => mU (sub_RX11 w h)
  have hn4 := hP.n4
  refine lv_aload_n hx hb dX11_ofStage_0 rfl (lv_at hl 0 rfl) ?_
  refine p_get C hw (ci := 10) (Cn := RX11) (T := TX11) (N := 8) (hP.mem (k := 0) (by omega)) hP.c0 rfl hin_RX11 0 (by decide) (mU mw_13) rfl rfl dX11_ofStage_1 ?_
  refine lv_iload_n hx hb dX11_ofStage_4 rfl (lv_at hl 1 rfl) ?_
  obtain ⟨lq1, elq1, flq1⟩ := hP.c2
  refine p_callq (va_runV (As := [.int (nI j)]) (rest := []) C.fix (c_X1_stageAt l D cy S s.heap.size (G 1) (G 2) n lq1 (nI j) (hP.mem (by omega)) hP.c1 (hP.mem (by omega)) elq1 hP.n4) (cwV 1 C.2.2.2.2.1 (gU_V mw_476 mw_124 mw_125 mw_12 sub_X1_stageAt) rfl rfl rfl hdg_X11_ofStage2_V_0 ⟨Nat.le_of_ble_eq_true rfl, Nat.le_of_ble_eq_true rfl⟩) (p_preV C hw (hP.mem (k := 1) (by omega)) hP.c1 rfl) rfl rfl hl.1 rfl (lv_room (Nat.le_of_ble_eq_true rfl)) dX11_ofStage_5 ⟨(Nat.le_of_ble_eq_true rfl), (Nat.le_of_ble_eq_true rfl)⟩) hw hA (fun r3 S2 H locs hpost hw => ?_)
  obtain ⟨hr_, hS_⟩ := hpost
  rw [stq_in (j := j) (by omega) (by omega), flq1 j (by omega)] at hr_
  subst hr_
  subst hS_
  refine lv_astore_n (lv' := [(3, .ref (T (2 * j))), (0, .ref (G 0)), (1, .int (nI j)), (2, .int (nI 2))]) hx hb dX11_ofStage_8 rfl hl (by decide) rfl (fun ls hl => ?_)
  refine lv_aload_n hx hb dX11_ofStage_9 rfl (lv_at hl 0 rfl) ?_
  refine lv_ifnonnull (tgt := 23) hx hb dX11_ofStage_10 (by decide) ?_
  refine lv_iload_n hx hb dX11_ofStage_23 rfl (lv_at hl 3 rfl) ?_
  refine lv_tableIn (tgt := 77) (off := 53) hx hb dX11_ofStage_24 (by decide) (by decide) (by decide) (by decide) ?_
  refine lv_aload_n hx hb dX11_ofStage_77 rfl (lv_at hl 1 rfl) ?_
  refine p_get C hw (ci := 10) (Cn := RX11) (T := TX11) (N := 8) (hP.mem (k := 0) (by omega)) hP.c0 rfl hin_RX11 4 (by decide) (mU mw_26) rfl rfl dX11_ofStage_78 ?_
  refine lv_iload_n hx hb dX11_ofStage_81 rfl (lv_at hl 2 rfl) ?_
  refine lv_iconst (v := nI 1) hx hb dX11_ofStage_82 (by decide) ?_
  refine n_iadd hx hb dX11_ofStage_83 ?_
  obtain ⟨rq6, erq6, frq6⟩ := hP.leq (L := 0) (by omega)
  refine p_callq (va_runV (As := [.int (nI (j + 1))]) (rest := []) C.fix (c_X4_at l D cy S H.size (G 9) (G (12 + 0)) (G (15 + 0)) (j + 1) (G (21 + (j + 1))) rq6 (hP.mem (by omega)) (hP.lev (L := 0) (by omega)) (hP.mem (by omega)) erq6 (by omega) (frq6 (j + 1) (by omega))) (cwV 1 C.2.2.2.2.1 (gU_V mw_111 mw_112 mw_113 mw_25 sub_X4_at) rfl rfl rfl hdg_X11_ofStage2_V_1 ⟨Nat.le_of_ble_eq_true rfl, Nat.le_of_ble_eq_true rfl⟩) (p_preV C hw (hP.mem (k := 9 + 0) (by omega)) (hP.lev (L := 0) (by omega)) rfl) rfl rfl hl.1 rfl (lv_room (Nat.le_of_ble_eq_true rfl)) dX11_ofStage_84 ⟨(Nat.le_of_ble_eq_true rfl), (Nat.le_of_ble_eq_true rfl)⟩) hw hA (fun r8 S7 H locs hpost hw => ?_)
  obtain ⟨hr_, hS_⟩ := hpost
  subst hr_
  subst hS_
  refine p_calli (va_runV (As := []) (rest := []) C.fix (c_X7_size l D cy S H.size (G (21 + (j + 1))) (G (37 + (j + 1))) (V.1 (j + 1)) (hP.mem (by omega)) (hP.rh (r := (j + 1)) (by omega))) (cwV 0 C.2.2.2.2.1 (gU_V mw_115 mw_116 mw_117 mw_21 sub_X7_size) rfl rfl rfl hdg_X11_ofStage2_V_2 ⟨Nat.le_of_ble_eq_true rfl, Nat.le_of_ble_eq_true rfl⟩) (p_preV C hw (hP.mem (k := 21 + (j + 1)) (by omega)) (hP.rh (r := (j + 1)) (by omega)) rfl) rfl rfl hl.1 rfl (lv_room (Nat.le_of_ble_eq_true rfl)) dX11_ofStage_87 ⟨(Nat.le_of_ble_eq_true rfl), (Nat.le_of_ble_eq_true rfl)⟩) hw hA (fun r12 S11 H locs hpost hw => ?_)
  obtain ⟨hr_, hS_⟩ := hpost
  subst hr_
  subst hS_
  exact (p_iret C hw ⟨rfl, rfl⟩ hr hlocks dX11_ofStage_90)

theorem hdg_X11_ofStage3_V_0 : yX1_stageAt.cls = RX1 ∧ yX1_stageAt.cls ≠ "java/lang/invoke/MethodHandle" ∧ yX1_stageAt.cls ≠ "java/lang/invoke/VarHandle" ∧ (parseMethodDescriptor yX1_stageAt.desc).map (fun d => d.parameters.length) = some 1 := by decide +kernel
theorem hdg_X11_ofStage3_V_1 : yX11_mendedBy.cls = RX11 ∧ yX11_mendedBy.cls ≠ "java/lang/invoke/MethodHandle" ∧ yX11_mendedBy.cls ≠ "java/lang/invoke/VarHandle" ∧ (parseMethodDescriptor yX11_mendedBy.desc).map (fun d => d.parameters.length) = some 2 := by decide +kernel
set_option maxHeartbeats 4000000 in
set_option maxRecDepth 100000 in
theorem g_X11_ofStage3 (l : Launch) (D : va_G) (cy : Nat → ClassId) (S : pS) (sz : Nat) {G T : Nat → Nat} {n : Nat} {ws : Nat → WV} {l1 l2 : va_E} {V : RV} (hP : Pic cy S G T n ws l1 l2 V) (j : Nat) (hj : j < n) (hs : ∀ j, j < n → V.1 (j + 1) = sSize (ws j) (V.1 j)) (hu : ∀ j, j ≤ n → V.1 (j + 5) = V.1 j) : Met l yX11_ofStage (Cond.code yX11_ofStage cX11_ofStage 4 (some .int) :: lwU) ({ frames := 4, cells := 0, slots := 0, locals := 96 }) (pPc D cy S sz [.ref (G 0), .int (nI j), .int (nI 3)]) (pQi D cy S sz (fun r S' => ∃ V', r = nI (mnd ws V j) ∧ Pic cy S' G T n ws l1 l2 V' ∧ Frm G S S' ∧ Kp V V')) 0 0 (pA S sz) := by
  refine Met.ofW (cc := cX11_ofStage) (maxL := 4) (ret := (some .int)) (by decide) rfl ?_
  intro p e s m args below meth c s₁ B hml hv
  obtain ⟨rfl, rfl, C, hw, hA, hr, hlocks⟩ := p_start B hml hv
  have hx := C.1
  have hb := C.2.1
  have hl := lv_entry ([.ref (G 0), .int (nI j), .int (nI 3)]) (n := 4) (Nat.le_of_ble_eq_true rfl)
  rw [lg_entry_eq]
  generalize (lg_sl ([.ref (G 0), .int (nI j), .int (nI 3)]) ++ List.replicate (4 - (lg_sl ([.ref (G 0), .int (nI j), .int (nI 3)])).length) Slot.unset).toArray = ls at hl ⊢
  have hl : lv_has ls 4 [(0, .ref (G 0)), (1, .int (nI j)), (2, .int (nI 3))] := hl
  have hin_RX11 : ∀ w ∈ u_ws RX11 TX11 8, w ∈ (Cond.code yX11_ofStage cX11_ofStage 4 (some .int) :: lwU) := fun w h => mU (sub_RX11 w h)
  have hn4 := hP.n4
  refine lv_aload_n hx hb dX11_ofStage_0 rfl (lv_at hl 0 rfl) ?_
  refine p_get C hw (ci := 10) (Cn := RX11) (T := TX11) (N := 8) (hP.mem (k := 0) (by omega)) hP.c0 rfl hin_RX11 0 (by decide) (mU mw_13) rfl rfl dX11_ofStage_1 ?_
  refine lv_iload_n hx hb dX11_ofStage_4 rfl (lv_at hl 1 rfl) ?_
  obtain ⟨lq1, elq1, flq1⟩ := hP.c2
  refine p_callq (va_runV (As := [.int (nI j)]) (rest := []) C.fix (c_X1_stageAt l D cy S s.heap.size (G 1) (G 2) n lq1 (nI j) (hP.mem (by omega)) hP.c1 (hP.mem (by omega)) elq1 hP.n4) (cwV 1 C.2.2.2.2.1 (gU_V mw_476 mw_124 mw_125 mw_12 sub_X1_stageAt) rfl rfl rfl hdg_X11_ofStage3_V_0 ⟨Nat.le_of_ble_eq_true rfl, Nat.le_of_ble_eq_true rfl⟩) (p_preV C hw (hP.mem (k := 1) (by omega)) hP.c1 rfl) rfl rfl hl.1 rfl (lv_room (Nat.le_of_ble_eq_true rfl)) dX11_ofStage_5 ⟨(Nat.le_of_ble_eq_true rfl), (Nat.le_of_ble_eq_true rfl)⟩) hw hA (fun r3 S2 H locs hpost hw => ?_)
  obtain ⟨hr_, hS_⟩ := hpost
  rw [stq_in (j := j) (by omega) (by omega), flq1 j (by omega)] at hr_
  subst hr_
  subst hS_
  refine lv_astore_n (lv' := [(3, .ref (T (2 * j))), (0, .ref (G 0)), (1, .int (nI j)), (2, .int (nI 3))]) hx hb dX11_ofStage_8 rfl hl (by decide) rfl (fun ls hl => ?_)
  refine lv_aload_n hx hb dX11_ofStage_9 rfl (lv_at hl 0 rfl) ?_
  refine lv_ifnonnull (tgt := 23) hx hb dX11_ofStage_10 (by decide) ?_
  refine lv_iload_n hx hb dX11_ofStage_23 rfl (lv_at hl 3 rfl) ?_
  refine lv_tableIn (tgt := 91) (off := 67) hx hb dX11_ofStage_24 (by decide) (by decide) (by decide) (by decide) ?_
  refine lv_aload_n hx hb dX11_ofStage_91 rfl (lv_at hl 1 rfl) ?_
  refine lv_aload_n hx hb dX11_ofStage_92 rfl (lv_at hl 0 rfl) ?_
  refine lv_iload_n hx hb dX11_ofStage_93 rfl (lv_at hl 2 rfl) ?_
  refine p_calli (va_runV (As := [.ref (T (2 * j)), .int (nI j)]) (rest := []) C.fix (g_X11_mendedBy l D cy S H.size hP j hj hs hu) (cwV 2 C.2.2.2.2.1 (gU_V mw_551 mw_552 mw_553 mw_2 (subU mw_554)) rfl rfl rfl hdg_X11_ofStage3_V_1 ⟨Nat.le_of_ble_eq_true rfl, Nat.le_of_ble_eq_true rfl⟩) (p_preV C hw (hP.mem (k := 0) (by omega)) hP.c0 rfl) rfl rfl hl.1 rfl (lv_room (Nat.le_of_ble_eq_true rfl)) dX11_ofStage_94 ⟨(Nat.le_of_ble_eq_true rfl), (Nat.le_of_ble_eq_true rfl)⟩) hw hA (fun r7 S6 H locs hpost hw => ?_)
  obtain ⟨V10, hr_, hP8, hF9, hK11⟩ := hpost
  subst hr_
  exact (p_iret C hw ⟨V10, rfl, hP8, hF9, hK11⟩ hr hlocks dX11_ofStage_97)

theorem hdg_X11_ofStage4_V_0 : yX1_stageAt.cls = RX1 ∧ yX1_stageAt.cls ≠ "java/lang/invoke/MethodHandle" ∧ yX1_stageAt.cls ≠ "java/lang/invoke/VarHandle" ∧ (parseMethodDescriptor yX1_stageAt.desc).map (fun d => d.parameters.length) = some 1 := by decide +kernel
theorem hdg_X11_ofStage4_V_1 : yX4_at.cls = RX4 ∧ yX4_at.cls ≠ "java/lang/invoke/MethodHandle" ∧ yX4_at.cls ≠ "java/lang/invoke/VarHandle" ∧ (parseMethodDescriptor yX4_at.desc).map (fun d => d.parameters.length) = some 1 := by decide +kernel
set_option maxHeartbeats 4000000 in
set_option maxRecDepth 100000 in
theorem g_X11_ofStage4 (l : Launch) (D : va_G) (cy : Nat → ClassId) (S : pS) (sz : Nat) {G T : Nat → Nat} {n : Nat} {ws : Nat → WV} {l1 l2 : va_E} {V : RV} (hP : Pic cy S G T n ws l1 l2 V) (j : Nat) (hj : j < n) : Met l yX11_ofStage (Cond.code yX11_ofStage cX11_ofStage 4 (some .int) :: lwU) ({ frames := 4, cells := 0, slots := 0, locals := 100 }) (pPc D cy S sz [.ref (G 0), .int (nI j), .int (nI 4)]) (pQi D cy S sz (fun r S' => r = nI (damN ws V j) ∧ S = S')) 0 0 (pA S sz) := by
  refine Met.ofW (cc := cX11_ofStage) (maxL := 4) (ret := (some .int)) (by decide) rfl ?_
  intro p e s m args below meth c s₁ B hml hv
  obtain ⟨rfl, rfl, C, hw, hA, hr, hlocks⟩ := p_start B hml hv
  have hx := C.1
  have hb := C.2.1
  have hl := lv_entry ([.ref (G 0), .int (nI j), .int (nI 4)]) (n := 4) (Nat.le_of_ble_eq_true rfl)
  rw [lg_entry_eq]
  generalize (lg_sl ([.ref (G 0), .int (nI j), .int (nI 4)]) ++ List.replicate (4 - (lg_sl ([.ref (G 0), .int (nI j), .int (nI 4)])).length) Slot.unset).toArray = ls at hl ⊢
  have hl : lv_has ls 4 [(0, .ref (G 0)), (1, .int (nI j)), (2, .int (nI 4))] := hl
  have hin_RX11 : ∀ w ∈ u_ws RX11 TX11 8, w ∈ (Cond.code yX11_ofStage cX11_ofStage 4 (some .int) :: lwU) := fun w h => mU (sub_RX11 w h)
  have hn4 := hP.n4
  refine lv_aload_n hx hb dX11_ofStage_0 rfl (lv_at hl 0 rfl) ?_
  refine p_get C hw (ci := 10) (Cn := RX11) (T := TX11) (N := 8) (hP.mem (k := 0) (by omega)) hP.c0 rfl hin_RX11 0 (by decide) (mU mw_13) rfl rfl dX11_ofStage_1 ?_
  refine lv_iload_n hx hb dX11_ofStage_4 rfl (lv_at hl 1 rfl) ?_
  obtain ⟨lq1, elq1, flq1⟩ := hP.c2
  refine p_callq (va_runV (As := [.int (nI j)]) (rest := []) C.fix (c_X1_stageAt l D cy S s.heap.size (G 1) (G 2) n lq1 (nI j) (hP.mem (by omega)) hP.c1 (hP.mem (by omega)) elq1 hP.n4) (cwV 1 C.2.2.2.2.1 (gU_V mw_476 mw_124 mw_125 mw_12 sub_X1_stageAt) rfl rfl rfl hdg_X11_ofStage4_V_0 ⟨Nat.le_of_ble_eq_true rfl, Nat.le_of_ble_eq_true rfl⟩) (p_preV C hw (hP.mem (k := 1) (by omega)) hP.c1 rfl) rfl rfl hl.1 rfl (lv_room (Nat.le_of_ble_eq_true rfl)) dX11_ofStage_5 ⟨(Nat.le_of_ble_eq_true rfl), (Nat.le_of_ble_eq_true rfl)⟩) hw hA (fun r3 S2 H locs hpost hw => ?_)
  obtain ⟨hr_, hS_⟩ := hpost
  rw [stq_in (j := j) (by omega) (by omega), flq1 j (by omega)] at hr_
  subst hr_
  subst hS_
  refine lv_astore_n (lv' := [(3, .ref (T (2 * j))), (0, .ref (G 0)), (1, .int (nI j)), (2, .int (nI 4))]) hx hb dX11_ofStage_8 rfl hl (by decide) rfl (fun ls hl => ?_)
  refine lv_aload_n hx hb dX11_ofStage_9 rfl (lv_at hl 0 rfl) ?_
  refine lv_ifnonnull (tgt := 23) hx hb dX11_ofStage_10 (by decide) ?_
  refine lv_iload_n hx hb dX11_ofStage_23 rfl (lv_at hl 3 rfl) ?_
  refine lv_tableIn (tgt := 98) (off := 74) hx hb dX11_ofStage_24 (by decide) (by decide) (by decide) (by decide) ?_
  refine lv_aload_n hx hb dX11_ofStage_98 rfl (lv_at hl 0 rfl) ?_
  refine lv_aload_n hx hb dX11_ofStage_99 rfl (lv_at hl 1 rfl) ?_
  refine p_get C hw (ci := 10) (Cn := RX11) (T := TX11) (N := 8) (hP.mem (k := 0) (by omega)) hP.c0 rfl hin_RX11 5 (by decide) (mU mw_27) rfl rfl dX11_ofStage_100 ?_
  refine lv_iload_n hx hb dX11_ofStage_103 rfl (lv_at hl 2 rfl) ?_
  refine lv_iconst (v := nI 1) hx hb dX11_ofStage_104 (by decide) ?_
  refine n_iadd hx hb dX11_ofStage_105 ?_
  obtain ⟨rq6, erq6, frq6⟩ := hP.leq (L := 1) (by omega)
  refine p_callq (va_runV (As := [.int (nI (j + 1))]) (rest := [.ref (T (2 * j))]) C.fix (c_X4_at l D cy S H.size (G 10) (G (12 + 1)) (G (15 + 1)) (j + 1) (G (21 + (j + 1 + 5))) rq6 (hP.mem (by omega)) (hP.lev (L := 1) (by omega)) (hP.mem (by omega)) erq6 (by omega) (frq6 (j + 1) (by omega))) (cwV 1 C.2.2.2.2.1 (gU_V mw_111 mw_112 mw_113 mw_25 sub_X4_at) rfl rfl rfl hdg_X11_ofStage4_V_1 ⟨Nat.le_of_ble_eq_true rfl, Nat.le_of_ble_eq_true rfl⟩) (p_preV C hw (hP.mem (k := 9 + 1) (by omega)) (hP.lev (L := 1) (by omega)) rfl) rfl rfl hl.1 rfl (lv_room (Nat.le_of_ble_eq_true rfl)) dX11_ofStage_106 ⟨(Nat.le_of_ble_eq_true rfl), (Nat.le_of_ble_eq_true rfl)⟩) hw hA (fun r8 S7 H locs hpost hw => ?_)
  obtain ⟨hr_, hS_⟩ := hpost
  subst hr_
  subst hS_
  refine p_calli (v_damagedIn C hw hl.1 hP (j := j) (by omega) (r1 := (j + 1 + 5)) (by omega) mw_556 ⟨Nat.le_of_ble_eq_true rfl, Nat.le_of_ble_eq_true rfl⟩ ⟨(Nat.le_of_ble_eq_true rfl), (Nat.le_of_ble_eq_true rfl)⟩ (Nat.le_of_ble_eq_true rfl) dX11_ofStage_109) hw hA (fun r12 S11 H locs hpost hw => ?_)
  obtain ⟨hr_, hS_⟩ := hpost
  subst hr_
  subst hS_
  exact (p_iret C hw ⟨rfl, rfl⟩ hr hlocks dX11_ofStage_112)

theorem hdg_X11_distance_V_0 : yX1_stageAt.cls = RX1 ∧ yX1_stageAt.cls ≠ "java/lang/invoke/MethodHandle" ∧ yX1_stageAt.cls ≠ "java/lang/invoke/VarHandle" ∧ (parseMethodDescriptor yX1_stageAt.desc).map (fun d => d.parameters.length) = some 1 := by decide +kernel
set_option maxHeartbeats 4000000 in
set_option maxRecDepth 100000 in
theorem g_X11_distance (l : Launch) (D : va_G) (cy : Nat → ClassId) (S : pS) (sz : Nat) {G T : Nat → Nat} {n : Nat} {ws : Nat → WV} {l1 l2 : va_E} {V : RV} (hP : Pic cy S G T n ws l1 l2 V) (j : Nat) (hj : j < n) : Met l yX11_distance (Cond.code yX11_distance cX11_distance 3 (some .int) :: lwU) ({ frames := 4, cells := 0, slots := 0, locals := 100 }) (pPc D cy S sz [.ref (G 0), .int (nI j)]) (pQi D cy S sz (fun r S' => r = nI (sApart (ws j)) ∧ Pic cy S' G T n ws l1 l2 V ∧ Frm G S S')) 0 0 (pA S sz) := by
  refine Met.ofW (cc := cX11_distance) (maxL := 3) (ret := (some .int)) (by decide) rfl ?_
  intro p e s m args below meth c s₁ B hml hv
  obtain ⟨rfl, rfl, C, hw, hA, hr, hlocks⟩ := p_start B hml hv
  have hx := C.1
  have hb := C.2.1
  have hl := lv_entry ([.ref (G 0), .int (nI j)]) (n := 3) (Nat.le_of_ble_eq_true rfl)
  rw [lg_entry_eq]
  generalize (lg_sl ([.ref (G 0), .int (nI j)]) ++ List.replicate (3 - (lg_sl ([.ref (G 0), .int (nI j)])).length) Slot.unset).toArray = ls at hl ⊢
  have hl : lv_has ls 3 [(0, .ref (G 0)), (1, .int (nI j))] := hl
  have hin_RX11 : ∀ w ∈ u_ws RX11 TX11 8, w ∈ (Cond.code yX11_distance cX11_distance 3 (some .int) :: lwU) := fun w h => mU (sub_RX11 w h)
  have hn4 := hP.n4
  refine lv_aload_n hx hb dX11_distance_0 rfl (lv_at hl 0 rfl) ?_
  refine p_get C hw (ci := 10) (Cn := RX11) (T := TX11) (N := 8) (hP.mem (k := 0) (by omega)) hP.c0 rfl hin_RX11 0 (by decide) (mU mw_13) rfl rfl dX11_distance_1 ?_
  refine lv_iload_n hx hb dX11_distance_4 rfl (lv_at hl 1 rfl) ?_
  obtain ⟨lq1, elq1, flq1⟩ := hP.c2
  refine p_callq (va_runV (As := [.int (nI j)]) (rest := []) C.fix (c_X1_stageAt l D cy S s.heap.size (G 1) (G 2) n lq1 (nI j) (hP.mem (by omega)) hP.c1 (hP.mem (by omega)) elq1 hP.n4) (cwV 1 C.2.2.2.2.1 (gU_V mw_476 mw_124 mw_125 mw_12 sub_X1_stageAt) rfl rfl rfl hdg_X11_distance_V_0 ⟨Nat.le_of_ble_eq_true rfl, Nat.le_of_ble_eq_true rfl⟩) (p_preV C hw (hP.mem (k := 1) (by omega)) hP.c1 rfl) rfl rfl hl.1 rfl (lv_room (Nat.le_of_ble_eq_true rfl)) dX11_distance_5 ⟨(Nat.le_of_ble_eq_true rfl), (Nat.le_of_ble_eq_true rfl)⟩) hw hA (fun r3 S2 H locs hpost hw => ?_)
  obtain ⟨hr_, hS_⟩ := hpost
  rw [stq_in (j := j) (by omega) (by omega), flq1 j (by omega)] at hr_
  subst hr_
  subst hS_
  refine lv_astore_n (lv' := [(2, .ref (T (2 * j))), (0, .ref (G 0)), (1, .int (nI j))]) hx hb dX11_distance_8 rfl hl (by decide) rfl (fun ls hl => ?_)
  refine lv_aload_n hx hb dX11_distance_9 rfl (lv_at hl 0 rfl) ?_
  refine lv_ifnonnull (tgt := 23) hx hb dX11_distance_10 (by decide) ?_
  refine lv_aload_n hx hb dX11_distance_23 rfl (lv_at hl 0 rfl) ?_
  refine p_calli (v_apart C hw hl.1 hP (j := j) (by omega) mw_477 ⟨Nat.le_of_ble_eq_true rfl, Nat.le_of_ble_eq_true rfl⟩ ⟨(Nat.le_of_ble_eq_true rfl), (Nat.le_of_ble_eq_true rfl)⟩ (Nat.le_of_ble_eq_true rfl) dX11_distance_24) hw hA (fun r7 S6 H locs hpost hw => ?_)
  obtain ⟨hr_, hP8, hF9⟩ := hpost
  subst hr_
  exact (p_iret C hw ⟨rfl, hP8, hF9⟩ hr hlocks dX11_distance_27)

theorem hdg_X11_words_V_0 : yX1_stageAt.cls = RX1 ∧ yX1_stageAt.cls ≠ "java/lang/invoke/MethodHandle" ∧ yX1_stageAt.cls ≠ "java/lang/invoke/VarHandle" ∧ (parseMethodDescriptor yX1_stageAt.desc).map (fun d => d.parameters.length) = some 1 := by decide +kernel
set_option maxHeartbeats 4000000 in
set_option maxRecDepth 100000 in
theorem g_X11_words (l : Launch) (D : va_G) (cy : Nat → ClassId) (S : pS) (sz : Nat) {G T : Nat → Nat} {n : Nat} {ws : Nat → WV} {l1 l2 : va_E} {V : RV} (hP : Pic cy S G T n ws l1 l2 V) (j o : Nat) (hj : j < n) (ho : o ≤ 10) (hk1 : (ws j).1 = 1) : Met l yX11_words (Cond.code yX11_words cX11_words 4 (some .int) :: lwU) ({ frames := 4, cells := 0, slots := 0, locals := 100 }) (pPc D cy S sz [.ref (G 0), .int (nI j), .int (nI o)]) (pQi D cy S sz (fun r S' => r = nI (sWrd (ws j) o) ∧ S = S')) 0 0 (pA S sz) := by
  refine Met.ofW (cc := cX11_words) (maxL := 4) (ret := (some .int)) (by decide) rfl ?_
  intro p e s m args below meth c s₁ B hml hv
  obtain ⟨rfl, rfl, C, hw, hA, hr, hlocks⟩ := p_start B hml hv
  have hx := C.1
  have hb := C.2.1
  have hl := lv_entry ([.ref (G 0), .int (nI j), .int (nI o)]) (n := 4) (Nat.le_of_ble_eq_true rfl)
  rw [lg_entry_eq]
  generalize (lg_sl ([.ref (G 0), .int (nI j), .int (nI o)]) ++ List.replicate (4 - (lg_sl ([.ref (G 0), .int (nI j), .int (nI o)])).length) Slot.unset).toArray = ls at hl ⊢
  have hl : lv_has ls 4 [(0, .ref (G 0)), (1, .int (nI j)), (2, .int (nI o))] := hl
  have hin_RX11 : ∀ w ∈ u_ws RX11 TX11 8, w ∈ (Cond.code yX11_words cX11_words 4 (some .int) :: lwU) := fun w h => mU (sub_RX11 w h)
  have hn4 := hP.n4
  refine lv_aload_n hx hb dX11_words_0 rfl (lv_at hl 0 rfl) ?_
  refine p_get C hw (ci := 10) (Cn := RX11) (T := TX11) (N := 8) (hP.mem (k := 0) (by omega)) hP.c0 rfl hin_RX11 0 (by decide) (mU mw_13) rfl rfl dX11_words_1 ?_
  refine lv_iload_n hx hb dX11_words_4 rfl (lv_at hl 1 rfl) ?_
  obtain ⟨lq1, elq1, flq1⟩ := hP.c2
  refine p_callq (va_runV (As := [.int (nI j)]) (rest := []) C.fix (c_X1_stageAt l D cy S s.heap.size (G 1) (G 2) n lq1 (nI j) (hP.mem (by omega)) hP.c1 (hP.mem (by omega)) elq1 hP.n4) (cwV 1 C.2.2.2.2.1 (gU_V mw_476 mw_124 mw_125 mw_12 sub_X1_stageAt) rfl rfl rfl hdg_X11_words_V_0 ⟨Nat.le_of_ble_eq_true rfl, Nat.le_of_ble_eq_true rfl⟩) (p_preV C hw (hP.mem (k := 1) (by omega)) hP.c1 rfl) rfl rfl hl.1 rfl (lv_room (Nat.le_of_ble_eq_true rfl)) dX11_words_5 ⟨(Nat.le_of_ble_eq_true rfl), (Nat.le_of_ble_eq_true rfl)⟩) hw hA (fun r3 S2 H locs hpost hw => ?_)
  obtain ⟨hr_, hS_⟩ := hpost
  rw [stq_in (j := j) (by omega) (by omega), flq1 j (by omega)] at hr_
  subst hr_
  subst hS_
  refine lv_astore_n (lv' := [(3, .ref (T (2 * j))), (0, .ref (G 0)), (1, .int (nI j)), (2, .int (nI o))]) hx hb dX11_words_8 rfl hl (by decide) rfl (fun ls hl => ?_)
  refine lv_aload_n hx hb dX11_words_9 rfl (lv_at hl 0 rfl) ?_
  refine lv_ifnonnull (tgt := 23) hx hb dX11_words_10 (by decide) ?_
  refine lv_aload_n hx hb dX11_words_23 rfl (lv_at hl 0 rfl) ?_
  refine p_calli (v_kind C hw hl.1 hP (j := j) (by omega) mw_534 ⟨Nat.le_of_ble_eq_true rfl, Nat.le_of_ble_eq_true rfl⟩ ⟨(Nat.le_of_ble_eq_true rfl), (Nat.le_of_ble_eq_true rfl)⟩ (Nat.le_of_ble_eq_true rfl) dX11_words_24) hw hA (fun r7 S6 H locs hpost hw => ?_)
  obtain ⟨hr_, hS_⟩ := hpost
  subst hr_
  subst hS_
  refine lv_iconst (v := nI 1) hx hb dX11_words_27 (by decide) ?_
  refine n_icmp_eq (tgt := 41) hx hb (by rw [hk1]; decide) (by decide) dX11_words_28 (by decide) (fun h_28 => ?_) (fun h_28 => ?_)
  · skip
    refine lv_iload_n hx hb dX11_words_41 rfl (lv_at hl 3 rfl) ?_
    refine n_if_lt (tgt := 51) hx hb (by omega) dX11_words_42 (by decide) ?_
    refine lv_iload_n hx hb dX11_words_45 rfl (lv_at hl 3 rfl) ?_
    refine lv_bipush (v := nI 10) hx hb dX11_words_46 (by decide) ?_
    refine n_icmp_le (tgt := 61) hx hb (by omega) (by omega) dX11_words_48 (by decide) (fun h_48 => ?_) (fun h_48 => ?_)
    · skip
      refine lv_aload_n hx hb dX11_words_61 rfl (lv_at hl 0 rfl) ?_
      refine lv_iload_n hx hb dX11_words_62 rfl (lv_at hl 3 rfl) ?_
      refine p_calli (v_wordsWith C hw hl.1 hP (j := j) (by omega) (o := o) (by omega) mw_577 ⟨Nat.le_of_ble_eq_true rfl, Nat.le_of_ble_eq_true rfl⟩ ⟨(Nat.le_of_ble_eq_true rfl), (Nat.le_of_ble_eq_true rfl)⟩ (Nat.le_of_ble_eq_true rfl) dX11_words_63) hw hA (fun r11 S10 H locs hpost hw => ?_)
      obtain ⟨hr_, hS_⟩ := hpost
      subst hr_
      subst hS_
      exact (p_iret C hw ⟨rfl, rfl⟩ hr hlocks dX11_words_66)
    · omega
  · exact absurd hk1 h_28

theorem hdg_X11_errorsWith_V_0 : yX11_last.cls = RX11 ∧ yX11_last.cls ≠ "java/lang/invoke/MethodHandle" ∧ yX11_last.cls ≠ "java/lang/invoke/VarHandle" ∧ (parseMethodDescriptor yX11_last.desc).map (fun d => d.parameters.length) = some 1 := by decide +kernel
theorem hdg_X11_errorsWith_V_1 : yX7_size.cls = RX7 ∧ yX7_size.cls ≠ "java/lang/invoke/MethodHandle" ∧ yX7_size.cls ≠ "java/lang/invoke/VarHandle" ∧ (parseMethodDescriptor yX7_size.desc).map (fun d => d.parameters.length) = some 0 := by decide +kernel
theorem hdg_X11_errorsWith_V_2 : yX11_errorsTurned.cls = RX11 ∧ yX11_errorsTurned.cls ≠ "java/lang/invoke/MethodHandle" ∧ yX11_errorsTurned.cls ≠ "java/lang/invoke/VarHandle" ∧ (parseMethodDescriptor yX11_errorsTurned.desc).map (fun d => d.parameters.length) = some 1 := by decide +kernel
set_option maxHeartbeats 4000000 in
set_option maxRecDepth 100000 in
theorem g_X11_errorsWith (l : Launch) (D : va_G) (cy : Nat → ClassId) (S : pS) (sz : Nat) {G T : Nat → Nat} {n : Nat} {ws : Nat → WV} {l1 l2 : va_E} {V : RV} (hP : Pic cy S G T n ws l1 l2 V) (pp : Nat) (hp : pp < V.1 n) (hs : ∀ j, j < n → V.1 (j + 1) = sSize (ws j) (V.1 j)) (hu : ∀ j, j ≤ n → V.1 (j + 5) = V.1 j) : Met l yX11_errorsWith (Cond.code yX11_errorsWith cX11_errorsWith 2 (some .int) :: lwU) ({ frames := 6, cells := 0, slots := 0, locals := 146 }) (pPc D cy S sz [.ref (G 0), .int (nI pp)]) (pQi D cy S sz (fun r S' => ∃ V', r = nI (eOf ws n V (rturn (V.2 (n + 5)) (V.1 n) pp)) ∧ Pic cy S' G T n ws l1 l2 V' ∧ Frm G S S' ∧ Kp V V')) 0 0 (pA S sz) := by
  refine Met.ofW (cc := cX11_errorsWith) (maxL := 2) (ret := (some .int)) (by decide) rfl ?_
  intro p e s m args below meth c s₁ B hml hv
  obtain ⟨rfl, rfl, C, hw, hA, hr, hlocks⟩ := p_start B hml hv
  have hx := C.1
  have hb := C.2.1
  have hl := lv_entry ([.ref (G 0), .int (nI pp)]) (n := 2) (Nat.le_of_ble_eq_true rfl)
  rw [lg_entry_eq]
  generalize (lg_sl ([.ref (G 0), .int (nI pp)]) ++ List.replicate (2 - (lg_sl ([.ref (G 0), .int (nI pp)])).length) Slot.unset).toArray = ls at hl ⊢
  have hl : lv_has ls 2 [(0, .ref (G 0)), (1, .int (nI pp))] := hl
  have hin_RX11 : ∀ w ∈ u_ws RX11 TX11 8, w ∈ (Cond.code yX11_errorsWith cX11_errorsWith 2 (some .int) :: lwU) := fun w h => mU (sub_RX11 w h)
  have hn4 := hP.n4
  have h320 := hP.r320 (r := n) (by omega)
  refine lv_iload_n hx hb dX11_errorsWith_0 rfl (lv_at hl 1 rfl) ?_
  refine n_if_lt (tgt := 19) hx hb (by omega) dX11_errorsWith_1 (by decide) ?_
  refine lv_iload_n hx hb dX11_errorsWith_4 rfl (lv_at hl 1 rfl) ?_
  refine lv_aload_n hx hb dX11_errorsWith_5 rfl (lv_at hl 0 rfl) ?_
  refine lv_aload_n hx hb dX11_errorsWith_6 rfl (lv_at hl 0 rfl) ?_
  refine p_get C hw (ci := 10) (Cn := RX11) (T := TX11) (N := 8) (hP.mem (k := 0) (by omega)) hP.c0 rfl hin_RX11 4 (by decide) (mU mw_26) rfl rfl dX11_errorsWith_7 ?_
  refine p_callq (va_runV (As := [.ref (G 9)]) (rest := [.int (nI pp)]) C.fix (g_X11_last0 l D cy S s.heap.size hP) (cwV 1 C.2.2.2.2.1 (gU_V mw_241 mw_242 mw_243 mw_2 (subU mw_244)) rfl rfl rfl hdg_X11_errorsWith_V_0 ⟨Nat.le_of_ble_eq_true rfl, Nat.le_of_ble_eq_true rfl⟩) (p_preV C hw (hP.mem (k := 0) (by omega)) hP.c0 rfl) rfl rfl hl.1 rfl (lv_room (Nat.le_of_ble_eq_true rfl)) dX11_errorsWith_10 ⟨(Nat.le_of_ble_eq_true rfl), (Nat.le_of_ble_eq_true rfl)⟩) hw hA (fun r2 S1 H locs hpost hw => ?_)
  obtain ⟨hr_, hS_⟩ := hpost
  subst hr_
  subst hS_
  refine p_calli (va_runV (As := []) (rest := [.int (nI pp)]) C.fix (c_X7_size l D cy S H.size (G (21 + n)) (G (37 + n)) (V.1 n) (hP.mem (by omega)) (hP.rh (r := n) (by omega))) (cwV 0 C.2.2.2.2.1 (gU_V mw_115 mw_116 mw_117 mw_21 sub_X7_size) rfl rfl rfl hdg_X11_errorsWith_V_1 ⟨Nat.le_of_ble_eq_true rfl, Nat.le_of_ble_eq_true rfl⟩) (p_preV C hw (hP.mem (k := 21 + n) (by omega)) (hP.rh (r := n) (by omega)) rfl) rfl rfl hl.1 rfl (lv_room (Nat.le_of_ble_eq_true rfl)) dX11_errorsWith_13 ⟨(Nat.le_of_ble_eq_true rfl), (Nat.le_of_ble_eq_true rfl)⟩) hw hA (fun r6 S5 H locs hpost hw => ?_)
  obtain ⟨hr_, hS_⟩ := hpost
  subst hr_
  subst hS_
  refine n_icmp_lt (tgt := 29) hx hb (by omega) (by omega) dX11_errorsWith_16 (by decide) (fun h_16 => ?_) (fun h_16 => ?_)
  · skip
    refine lv_aload_n hx hb dX11_errorsWith_29 rfl (lv_at hl 0 rfl) ?_
    refine lv_iload_n hx hb dX11_errorsWith_30 rfl (lv_at hl 1 rfl) ?_
    refine p_calli (va_runV (As := [.int (nI pp)]) (rest := []) C.fix (g_X11_errorsTurned l D cy S H.size hP pp (by omega) hs (hu n (Nat.le_refl _))) (cwV 1 C.2.2.2.2.1 (gU_V mw_603 mw_604 mw_605 mw_2 (subU mw_606)) rfl rfl rfl hdg_X11_errorsWith_V_2 ⟨Nat.le_of_ble_eq_true rfl, Nat.le_of_ble_eq_true rfl⟩) (p_preV C hw (hP.mem (k := 0) (by omega)) hP.c0 rfl) rfl rfl hl.1 rfl (lv_room (Nat.le_of_ble_eq_true rfl)) dX11_errorsWith_31 ⟨(Nat.le_of_ble_eq_true rfl), (Nat.le_of_ble_eq_true rfl)⟩) hw hA (fun r10 S9 H locs hpost hw => ?_)
    obtain ⟨V13, hr_, hP11, hF12, hK14⟩ := hpost
    subst hr_
    exact (p_iret C hw ⟨V13, rfl, hP11, hF12, hK14⟩ hr hlocks dX11_errorsWith_34)
  · exact absurd h_16 (by first | decide | omega)

theorem hdg_X11_weak_V_0 : yX11_errorsIn.cls = RX11 ∧ yX11_errorsIn.cls ≠ "java/lang/invoke/MethodHandle" ∧ yX11_errorsIn.cls ≠ "java/lang/invoke/VarHandle" ∧ (parseMethodDescriptor yX11_errorsIn.desc).map (fun d => d.parameters.length) = some 1 := by decide +kernel
theorem hdg_X11_weak_V_1 : yX11_last.cls = RX11 ∧ yX11_last.cls ≠ "java/lang/invoke/MethodHandle" ∧ yX11_last.cls ≠ "java/lang/invoke/VarHandle" ∧ (parseMethodDescriptor yX11_last.desc).map (fun d => d.parameters.length) = some 1 := by decide +kernel
theorem hdg_X11_weak_V_2 : yX7_size.cls = RX7 ∧ yX7_size.cls ≠ "java/lang/invoke/MethodHandle" ∧ yX7_size.cls ≠ "java/lang/invoke/VarHandle" ∧ (parseMethodDescriptor yX7_size.desc).map (fun d => d.parameters.length) = some 0 := by decide +kernel
theorem hdg_X11_weak_V_3 : yX11_errorsTurned.cls = RX11 ∧ yX11_errorsTurned.cls ≠ "java/lang/invoke/MethodHandle" ∧ yX11_errorsTurned.cls ≠ "java/lang/invoke/VarHandle" ∧ (parseMethodDescriptor yX11_errorsTurned.desc).map (fun d => d.parameters.length) = some 1 := by decide +kernel
set_option maxHeartbeats 4000000 in
set_option maxRecDepth 100000 in
theorem g_X11_weak (l : Launch) (D : va_G) (cy : Nat → ClassId) (S : pS) (sz : Nat) {G T : Nat → Nat} {n : Nat} {ws : Nat → WV} {l1 l2 : va_E} {V : RV} (hP : Pic cy S G T n ws l1 l2 V) (hs : ∀ j, j < n → V.1 (j + 1) = sSize (ws j) (V.1 j)) (hu : ∀ j, j ≤ n → V.1 (j + 5) = V.1 j) : Met l yX11_weak (Cond.code yX11_weak cX11_weak 5 (some .int) :: lwU) ({ frames := 6, cells := 0, slots := 0, locals := 146 }) (pPc D cy S sz [.ref (G 0)]) (pQi D cy S sz (fun r S' => ∃ V', r = nI (weakN ws n V) ∧ Pic cy S' G T n ws l1 l2 V' ∧ Frm G S S' ∧ Kp V V')) 0 0 (pA S sz) := by
  refine Met.ofW (cc := cX11_weak) (maxL := 5) (ret := (some .int)) (by decide) rfl ?_
  intro p e s m args below meth c s₁ B hml hv
  obtain ⟨rfl, rfl, C, hw, hA, hr, hlocks⟩ := p_start B hml hv
  have hx := C.1
  have hb := C.2.1
  have hl := lv_entry ([.ref (G 0)]) (n := 5) (Nat.le_of_ble_eq_true rfl)
  rw [lg_entry_eq]
  generalize (lg_sl ([.ref (G 0)]) ++ List.replicate (5 - (lg_sl ([.ref (G 0)])).length) Slot.unset).toArray = ls at hl ⊢
  have hl : lv_has ls 5 [(0, .ref (G 0))] := hl
  have hin_RX11 : ∀ w ∈ u_ws RX11 TX11 8, w ∈ (Cond.code yX11_weak cX11_weak 5 (some .int) :: lwU) := fun w h => mU (sub_RX11 w h)
  have hn4 := hP.n4
  have h320 := hP.r320 (r := n) (by omega)
  have h3200 := hP.r320 (r := 0) (by omega)
  have hE9 : errN V ≤ V.1 0 := cnt_le _ _
  refine lv_aload_n hx hb dX11_weak_0 rfl (lv_at hl 0 rfl) ?_
  refine lv_aload_n hx hb dX11_weak_1 rfl (lv_at hl 0 rfl) ?_
  refine p_get C hw (ci := 10) (Cn := RX11) (T := TX11) (N := 8) (hP.mem (k := 0) (by omega)) hP.c0 rfl hin_RX11 5 (by decide) (mU mw_27) rfl rfl dX11_weak_2 ?_
  refine p_calli (va_runV (As := [.ref (G 10)]) (rest := []) C.fix (g_X11_errorsIn1 l D cy S s.heap.size hP) (cwV 1 C.2.2.2.2.1 (gU_V mw_522 mw_523 mw_524 mw_2 (subU mw_525)) rfl rfl rfl hdg_X11_weak_V_0 ⟨Nat.le_of_ble_eq_true rfl, Nat.le_of_ble_eq_true rfl⟩) (p_preV C hw (hP.mem (k := 0) (by omega)) hP.c0 rfl) rfl rfl hl.1 rfl (lv_room (Nat.le_of_ble_eq_true rfl)) dX11_weak_5 ⟨(Nat.le_of_ble_eq_true rfl), (Nat.le_of_ble_eq_true rfl)⟩) hw hA (fun r2 S1 H locs hpost hw => ?_)
  obtain ⟨hr_, hS_⟩ := hpost
  subst hr_
  subst hS_
  refine lv_istore_n (lv' := [(1, .int (nI (cnt (isOther (V.2 0) (V.1 0) (V.2 5) (V.1 5)) (V.1 0)))), (0, .ref (G 0))]) hx hb dX11_weak_8 rfl hl (by decide) rfl (fun ls hl => ?_)
  refine lv_aload_n hx hb dX11_weak_9 rfl (lv_at hl 1 rfl) ?_
  refine lv_aload_n hx hb dX11_weak_10 rfl (lv_at hl 1 rfl) ?_
  refine p_get C hw (ci := 10) (Cn := RX11) (T := TX11) (N := 8) (hP.mem (k := 0) (by omega)) hP.c0 rfl hin_RX11 4 (by decide) (mU mw_26) rfl rfl dX11_weak_11 ?_
  refine p_callq (va_runV (As := [.ref (G 9)]) (rest := []) C.fix (g_X11_last0 l D cy S H.size hP) (cwV 1 C.2.2.2.2.1 (gU_V mw_241 mw_242 mw_243 mw_2 (subU mw_244)) rfl rfl rfl hdg_X11_weak_V_1 ⟨Nat.le_of_ble_eq_true rfl, Nat.le_of_ble_eq_true rfl⟩) (p_preV C hw (hP.mem (k := 0) (by omega)) hP.c0 rfl) rfl rfl hl.1 rfl (lv_room (Nat.le_of_ble_eq_true rfl)) dX11_weak_14 ⟨(Nat.le_of_ble_eq_true rfl), (Nat.le_of_ble_eq_true rfl)⟩) hw hA (fun r6 S5 H locs hpost hw => ?_)
  obtain ⟨hr_, hS_⟩ := hpost
  subst hr_
  subst hS_
  refine p_calli (va_runV (As := []) (rest := []) C.fix (c_X7_size l D cy S H.size (G (21 + n)) (G (37 + n)) (V.1 n) (hP.mem (by omega)) (hP.rh (r := n) (by omega))) (cwV 0 C.2.2.2.2.1 (gU_V mw_115 mw_116 mw_117 mw_21 sub_X7_size) rfl rfl rfl hdg_X11_weak_V_2 ⟨Nat.le_of_ble_eq_true rfl, Nat.le_of_ble_eq_true rfl⟩) (p_preV C hw (hP.mem (k := 21 + n) (by omega)) (hP.rh (r := n) (by omega)) rfl) rfl rfl hl.1 rfl (lv_room (Nat.le_of_ble_eq_true rfl)) dX11_weak_17 ⟨(Nat.le_of_ble_eq_true rfl), (Nat.le_of_ble_eq_true rfl)⟩) hw hA (fun r10 S9 H locs hpost hw => ?_)
  obtain ⟨hr_, hS_⟩ := hpost
  subst hr_
  subst hS_
  refine lv_istore_n (lv' := [(2, .int (nI (V.1 n))), (1, .int (nI (cnt (isOther (V.2 0) (V.1 0) (V.2 5) (V.1 5)) (V.1 0)))), (0, .ref (G 0))]) hx hb dX11_weak_20 rfl hl (by decide) rfl (fun ls hl => ?_)
  refine lv_iconst (v := nI 0) hx hb dX11_weak_21 (by decide) ?_
  refine lv_istore_n (lv' := [(3, .int (nI 0)), (2, .int (nI (V.1 n))), (1, .int (nI (cnt (isOther (V.2 0) (V.1 0) (V.2 5) (V.1 5)) (V.1 0)))), (0, .ref (G 0))]) hx hb dX11_weak_22 rfl hl (by decide) rfl (fun ls hl => ?_)
  refine lv_iconst (v := nI 0) hx hb dX11_weak_23 (by decide) ?_
  refine lv_istore (lv' := [(4, .int (nI 0)), (3, .int (nI 0)), (2, .int (nI (V.1 n))), (1, .int (nI (cnt (isOther (V.2 0) (V.1 0) (V.2 5) (V.1 5)) (V.1 0)))), (0, .ref (G 0))]) hx hb dX11_weak_24 hl (by decide) rfl (fun ls hl => ?_)
  have loop26_13 : ∀ (kf : Nat) (i : Nat), V.1 n - i < kf → ∀ (Sx14 : pS) (Vx15 : RV) (H : Heap) (locs : List Loc) (ls : Array Slot), Pic cy Sx14 G T n ws l1 l2 Vx15 → Frm G S Sx14 → (i ≤ V.1 n) → (Kp V Vx15) → pW D (pA S s.heap.size) s.heap Sx14 H locs → lv_has ls 5 [(4, .int (nI i)), (3, .int (nI (cnt (fun p => decide (errN V < eOf ws n V (rturn (V.2 (n + 5)) (V.1 n) p))) i))), (2, .int (nI (V.1 n))), (1, .int (nI (cnt (isOther (V.2 0) (V.1 0) (V.2 5) (V.1 5)) (V.1 0)))), (0, .ref (G 0))] → W p l e (headSpec (Cond.code yX11_weak cX11_weak 5 (some .int) :: lwU) ({ frames := 6, cells := 0, slots := 0, locals := 146 } : Room)).room s m ([.ref (G 0)]).toArray below meth c H locs 0 0 (MQ below (pQi D cy S s.heap.size (fun r S' => ∃ V', r = nI (weakN ws n V) ∧ Pic cy S' G T n ws l1 l2 V' ∧ Frm G S S' ∧ Kp V V')) ([.ref (G 0)]).toArray s 0 0 (pA S s.heap.size)) (F0 m 26 ls []) := by
    intro kf
    induction kf with
    | zero => intro i hm; exact absurd hm (Nat.not_lt_zero _)
    | succ kf ihloop26_13 =>
      intro i hm Sx14 Vx15 H locs ls hP16 hF17 hi hk hw hl
      refine lv_iload hx hb dX11_weak_26 (lv_at hl 0 rfl) ?_
      refine lv_iload_n hx hb dX11_weak_28 rfl (lv_at hl 2 rfl) ?_
      refine n_icmp_ge (tgt := 51) hx hb (by omega) (by omega) dX11_weak_29 (by decide) (fun h_29 => ?_) (fun h_29 => ?_)
      · skip
        refine lv_iload_n hx hb dX11_weak_51 rfl (lv_at hl 1 rfl) ?_
        exact (p_iret C hw ⟨Vx15, (by rw [show weakN ws n V = cnt (fun p => decide (errN V < eOf ws n V (rturn (V.2 (n + 5)) (V.1 n) p))) (V.1 n) from rfl, show V.1 n = i from by omega]), hP16, hF17, hk⟩ hr hlocks dX11_weak_52)
      · skip
        refine lv_aload_n hx hb dX11_weak_32 rfl (lv_at hl 4 rfl) ?_
        refine lv_iload hx hb dX11_weak_33 (lv_at hl 0 rfl) ?_
        refine p_calli (va_runV (As := [.int (nI i)]) (rest := []) C.fix (g_X11_errorsTurned l D cy Sx14 H.size hP16 i (by omega) (fun j hj => by rw [(hk (j + 1) (by omega)).1, (hk j (by omega)).1]; exact hs j hj) (by rw [(hk (n + 5) (by omega)).1, (hk n (by omega)).1]; exact hu n (Nat.le_refl _))) (cwV 1 C.2.2.2.2.1 (gU_V mw_603 mw_604 mw_605 mw_2 (subU mw_606)) rfl rfl rfl hdg_X11_weak_V_3 ⟨Nat.le_of_ble_eq_true rfl, Nat.le_of_ble_eq_true rfl⟩) (p_preV C hw (hP16.mem (k := 0) (by omega)) hP16.c0 rfl) rfl rfl hl.1 rfl (lv_room (Nat.le_of_ble_eq_true rfl)) dX11_weak_35 ⟨(Nat.le_of_ble_eq_true rfl), (Nat.le_of_ble_eq_true rfl)⟩) hw hA (fun r19 S18 H locs hpost hw => ?_)
        obtain ⟨V22, hr_, hP20, hF21, hK23⟩ := hpost
        rw [show eOf ws n Vx15 (rturn (Vx15.2 (n + 5)) (Vx15.1 n) i) = eOf ws n V (rturn (V.2 (n + 5)) (V.1 n) i) from by rw [(hk (n + 5) (by omega)).2, (hk n (by omega)).1]; exact (eOf_c hP hs hk (fun _ _ => rfl)).symm] at hr_
        subst hr_
        have hT24 := hF17.trans hF21
        have hle9 := eOf_le ws n V (rturn (V.2 (n + 5)) (V.1 n) i)
        refine lv_iload_n hx hb dX11_weak_38 rfl (lv_at hl 3 rfl) ?_
        refine n_icmp_le (tgt := 45) hx hb (by omega) (by show errN V < _; omega) dX11_weak_39 (by decide) (fun h_39 => ?_) (fun h_39 => ?_)
        · skip
          rw [← cnt_f (f := fun p => decide (errN V < eOf ws n V (rturn (V.2 (n + 5)) (V.1 n) p))) (k := i) (decide_eq_false (Nat.not_lt.mpr h_39))] at hl
          refine lv_iinc (v := (nI (i + 1))) (lv' := [(4, .int (nI (i + 1))), (3, .int (nI (cnt (fun p => decide (errN V < eOf ws n V (rturn (V.2 (n + 5)) (V.1 n) p))) (i + 1)))), (2, .int (nI (V.1 n))), (1, .int (nI (cnt (isOther (V.2 0) (V.1 0) (V.2 5) (V.1 5)) (V.1 0)))), (0, .ref (G 0))]) hx hb dX11_weak_45 hl (k := 0) rfl (by rw [show Int32.ofInt 1 = nI 1 from by decide, nI_add]) (by decide) rfl (fun ls hl => ?_)
          refine lv_goto (tgt := 26) hx hb dX11_weak_48 (by decide) ?_
          exact ihloop26_13 (i + 1) (by omega) S18 V22 H locs ls hP20 hT24 (by omega) (hk.trans hK23) hw (lv_sub hl [0, 1, 2, 3, 4] rfl)
        · skip
          refine lv_iinc (v := (nI (cnt (fun p => decide (errN V < eOf ws n V (rturn (V.2 (n + 5)) (V.1 n) p))) (i + 1)))) (lv' := [(3, .int (nI (cnt (fun p => decide (errN V < eOf ws n V (rturn (V.2 (n + 5)) (V.1 n) p))) (i + 1)))), (4, .int (nI i)), (2, .int (nI (V.1 n))), (1, .int (nI (cnt (isOther (V.2 0) (V.1 0) (V.2 5) (V.1 5)) (V.1 0)))), (0, .ref (G 0))]) hx hb dX11_weak_42 hl (k := 1) rfl (by rw [show Int32.ofInt 1 = nI 1 from by decide, nI_add, ← cnt_t (f := fun p => decide (errN V < eOf ws n V (rturn (V.2 (n + 5)) (V.1 n) p))) (k := i) (decide_eq_true h_39)]) (by decide) rfl (fun ls hl => ?_)
          refine lv_iinc (v := (nI (i + 1))) (lv' := [(4, .int (nI (i + 1))), (3, .int (nI (cnt (fun p => decide (errN V < eOf ws n V (rturn (V.2 (n + 5)) (V.1 n) p))) (i + 1)))), (2, .int (nI (V.1 n))), (1, .int (nI (cnt (isOther (V.2 0) (V.1 0) (V.2 5) (V.1 5)) (V.1 0)))), (0, .ref (G 0))]) hx hb dX11_weak_45 hl (k := 1) rfl (by rw [show Int32.ofInt 1 = nI 1 from by decide, nI_add]) (by decide) rfl (fun ls hl => ?_)
          refine lv_goto (tgt := 26) hx hb dX11_weak_48 (by decide) ?_
          exact ihloop26_13 (i + 1) (by omega) S18 V22 H locs ls hP20 hT24 (by omega) (hk.trans hK23) hw (lv_sub hl [0, 1, 2, 3, 4] rfl)
  exact loop26_13 (V.1 n - 0 + 1) 0 (by omega) S V H locs ls hP Frm.id (Nat.zero_le _) Kp.id hw (lv_sub hl [0, 1, 2, 3, 4] rfl)
