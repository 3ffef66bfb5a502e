theorem hq_app {S S1 : pS} {q a : Nat} {x : va_E} (e : S1 = pnew S a x) (h : q ∉ S.1) (hn : q ≠ a) : q ∉ S1.1 := by
  rw [e]; intro z; rcases List.mem_append.mp z with z | z
  · exact h z
  · exact hn (List.mem_singleton.mp z)
theorem hde_X11_init_S_0 : yX1_init.cls ≠ "java/lang/invoke/MethodHandle" ∧ yX1_init.cls ≠ "java/lang/invoke/VarHandle" ∧ (parseMethodDescriptor yX1_init.desc).map (fun d => d.parameters.length) = some 0 := by decide +kernel
theorem hde_X11_init_S_1 : yX5_init.cls ≠ "java/lang/invoke/MethodHandle" ∧ yX5_init.cls ≠ "java/lang/invoke/VarHandle" ∧ (parseMethodDescriptor yX5_init.desc).map (fun d => d.parameters.length) = some 0 := by decide +kernel
theorem hde_X11_init_V_2 : yX7_resize.cls = RX7 ∧ yX7_resize.cls ≠ "java/lang/invoke/MethodHandle" ∧ yX7_resize.cls ≠ "java/lang/invoke/VarHandle" ∧ (parseMethodDescriptor yX7_resize.desc).map (fun d => d.parameters.length) = some 1 := by decide +kernel
theorem hde_X11_init_S_3 : yX3_init.cls ≠ "java/lang/invoke/MethodHandle" ∧ yX3_init.cls ≠ "java/lang/invoke/VarHandle" ∧ (parseMethodDescriptor yX3_init.desc).map (fun d => d.parameters.length) = some 0 := by decide +kernel
set_option maxHeartbeats 4000000 in
set_option maxRecDepth 100000 in
/-- SoundingLine() -/
theorem e_X11_init (l : Launch) (D : va_G) (cy : Nat → ClassId) (S : pS) (sz : Nat) (x : Nat) (hL_x : x ∈ S.1) (hf_x : S.2 x = .inr (10, [.null, .null, .null, .null, .null, .null, .null, .null]))  : Met l yX11_init (Cond.code yX11_init cX11_init 1 none :: lwU) ({ frames := 3, cells := 52, slots := 4684, locals := 63 }) (pPc D cy S sz [.ref x]) (pQv D cy S sz (fun S' => ∃ (ch : Nat) (lk : Nat) (ln : Nat) (sl : Nat) (mk : Nat) (mb : Nat) (co : Nat) (col : Nat) (con : Nat) (com : Nat) (cor0 : Nat) (cob0 : Nat) (cor1 : Nat) (cob1 : Nat) (cor2 : Nat) (cob2 : Nat) (cor3 : Nat) (cob3 : Nat) (cor4 : Nat) (cob4 : Nat) (ca : Nat) (cal : Nat) (can : Nat) (cam : Nat) (car0 : Nat) (cab0 : Nat) (car1 : Nat) (cab1 : Nat) (car2 : Nat) (cab2 : Nat) (car3 : Nat) (cab3 : Nat) (car4 : Nat) (cab4 : Nat) (su : Nat) (sul : Nat) (sun : Nat) (sum : Nat) (sur0 : Nat) (sub0 : Nat) (sur1 : Nat) (sub1 : Nat) (sur2 : Nat) (sub2 : Nat) (sur3 : Nat) (sub3 : Nat) (sur4 : Nat) (sub4 : Nat) (lt : Nat) (lf : Nat) (lx : Nat) (lw : Nat), S'.1 = S.1 ++ [ch, lk, ln, sl, mk, mb, co, col, con, com, cor0, cob0, cor1, cob1, cor2, cob2, cor3, cob3, cor4, cob4, ca, cal, can, cam, car0, cab0, car1, cab1, car2, cab2, car3, cab3, car4, cab4, su, sul, sun, sum, sur0, sub0, sur1, sub1, sur2, sub2, sur3, sub3, sur4, sub4, lt, lf, lx, lw] ∧ (∀ a_, a_ ∈ S.1 → a_ ≠ x → S'.2 a_ = S.2 a_) ∧ S'.2 x = .inr (10, [.ref ch, .ref ln, .ref sl, .ref mk, .ref co, .ref ca, .ref su, .ref lt]) ∧ S'.2 ch = .inr (1, [.ref lk, .int (nI 0)]) ∧ S'.2 lk = aQ (cy 3) 4 (fun _ => none) ∧ S'.2 ln = .inr (5, [.int (nI 0), .int (nI 0), .int (nI 0), .int (nI 0)]) ∧ S'.2 sl = .inr (5, [.int (nI 0), .int (nI 0), .int (nI 0), .int (nI 0)]) ∧ S'.2 mk = .inr (7, [.ref mb, .int (nI 320)]) ∧ S'.2 mb = aN (cy 0) 320 (fun _ => 0) ∧ S'.2 co = .inr (4, [.ref col, .ref con]) ∧ S'.2 col = aQ (cy 2) 5 (va_up (va_up (va_up (va_up (va_up (fun _ => none) 0 (some cor0)) 1 (some cor1)) 2 (some cor2)) 3 (some cor3)) 4 (some cor4)) ∧ S'.2 con = .inr (7, [.ref com, .int (nI 0)]) ∧ S'.2 com = aN (cy 0) 0 (fun _ => 0) ∧ S'.2 cor0 = .inr (7, [.ref cob0, .int (nI 0)]) ∧ S'.2 cob0 = aN (cy 0) 32 (fun _ => 0) ∧ S'.2 cor1 = .inr (7, [.ref cob1, .int (nI 0)]) ∧ S'.2 cob1 = aN (cy 0) 320 (fun _ => 0) ∧ S'.2 cor2 = .inr (7, [.ref cob2, .int (nI 0)]) ∧ S'.2 cob2 = aN (cy 0) 320 (fun _ => 0) ∧ S'.2 cor3 = .inr (7, [.ref cob3, .int (nI 0)]) ∧ S'.2 cob3 = aN (cy 0) 320 (fun _ => 0) ∧ S'.2 cor4 = .inr (7, [.ref cob4, .int (nI 0)]) ∧ S'.2 cob4 = aN (cy 0) 320 (fun _ => 0) ∧ S'.2 ca = .inr (4, [.ref cal, .ref can]) ∧ S'.2 cal = aQ (cy 2) 5 (va_up (va_up (va_up (va_up (va_up (fun _ => none) 0 (some car0)) 1 (some car1)) 2 (some car2)) 3 (some car3)) 4 (some car4)) ∧ S'.2 can = .inr (7, [.ref cam, .int (nI 0)]) ∧ S'.2 cam = aN (cy 0) 0 (fun _ => 0) ∧ S'.2 car0 = .inr (7, [.ref cab0, .int (nI 0)]) ∧ S'.2 cab0 = aN (cy 0) 32 (fun _ => 0) ∧ S'.2 car1 = .inr (7, [.ref cab1, .int (nI 0)]) ∧ S'.2 cab1 = aN (cy 0) 320 (fun _ => 0) ∧ S'.2 car2 = .inr (7, [.ref cab2, .int (nI 0)]) ∧ S'.2 cab2 = aN (cy 0) 320 (fun _ => 0) ∧ S'.2 car3 = .inr (7, [.ref cab3, .int (nI 0)]) ∧ S'.2 cab3 = aN (cy 0) 320 (fun _ => 0) ∧ S'.2 car4 = .inr (7, [.ref cab4, .int (nI 0)]) ∧ S'.2 cab4 = aN (cy 0) 320 (fun _ => 0) ∧ S'.2 su = .inr (4, [.ref sul, .ref sun]) ∧ S'.2 sul = aQ (cy 2) 5 (va_up (va_up (va_up (va_up (va_up (fun _ => none) 0 (some sur0)) 1 (some sur1)) 2 (some sur2)) 3 (some sur3)) 4 (some sur4)) ∧ S'.2 sun = .inr (7, [.ref sum, .int (nI 0)]) ∧ S'.2 sum = aN (cy 0) 0 (fun _ => 0) ∧ S'.2 sur0 = .inr (7, [.ref sub0, .int (nI 0)]) ∧ S'.2 sub0 = aN (cy 0) 32 (fun _ => 0) ∧ S'.2 sur1 = .inr (7, [.ref sub1, .int (nI 0)]) ∧ S'.2 sub1 = aN (cy 0) 320 (fun _ => 0) ∧ S'.2 sur2 = .inr (7, [.ref sub2, .int (nI 0)]) ∧ S'.2 sub2 = aN (cy 0) 320 (fun _ => 0) ∧ S'.2 sur3 = .inr (7, [.ref sub3, .int (nI 0)]) ∧ S'.2 sub3 = aN (cy 0) 320 (fun _ => 0) ∧ S'.2 sur4 = .inr (7, [.ref sub4, .int (nI 0)]) ∧ S'.2 sub4 = aN (cy 0) 320 (fun _ => 0) ∧ S'.2 lt = .inr (3, [.ref lf, .ref lx, .ref lw]) ∧ S'.2 lf = aN (cy 0) 16 (fun _ => 0) ∧ S'.2 lx = aN (cy 0) 16 (fun _ => 0) ∧ S'.2 lw = aN (cy 0) 320 (fun _ => 0))) 52 4684 (pA S sz) := by
  refine Met.ofW (cc := cX11_init) (maxL := 1) (ret := none) (by decide) rfl ?_
  intro p e s m args below meth c s₁ B hml hv
  have hin : meth.name = "<init>" := (name_of_methodNamed B.named B.method).1
  obtain ⟨rfl, rfl, C, hw, hA, hr, hlocks⟩ := p_start B hml hv
  have hx := C.1
  have hb := C.2.1
  have hl := lv_entry ([.ref x]) (n := 1) (Nat.le_of_ble_eq_true rfl)
  rw [lg_entry_eq]
  generalize (lg_sl ([.ref x]) ++ List.replicate (1 - (lg_sl ([.ref x])).length) Slot.unset).toArray = ls at hl ⊢
  have hl : lv_has ls 1 [(0, .ref x)] := hl
  have hin_RX1 : ∀ w ∈ u_ws RX1 TX1 2, w ∈ (Cond.code yX11_init cX11_init 1 none :: lwU) := fun w h => mU (sub_RX1 w h)
  have hin_RX11 : ∀ w ∈ u_ws RX11 TX11 8, w ∈ (Cond.code yX11_init cX11_init 1 none :: lwU) := fun w h => mU (sub_RX11 w h)
  have hin_RX3 : ∀ w ∈ u_ws RX3 TX3 3, w ∈ (Cond.code yX11_init cX11_init 1 none :: lwU) := fun w h => mU (sub_RX3 w h)
  have hin_RX4 : ∀ w ∈ u_ws RX4 TX4 2, w ∈ (Cond.code yX11_init cX11_init 1 none :: lwU) := fun w h => mU (sub_RX4 w h)
  have hin_RX5 : ∀ w ∈ u_ws RX5 TX5 4, w ∈ (Cond.code yX11_init cX11_init 1 none :: lwU) := fun w h => mU (sub_RX5 w h)
  have hin_RX7 : ∀ w ∈ u_ws RX7 TX7 2, w ∈ (Cond.code yX11_init cX11_init 1 none :: lwU) := fun w h => mU (sub_RX7 w h)
  refine lv_aload_n hx hb dX11_init_0 rfl (lv_at hl 0 rfl) ?_
  refine W.objInit hx hb C.2.2.2.1 (C.2.2.2.2.1 (.methodLink RX11 1 objectInit) (mU mw_7)) (C.2.2.2.2.1 (.instanceMethod objectInit) (mU mw_8)) (C.2.2.2.2.1 _ (mU mw_9)) rfl (by rw [hml]; exact hl.1) rfl dX11_init_1 (Nat.le_of_ble_eq_true rfl) (Nat.le_of_ble_eq_true rfl) ?_
  refine W.eq (g2 := F0 m 4 ls []) rfl ?_
  refine lv_aload_n hx hb dX11_init_4 rfl (lv_at hl 0 rfl) ?_
  refine p_new C hw hA (ci := 1) (Cn := RX1) (T := TX1) (N := 2) (fs := [.null, .int (nI 0)]) tyX1 tyX1_ok rfl hin_RX1 (mU mw_10) (mU mw_11) (mU mw_12) (fun j hj => by rcases (show j = 0 ∨ j = 1 by omega) with rfl | rfl <;> rfl) (Nat.le_of_ble_eq_true rfl) (Nat.le_of_ble_eq_true rfl) dX11_init_5 (fun ch H hq_ch hw => ?_)
  obtain ⟨S1, hS1⟩ : ∃ z, z = pnew S ch (.inr (1, [.null, .int (nI 0)])) := ⟨_, rfl⟩
  replace hw : pW D (pA S s.heap.size) s.heap S1 H [] := by rw [hS1]; exact hw
  have hL2 : ch ∈ S1.1 := by rw [hS1]; exact List.mem_append_right _ List.mem_cons_self
  have hf3 : S1.2 ch = .inr (1, [.null, .int (nI 0)]) := by rw [hS1]; exact pnew_s
  refine lv_dup hx hb dX11_init_8 rfl ?_
  refine p_callv (va_runIN (As := []) (rest := [.ref ch, .ref x]) C.fix (c_X1_init l D cy S1 H.size ch 0 hL2 hf3) ⟨va_cnB 0 C.2.2.2.2.1 (gU_sub sub_X1_init) rfl rfl rfl (show va_Nw (.methodLinkNest RX11 9 yX1_init "SoundingLine") s from C.nst 0 (RX11, 9, yX1_init) rfl) (C.2.2.2.2.1 (.initialized RX1) (mU mw_12)) hde_X11_init_S_0 ⟨Nat.le_of_ble_eq_true rfl, Nat.le_of_ble_eq_true rfl⟩, rfl, C.2.2.2.2.1 (.instanceMethod yX1_init) (mU mw_33)⟩ (p_preS C hw) rfl rfl hl.1 rfl (lv_room (Nat.le_of_ble_eq_true rfl)) dX11_init_9 ⟨(Nat.le_of_ble_eq_true rfl), (Nat.le_of_ble_eq_true rfl)⟩) hw hA (fun S4 H locs hpost hw => ?_)
  obtain ⟨lk, hp6, hS_⟩ := hpost
  obtain ⟨S7, hS7⟩ : ∃ z, z = pnew S1 lk (aQ (cy 3) 4 (fun _ => none)) := ⟨_, rfl⟩
  rw [← hS7] at hS_
  have hL8 : lk ∈ S7.1 := by rw [hS7]; exact List.mem_append_right _ List.mem_cons_self
  have hf9 : S7.2 lk = aQ (cy 3) 4 (fun _ => none) := by rw [hS7]; exact pnew_s
  have hL10 : ch ∈ S7.1 := by rw [hS7]; exact List.mem_append_left _ hL2
  have hf11 : S7.2 ch = .inr (1, [.null, .int (nI 0)]) := by rw [hS7]; exact (pnew_n (fun z : ch = lk => hp6 (by rw [← z]; exact hL2))).trans hf3
  have hS12 := hS_
  have hL13 : ch ∈ S4.1 := by rw [hS12]; exact hL10
  have hf14 : S4.2 ch = .inr (1, [.ref lk, .int (nI 0)]) := by rw [hS12]; exact pup_s
  have hL15 : x ∈ S1.1 := by rw [hS1]; exact List.mem_append_left _ hL_x
  have hf16 : S1.2 x = .inr (10, [.null, .null, .null, .null, .null, .null, .null, .null]) := by rw [hS1]; exact (pnew_n (fun z : x = ch => hq_ch (by rw [← z]; exact hL_x))).trans hf_x
  have hL17 : x ∈ S7.1 := by rw [hS7]; exact List.mem_append_left _ hL15
  have hf18 : S7.2 x = .inr (10, [.null, .null, .null, .null, .null, .null, .null, .null]) := by rw [hS7]; exact (pnew_n (fun z : x = lk => hp6 (by rw [← z]; exact hL15))).trans hf16
  have hL19 : x ∈ S4.1 := by rw [hS12]; exact hL17
  have hf20 : S4.2 x = .inr (10, [.null, .null, .null, .null, .null, .null, .null, .null]) := by rw [hS12]; exact (pup_n (fun z : x = ch => hq_ch (by rw [← z]; exact hL_x))).trans hf18
  refine p_putF C hw (ci := 10) (Cn := RX11) (T := TX11) (N := 8) tyX11 tyX11_ok nmX11 hL19 hf20 rfl hin_RX11 0 (by decide) (mU mw_13) rfl rfl hin rfl rfl rfl rfl (by simp) dX11_init_12 rfl (fun H locs hw => ?_)
  obtain ⟨S21, hS21⟩ : ∃ z, z = pup S4 x (.inr (10, [.ref ch, .null, .null, .null, .null, .null, .null, .null])) := ⟨_, rfl⟩
  replace hw : pW D (pA S s.heap.size) s.heap S21 H locs := by rw [hS21]; exact hw
  have hL22 : x ∈ S21.1 := by rw [hS21]; exact hL19
  have hf23 : S21.2 x = .inr (10, [.ref ch, .null, .null, .null, .null, .null, .null, .null]) := by rw [hS21]; exact pup_s
  refine lv_aload_n hx hb dX11_init_15 rfl (lv_at hl 0 rfl) ?_
  refine p_new C hw hA (ci := 5) (Cn := RX5) (T := TX5) (N := 4) (fs := [.int (nI 0), .int (nI 0), .int (nI 0), .int (nI 0)]) tyX5 tyX5_ok rfl hin_RX5 (mU mw_14) (mU mw_15) (mU mw_16) (fun j hj => by rcases (show j = 0 ∨ j = 1 ∨ j = 2 ∨ j = 3 by omega) with rfl | rfl | rfl | rfl <;> rfl) (Nat.le_of_ble_eq_true rfl) (Nat.le_of_ble_eq_true rfl) dX11_init_16 (fun ln H hq_ln hw => ?_)
  obtain ⟨S24, hS24⟩ : ∃ z, z = pnew S21 ln (.inr (5, [.int (nI 0), .int (nI 0), .int (nI 0), .int (nI 0)])) := ⟨_, rfl⟩
  replace hw : pW D (pA S s.heap.size) s.heap S24 H locs := by rw [hS24]; exact hw
  have hL25 : ln ∈ S24.1 := by rw [hS24]; exact List.mem_append_right _ List.mem_cons_self
  have hf26 : S24.2 ln = .inr (5, [.int (nI 0), .int (nI 0), .int (nI 0), .int (nI 0)]) := by rw [hS24]; exact pnew_s
  refine lv_dup hx hb dX11_init_19 rfl ?_
  refine p_callv (va_runIN (As := []) (rest := [.ref ln, .ref x]) C.fix (c_X5_init l D cy S24 H.size ln (nI 0) (nI 0) (nI 0) (nI 0) hL25 hf26) ⟨va_cnB 0 C.2.2.2.2.1 (gU_sub sub_X5_init) rfl rfl rfl (show va_Nw (.methodLinkNest RX11 18 yX5_init "SoundingLine") s from C.nst 1 (RX11, 18, yX5_init) rfl) (C.2.2.2.2.1 (.initialized RX5) (mU mw_16)) hde_X11_init_S_1 ⟨Nat.le_of_ble_eq_true rfl, Nat.le_of_ble_eq_true rfl⟩, rfl, C.2.2.2.2.1 (.instanceMethod yX5_init) (mU mw_39)⟩ (p_preS C hw) rfl rfl hl.1 rfl (lv_room (Nat.le_of_ble_eq_true rfl)) dX11_init_20 ⟨(Nat.le_of_ble_eq_true rfl), (Nat.le_of_ble_eq_true rfl)⟩) hw hA (fun S27 H locs hpost hw => ?_)
  have hS_ := hpost
  rw [pup_self hf26] at hS_
  replace hS_ := hS_.symm
  subst hS_
  have hL29 : x ∈ S24.1 := by rw [hS24]; exact List.mem_append_left _ hL22
  have hf30 : S24.2 x = .inr (10, [.ref ch, .null, .null, .null, .null, .null, .null, .null]) := by rw [hS24]; exact (pnew_n (fun z : x = ln => hq_ln (by rw [← z]; exact hL22))).trans hf23
  refine p_putF C hw (ci := 10) (Cn := RX11) (T := TX11) (N := 8) tyX11 tyX11_ok nmX11 hL29 hf30 rfl hin_RX11 1 (by decide) (mU mw_17) rfl rfl hin rfl rfl rfl rfl (by simp) dX11_init_23 rfl (fun H locs hw => ?_)
  obtain ⟨S31, hS31⟩ : ∃ z, z = pup S24 x (.inr (10, [.ref ch, .ref ln, .null, .null, .null, .null, .null, .null])) := ⟨_, rfl⟩
  replace hw : pW D (pA S s.heap.size) s.heap S31 H locs := by rw [hS31]; exact hw
  have hL32 : x ∈ S31.1 := by rw [hS31]; exact hL29
  have hf33 : S31.2 x = .inr (10, [.ref ch, .ref ln, .null, .null, .null, .null, .null, .null]) := by rw [hS31]; exact pup_s
  refine lv_aload_n hx hb dX11_init_26 rfl (lv_at hl 0 rfl) ?_
  refine p_new C hw hA (ci := 5) (Cn := RX5) (T := TX5) (N := 4) (fs := [.int (nI 0), .int (nI 0), .int (nI 0), .int (nI 0)]) tyX5 tyX5_ok rfl hin_RX5 (mU mw_14) (mU mw_15) (mU mw_16) (fun j hj => by rcases (show j = 0 ∨ j = 1 ∨ j = 2 ∨ j = 3 by omega) with rfl | rfl | rfl | rfl <;> rfl) (Nat.le_of_ble_eq_true rfl) (Nat.le_of_ble_eq_true rfl) dX11_init_27 (fun sl H hq_sl hw => ?_)
  obtain ⟨S34, hS34⟩ : ∃ z, z = pnew S31 sl (.inr (5, [.int (nI 0), .int (nI 0), .int (nI 0), .int (nI 0)])) := ⟨_, rfl⟩
  replace hw : pW D (pA S s.heap.size) s.heap S34 H locs := by rw [hS34]; exact hw
  have hL35 : sl ∈ S34.1 := by rw [hS34]; exact List.mem_append_right _ List.mem_cons_self
  have hf36 : S34.2 sl = .inr (5, [.int (nI 0), .int (nI 0), .int (nI 0), .int (nI 0)]) := by rw [hS34]; exact pnew_s
  refine lv_dup hx hb dX11_init_30 rfl ?_
  refine p_callv (va_runIN (As := []) (rest := [.ref sl, .ref x]) C.fix (c_X5_init l D cy S34 H.size sl (nI 0) (nI 0) (nI 0) (nI 0) hL35 hf36) ⟨va_cnB 0 C.2.2.2.2.1 (gU_sub sub_X5_init) rfl rfl rfl (show va_Nw (.methodLinkNest RX11 18 yX5_init "SoundingLine") s from C.nst 1 (RX11, 18, yX5_init) rfl) (C.2.2.2.2.1 (.initialized RX5) (mU mw_16)) hde_X11_init_S_1 ⟨Nat.le_of_ble_eq_true rfl, Nat.le_of_ble_eq_true rfl⟩, rfl, C.2.2.2.2.1 (.instanceMethod yX5_init) (mU mw_39)⟩ (p_preS C hw) rfl rfl hl.1 rfl (lv_room (Nat.le_of_ble_eq_true rfl)) dX11_init_31 ⟨(Nat.le_of_ble_eq_true rfl), (Nat.le_of_ble_eq_true rfl)⟩) hw hA (fun S37 H locs hpost hw => ?_)
  have hS_ := hpost
  rw [pup_self hf36] at hS_
  replace hS_ := hS_.symm
  subst hS_
  have hL39 : x ∈ S34.1 := by rw [hS34]; exact List.mem_append_left _ hL32
  have hf40 : S34.2 x = .inr (10, [.ref ch, .ref ln, .null, .null, .null, .null, .null, .null]) := by rw [hS34]; exact (pnew_n (fun z : x = sl => hq_sl (by rw [← z]; exact hL32))).trans hf33
  refine p_putF C hw (ci := 10) (Cn := RX11) (T := TX11) (N := 8) tyX11 tyX11_ok nmX11 hL39 hf40 rfl hin_RX11 2 (by decide) (mU mw_18) rfl rfl hin rfl rfl rfl rfl (by simp) dX11_init_34 rfl (fun H locs hw => ?_)
  obtain ⟨S41, hS41⟩ : ∃ z, z = pup S34 x (.inr (10, [.ref ch, .ref ln, .ref sl, .null, .null, .null, .null, .null])) := ⟨_, rfl⟩
  replace hw : pW D (pA S s.heap.size) s.heap S41 H locs := by rw [hS41]; exact hw
  have hL42 : x ∈ S41.1 := by rw [hS41]; exact hL39
  have hf43 : S41.2 x = .inr (10, [.ref ch, .ref ln, .ref sl, .null, .null, .null, .null, .null]) := by rw [hS41]; exact pup_s
  refine lv_aload_n hx hb dX11_init_37 rfl (lv_at hl 0 rfl) ?_
  refine p_new C hw hA (ci := 7) (Cn := RX7) (T := TX7) (N := 2) (fs := [.null, .int (nI 0)]) tyX7 tyX7_ok rfl hin_RX7 (mU mw_19) (mU mw_20) (mU mw_21) (fun j hj => by rcases (show j = 0 ∨ j = 1 by omega) with rfl | rfl <;> rfl) (Nat.le_of_ble_eq_true rfl) (Nat.le_of_ble_eq_true rfl) dX11_init_38 (fun mk H hq_mk hw => ?_)
  obtain ⟨S44, hS44⟩ : ∃ z, z = pnew S41 mk (.inr (7, [.null, .int (nI 0)])) := ⟨_, rfl⟩
  replace hw : pW D (pA S s.heap.size) s.heap S44 H locs := by rw [hS44]; exact hw
  have hL45 : mk ∈ S44.1 := by rw [hS44]; exact List.mem_append_right _ List.mem_cons_self
  have hf46 : S44.2 mk = .inr (7, [.null, .int (nI 0)]) := by rw [hS44]; exact pnew_s
  refine lv_dup hx hb dX11_init_41 rfl ?_
  refine lv_sipush (v := nI 320) hx hb dX11_init_42 (by decide) ?_
  refine p_callv (va_runI (As := [.int (nI 320)]) (rest := [.ref mk, .ref x]) C.fix (c_X7_init l D cy S44 H.size mk 0 320 hL45 hf46 (by first | assumption | decide | omega)) (cwI 1 C.2.2.2.2.1 (gU_sub sub_X7_init) rfl rfl rfl (C.2.2.2.2.1 (.initialized RX7) (mU mw_21)) (C.2.2.2.2.1 (.methodLink RX11 28 yX7_init) (mU mw_46)) (C.2.2.2.2.1 (.instanceMethod yX7_init) (mU mw_47)) rfl (by decide +kernel) ⟨Nat.le_of_ble_eq_true rfl, Nat.le_of_ble_eq_true rfl⟩) (p_preS C hw) rfl rfl hl.1 rfl (lv_room (Nat.le_of_ble_eq_true rfl)) dX11_init_45 ⟨(Nat.le_of_ble_eq_true rfl), (Nat.le_of_ble_eq_true rfl)⟩) hw hA (fun S47 H locs hpost hw => ?_)
  obtain ⟨mb, hp49, hS_⟩ := hpost
  obtain ⟨S50, hS50⟩ : ∃ z, z = pnew S44 mb (aN (cy 0) 320 (fun _ => 0)) := ⟨_, rfl⟩
  rw [← hS50] at hS_
  have hL51 : mb ∈ S50.1 := by rw [hS50]; exact List.mem_append_right _ List.mem_cons_self
  have hf52 : S50.2 mb = aN (cy 0) 320 (fun _ => 0) := by rw [hS50]; exact pnew_s
  have hL53 : mk ∈ S50.1 := by rw [hS50]; exact List.mem_append_left _ hL45
  have hf54 : S50.2 mk = .inr (7, [.null, .int (nI 0)]) := by rw [hS50]; exact (pnew_n (fun z : mk = mb => hp49 (by rw [← z]; exact hL45))).trans hf46
  have hS55 := hS_
  have hL56 : mk ∈ S47.1 := by rw [hS55]; exact hL53
  have hf57 : S47.2 mk = .inr (7, [.ref mb, .int (nI 0)]) := by rw [hS55]; exact pup_s
  have hL58 : x ∈ S44.1 := by rw [hS44]; exact List.mem_append_left _ hL42
  have hf59 : S44.2 x = .inr (10, [.ref ch, .ref ln, .ref sl, .null, .null, .null, .null, .null]) := by rw [hS44]; exact (pnew_n (fun z : x = mk => hq_mk (by rw [← z]; exact hL42))).trans hf43
  have hL60 : x ∈ S50.1 := by rw [hS50]; exact List.mem_append_left _ hL58
  have hf61 : S50.2 x = .inr (10, [.ref ch, .ref ln, .ref sl, .null, .null, .null, .null, .null]) := by rw [hS50]; exact (pnew_n (fun z : x = mb => hp49 (by rw [← z]; exact hL58))).trans hf59
  have hL62 : x ∈ S47.1 := by rw [hS55]; exact hL60
  have hf63 : S47.2 x = .inr (10, [.ref ch, .ref ln, .ref sl, .null, .null, .null, .null, .null]) := by rw [hS55]; exact (pup_n (fun z : x = mk => hq_mk (by rw [← z]; exact hL42))).trans hf61
  refine p_putF C hw (ci := 10) (Cn := RX11) (T := TX11) (N := 8) tyX11 tyX11_ok nmX11 hL62 hf63 rfl hin_RX11 3 (by decide) (mU mw_22) rfl rfl hin rfl rfl rfl rfl (by simp) dX11_init_48 rfl (fun H locs hw => ?_)
  obtain ⟨S64, hS64⟩ : ∃ z, z = pup S47 x (.inr (10, [.ref ch, .ref ln, .ref sl, .ref mk, .null, .null, .null, .null])) := ⟨_, rfl⟩
  replace hw : pW D (pA S s.heap.size) s.heap S64 H locs := by rw [hS64]; exact hw
  have hL65 : x ∈ S64.1 := by rw [hS64]; exact hL62
  have hf66 : S64.2 x = .inr (10, [.ref ch, .ref ln, .ref sl, .ref mk, .null, .null, .null, .null]) := by rw [hS64]; exact pup_s
  refine lv_aload_n hx hb dX11_init_51 rfl (lv_at hl 0 rfl) ?_
  refine p_get C hw (ci := 10) (Cn := RX11) (T := TX11) (N := 8) hL65 hf66 rfl hin_RX11 3 (by decide) (mU mw_22) rfl rfl dX11_init_52 ?_
  refine lv_sipush (v := nI 320) hx hb dX11_init_55 (by decide) ?_
  have hL67 : mk ∈ S64.1 := by rw [hS64]; exact hL56
  have hf68 : S64.2 mk = .inr (7, [.ref mb, .int (nI 0)]) := by rw [hS64]; exact (pup_n (fun z : mk = x => hq_mk (by rw [z]; exact hL42))).trans hf57
  have hL69 : mb ∈ S47.1 := by rw [hS55]; exact hL51
  have hf70 : S47.2 mb = aN (cy 0) 320 (fun _ => 0) := by rw [hS55]; exact (pup_n (fun z : mb = mk => hp49 (by rw [z]; exact hL45))).trans hf52
  have hL71 : mb ∈ S64.1 := by rw [hS64]; exact hL69
  have hf72 : S64.2 mb = aN (cy 0) 320 (fun _ => 0) := by rw [hS64]; exact (pup_n (fun z : mb = x => hp49 (by rw [z]; exact hL58))).trans hf70
  refine p_callv (va_runV (As := [.int (nI 320)]) (rest := []) C.fix (c_X7_resize l D cy S64 H.size mk mb 320 0 320 (fun _ => 0) hL67 hf68 hL71 hf72 (by first | assumption | decide | omega) (by first | assumption | decide | omega)) (cwV 1 C.2.2.2.2.1 (gU_V mw_56 mw_57 mw_58 mw_21 sub_X7_resize) rfl rfl rfl hde_X11_init_V_2 ⟨Nat.le_of_ble_eq_true rfl, Nat.le_of_ble_eq_true rfl⟩) (p_preV C hw hL67 hf68 rfl) rfl rfl hl.1 rfl (lv_room (Nat.le_of_ble_eq_true rfl)) dX11_init_58 ⟨(Nat.le_of_ble_eq_true rfl), (Nat.le_of_ble_eq_true rfl)⟩) hw hA (fun S73 H locs hpost hw => ?_)
  have hS_ := hpost
  try rw [show min 320 320 = 320 from rfl] at hS_
  have hS75 := hS_
  have hL76 : mk ∈ S73.1 := by rw [hS75]; exact hL67
  have hf77 : S73.2 mk = .inr (7, [.ref mb, .int (nI 320)]) := by rw [hS75]; exact pup_s
  refine lv_aload_n hx hb dX11_init_61 rfl (lv_at hl 0 rfl) ?_
  refine p_new C hw hA (ci := 4) (Cn := RX4) (T := TX4) (N := 2) (fs := [.null, .null]) tyX4 tyX4_ok rfl hin_RX4 (mU mw_23) (mU mw_24) (mU mw_25) (fun j hj => by rcases (show j = 0 ∨ j = 1 by omega) with rfl | rfl <;> rfl) (Nat.le_of_ble_eq_true rfl) (Nat.le_of_ble_eq_true rfl) dX11_init_62 (fun co H hq_co hw => ?_)
  obtain ⟨S78, hS78⟩ : ∃ z, z = pnew S73 co (.inr (4, [.null, .null])) := ⟨_, rfl⟩
  replace hw : pW D (pA S s.heap.size) s.heap S78 H locs := by rw [hS78]; exact hw
  have hL79 : co ∈ S78.1 := by rw [hS78]; exact List.mem_append_right _ List.mem_cons_self
  have hf80 : S78.2 co = .inr (4, [.null, .null]) := by rw [hS78]; exact pnew_s
  refine lv_dup hx hb dX11_init_65 rfl ?_
  refine p_callv (va_runI (As := []) (rest := [.ref co, .ref x]) C.fix (c_X4_init l D cy S78 H.size co hL79 hf80) (cwI 0 C.2.2.2.2.1 (gU_sub sub_X4_init) rfl rfl rfl (C.2.2.2.2.1 (.initialized RX4) (mU mw_25)) (C.2.2.2.2.1 (.methodLink RX11 40 yX4_init) (mU mw_63)) (C.2.2.2.2.1 (.instanceMethod yX4_init) (mU mw_64)) rfl (by decide +kernel) ⟨Nat.le_of_ble_eq_true rfl, Nat.le_of_ble_eq_true rfl⟩) (p_preS C hw) rfl rfl hl.1 rfl (lv_room (Nat.le_of_ble_eq_true rfl)) dX11_init_66 ⟨(Nat.le_of_ble_eq_true rfl), (Nat.le_of_ble_eq_true rfl)⟩) hw hA (fun S81 H locs hpost hw => ?_)
  obtain ⟨col, con, com, cor0, cob0, cor1, cob1, cor2, cob2, cor3, cob3, cor4, cob4, hS83, hfr84, hf85, hf86, hf87, hf88, hf89, hf90, hf91, hf92, hf93, hf94, hf95, hf96, hf97, hf98⟩ := hpost
  have hnd99 := p_apart hw hS83
  have hq100 : col ∉ S78.1 := p_fresh hw hS83 0 rfl
  have hq101 : con ∉ S78.1 := p_fresh hw hS83 1 rfl
  have hq102 : com ∉ S78.1 := p_fresh hw hS83 2 rfl
  have hq103 : cor0 ∉ S78.1 := p_fresh hw hS83 3 rfl
  have hq104 : cob0 ∉ S78.1 := p_fresh hw hS83 4 rfl
  have hq105 : cor1 ∉ S78.1 := p_fresh hw hS83 5 rfl
  have hq106 : cob1 ∉ S78.1 := p_fresh hw hS83 6 rfl
  have hq107 : cor2 ∉ S78.1 := p_fresh hw hS83 7 rfl
  have hq108 : cob2 ∉ S78.1 := p_fresh hw hS83 8 rfl
  have hq109 : cor3 ∉ S78.1 := p_fresh hw hS83 9 rfl
  have hq110 : cob3 ∉ S78.1 := p_fresh hw hS83 10 rfl
  have hq111 : cor4 ∉ S78.1 := p_fresh hw hS83 11 rfl
  have hq112 : cob4 ∉ S78.1 := p_fresh hw hS83 12 rfl
  have hL113 : co ∈ S81.1 := by rw [hS83]; exact List.mem_append_left _ hL79
  have hL114 : col ∈ S81.1 := by rw [hS83]; exact List.mem_append_right _ (List.mem_of_getElem? (i := 0) rfl)
  have hL115 : con ∈ S81.1 := by rw [hS83]; exact List.mem_append_right _ (List.mem_of_getElem? (i := 1) rfl)
  have hL116 : com ∈ S81.1 := by rw [hS83]; exact List.mem_append_right _ (List.mem_of_getElem? (i := 2) rfl)
  have hL117 : cor0 ∈ S81.1 := by rw [hS83]; exact List.mem_append_right _ (List.mem_of_getElem? (i := 3) rfl)
  have hL118 : cob0 ∈ S81.1 := by rw [hS83]; exact List.mem_append_right _ (List.mem_of_getElem? (i := 4) rfl)
  have hL119 : cor1 ∈ S81.1 := by rw [hS83]; exact List.mem_append_right _ (List.mem_of_getElem? (i := 5) rfl)
  have hL120 : cob1 ∈ S81.1 := by rw [hS83]; exact List.mem_append_right _ (List.mem_of_getElem? (i := 6) rfl)
  have hL121 : cor2 ∈ S81.1 := by rw [hS83]; exact List.mem_append_right _ (List.mem_of_getElem? (i := 7) rfl)
  have hL122 : cob2 ∈ S81.1 := by rw [hS83]; exact List.mem_append_right _ (List.mem_of_getElem? (i := 8) rfl)
  have hL123 : cor3 ∈ S81.1 := by rw [hS83]; exact List.mem_append_right _ (List.mem_of_getElem? (i := 9) rfl)
  have hL124 : cob3 ∈ S81.1 := by rw [hS83]; exact List.mem_append_right _ (List.mem_of_getElem? (i := 10) rfl)
  have hL125 : cor4 ∈ S81.1 := by rw [hS83]; exact List.mem_append_right _ (List.mem_of_getElem? (i := 11) rfl)
  have hL126 : cob4 ∈ S81.1 := by rw [hS83]; exact List.mem_append_right _ (List.mem_of_getElem? (i := 12) rfl)
  have hL127 : x ∈ S73.1 := by rw [hS75]; exact hL65
  have hf128 : S73.2 x = .inr (10, [.ref ch, .ref ln, .ref sl, .ref mk, .null, .null, .null, .null]) := by rw [hS75]; exact (pup_n (fun z : x = mk => hq_mk (by rw [← z]; exact hL42))).trans hf66
  have hL129 : x ∈ S78.1 := by rw [hS78]; exact List.mem_append_left _ hL127
  have hf130 : S78.2 x = .inr (10, [.ref ch, .ref ln, .ref sl, .ref mk, .null, .null, .null, .null]) := by rw [hS78]; exact (pnew_n (fun z : x = co => hq_co (by rw [← z]; exact hL127))).trans hf128
  have hL131 : x ∈ S81.1 := by rw [hS83]; exact List.mem_append_left _ hL129
  have hf132 : S81.2 x = .inr (10, [.ref ch, .ref ln, .ref sl, .ref mk, .null, .null, .null, .null]) := (hfr84 x hL129 (fun z : x = co => hq_co (by rw [← z]; exact hL127))).trans hf130
  refine p_putF C hw (ci := 10) (Cn := RX11) (T := TX11) (N := 8) tyX11 tyX11_ok nmX11 hL131 hf132 rfl hin_RX11 4 (by decide) (mU mw_26) rfl rfl hin rfl rfl rfl rfl (by simp) dX11_init_69 rfl (fun H locs hw => ?_)
  obtain ⟨S133, hS133⟩ : ∃ z, z = pup S81 x (.inr (10, [.ref ch, .ref ln, .ref sl, .ref mk, .ref co, .null, .null, .null])) := ⟨_, rfl⟩
  replace hw : pW D (pA S s.heap.size) s.heap S133 H locs := by rw [hS133]; exact hw
  have hL134 : x ∈ S133.1 := by rw [hS133]; exact hL131
  have hf135 : S133.2 x = .inr (10, [.ref ch, .ref ln, .ref sl, .ref mk, .ref co, .null, .null, .null]) := by rw [hS133]; exact pup_s
  refine lv_aload_n hx hb dX11_init_72 rfl (lv_at hl 0 rfl) ?_
  refine p_new C hw hA (ci := 4) (Cn := RX4) (T := TX4) (N := 2) (fs := [.null, .null]) tyX4 tyX4_ok rfl hin_RX4 (mU mw_23) (mU mw_24) (mU mw_25) (fun j hj => by rcases (show j = 0 ∨ j = 1 by omega) with rfl | rfl <;> rfl) (Nat.le_of_ble_eq_true rfl) (Nat.le_of_ble_eq_true rfl) dX11_init_73 (fun ca H hq_ca hw => ?_)
  obtain ⟨S136, hS136⟩ : ∃ z, z = pnew S133 ca (.inr (4, [.null, .null])) := ⟨_, rfl⟩
  replace hw : pW D (pA S s.heap.size) s.heap S136 H locs := by rw [hS136]; exact hw
  have hL137 : ca ∈ S136.1 := by rw [hS136]; exact List.mem_append_right _ List.mem_cons_self
  have hf138 : S136.2 ca = .inr (4, [.null, .null]) := by rw [hS136]; exact pnew_s
  refine lv_dup hx hb dX11_init_76 rfl ?_
  refine p_callv (va_runI (As := []) (rest := [.ref ca, .ref x]) C.fix (c_X4_init l D cy S136 H.size ca hL137 hf138) (cwI 0 C.2.2.2.2.1 (gU_sub sub_X4_init) rfl rfl rfl (C.2.2.2.2.1 (.initialized RX4) (mU mw_25)) (C.2.2.2.2.1 (.methodLink RX11 40 yX4_init) (mU mw_63)) (C.2.2.2.2.1 (.instanceMethod yX4_init) (mU mw_64)) rfl (by decide +kernel) ⟨Nat.le_of_ble_eq_true rfl, Nat.le_of_ble_eq_true rfl⟩) (p_preS C hw) rfl rfl hl.1 rfl (lv_room (Nat.le_of_ble_eq_true rfl)) dX11_init_77 ⟨(Nat.le_of_ble_eq_true rfl), (Nat.le_of_ble_eq_true rfl)⟩) hw hA (fun S139 H locs hpost hw => ?_)
  obtain ⟨cal, can, cam, car0, cab0, car1, cab1, car2, cab2, car3, cab3, car4, cab4, hS141, hfr142, hf143, hf144, hf145, hf146, hf147, hf148, hf149, hf150, hf151, hf152, hf153, hf154, hf155, hf156⟩ := hpost
  have hnd157 := p_apart hw hS141
  have hq158 : cal ∉ S136.1 := p_fresh hw hS141 0 rfl
  have hq159 : can ∉ S136.1 := p_fresh hw hS141 1 rfl
  have hq160 : cam ∉ S136.1 := p_fresh hw hS141 2 rfl
  have hq161 : car0 ∉ S136.1 := p_fresh hw hS141 3 rfl
  have hq162 : cab0 ∉ S136.1 := p_fresh hw hS141 4 rfl
  have hq163 : car1 ∉ S136.1 := p_fresh hw hS141 5 rfl
  have hq164 : cab1 ∉ S136.1 := p_fresh hw hS141 6 rfl
  have hq165 : car2 ∉ S136.1 := p_fresh hw hS141 7 rfl
  have hq166 : cab2 ∉ S136.1 := p_fresh hw hS141 8 rfl
  have hq167 : car3 ∉ S136.1 := p_fresh hw hS141 9 rfl
  have hq168 : cab3 ∉ S136.1 := p_fresh hw hS141 10 rfl
  have hq169 : car4 ∉ S136.1 := p_fresh hw hS141 11 rfl
  have hq170 : cab4 ∉ S136.1 := p_fresh hw hS141 12 rfl
  have hL171 : ca ∈ S139.1 := by rw [hS141]; exact List.mem_append_left _ hL137
  have hL172 : cal ∈ S139.1 := by rw [hS141]; exact List.mem_append_right _ (List.mem_of_getElem? (i := 0) rfl)
  have hL173 : can ∈ S139.1 := by rw [hS141]; exact List.mem_append_right _ (List.mem_of_getElem? (i := 1) rfl)
  have hL174 : cam ∈ S139.1 := by rw [hS141]; exact List.mem_append_right _ (List.mem_of_getElem? (i := 2) rfl)
  have hL175 : car0 ∈ S139.1 := by rw [hS141]; exact List.mem_append_right _ (List.mem_of_getElem? (i := 3) rfl)
  have hL176 : cab0 ∈ S139.1 := by rw [hS141]; exact List.mem_append_right _ (List.mem_of_getElem? (i := 4) rfl)
  have hL177 : car1 ∈ S139.1 := by rw [hS141]; exact List.mem_append_right _ (List.mem_of_getElem? (i := 5) rfl)
  have hL178 : cab1 ∈ S139.1 := by rw [hS141]; exact List.mem_append_right _ (List.mem_of_getElem? (i := 6) rfl)
  have hL179 : car2 ∈ S139.1 := by rw [hS141]; exact List.mem_append_right _ (List.mem_of_getElem? (i := 7) rfl)
  have hL180 : cab2 ∈ S139.1 := by rw [hS141]; exact List.mem_append_right _ (List.mem_of_getElem? (i := 8) rfl)
  have hL181 : car3 ∈ S139.1 := by rw [hS141]; exact List.mem_append_right _ (List.mem_of_getElem? (i := 9) rfl)
  have hL182 : cab3 ∈ S139.1 := by rw [hS141]; exact List.mem_append_right _ (List.mem_of_getElem? (i := 10) rfl)
  have hL183 : car4 ∈ S139.1 := by rw [hS141]; exact List.mem_append_right _ (List.mem_of_getElem? (i := 11) rfl)
  have hL184 : cab4 ∈ S139.1 := by rw [hS141]; exact List.mem_append_right _ (List.mem_of_getElem? (i := 12) rfl)
  have hL185 : x ∈ S136.1 := by rw [hS136]; exact List.mem_append_left _ hL134
  have hf186 : S136.2 x = .inr (10, [.ref ch, .ref ln, .ref sl, .ref mk, .ref co, .null, .null, .null]) := by rw [hS136]; exact (pnew_n (fun z : x = ca => hq_ca (by rw [← z]; exact hL134))).trans hf135
  have hL187 : x ∈ S139.1 := by rw [hS141]; exact List.mem_append_left _ hL185
  have hf188 : S139.2 x = .inr (10, [.ref ch, .ref ln, .ref sl, .ref mk, .ref co, .null, .null, .null]) := (hfr142 x hL185 (fun z : x = ca => hq_ca (by rw [← z]; exact hL134))).trans hf186
  refine p_putF C hw (ci := 10) (Cn := RX11) (T := TX11) (N := 8) tyX11 tyX11_ok nmX11 hL187 hf188 rfl hin_RX11 5 (by decide) (mU mw_27) rfl rfl hin rfl rfl rfl rfl (by simp) dX11_init_80 rfl (fun H locs hw => ?_)
  obtain ⟨S189, hS189⟩ : ∃ z, z = pup S139 x (.inr (10, [.ref ch, .ref ln, .ref sl, .ref mk, .ref co, .ref ca, .null, .null])) := ⟨_, rfl⟩
  replace hw : pW D (pA S s.heap.size) s.heap S189 H locs := by rw [hS189]; exact hw
  have hL190 : x ∈ S189.1 := by rw [hS189]; exact hL187
  have hf191 : S189.2 x = .inr (10, [.ref ch, .ref ln, .ref sl, .ref mk, .ref co, .ref ca, .null, .null]) := by rw [hS189]; exact pup_s
  refine lv_aload_n hx hb dX11_init_83 rfl (lv_at hl 0 rfl) ?_
  refine p_new C hw hA (ci := 4) (Cn := RX4) (T := TX4) (N := 2) (fs := [.null, .null]) tyX4 tyX4_ok rfl hin_RX4 (mU mw_23) (mU mw_24) (mU mw_25) (fun j hj => by rcases (show j = 0 ∨ j = 1 by omega) with rfl | rfl <;> rfl) (Nat.le_of_ble_eq_true rfl) (Nat.le_of_ble_eq_true rfl) dX11_init_84 (fun su H hq_su hw => ?_)
  obtain ⟨S192, hS192⟩ : ∃ z, z = pnew S189 su (.inr (4, [.null, .null])) := ⟨_, rfl⟩
  replace hw : pW D (pA S s.heap.size) s.heap S192 H locs := by rw [hS192]; exact hw
  have hL193 : su ∈ S192.1 := by rw [hS192]; exact List.mem_append_right _ List.mem_cons_self
  have hf194 : S192.2 su = .inr (4, [.null, .null]) := by rw [hS192]; exact pnew_s
  refine lv_dup hx hb dX11_init_87 rfl ?_
  refine p_callv (va_runI (As := []) (rest := [.ref su, .ref x]) C.fix (c_X4_init l D cy S192 H.size su hL193 hf194) (cwI 0 C.2.2.2.2.1 (gU_sub sub_X4_init) rfl rfl rfl (C.2.2.2.2.1 (.initialized RX4) (mU mw_25)) (C.2.2.2.2.1 (.methodLink RX11 40 yX4_init) (mU mw_63)) (C.2.2.2.2.1 (.instanceMethod yX4_init) (mU mw_64)) rfl (by decide +kernel) ⟨Nat.le_of_ble_eq_true rfl, Nat.le_of_ble_eq_true rfl⟩) (p_preS C hw) rfl rfl hl.1 rfl (lv_room (Nat.le_of_ble_eq_true rfl)) dX11_init_88 ⟨(Nat.le_of_ble_eq_true rfl), (Nat.le_of_ble_eq_true rfl)⟩) hw hA (fun S195 H locs hpost hw => ?_)
  obtain ⟨sul, sun, sum, sur0, sub0, sur1, sub1, sur2, sub2, sur3, sub3, sur4, sub4, hS197, hfr198, hf199, hf200, hf201, hf202, hf203, hf204, hf205, hf206, hf207, hf208, hf209, hf210, hf211, hf212⟩ := hpost
  have hnd213 := p_apart hw hS197
  have hq214 : sul ∉ S192.1 := p_fresh hw hS197 0 rfl
  have hq215 : sun ∉ S192.1 := p_fresh hw hS197 1 rfl
  have hq216 : sum ∉ S192.1 := p_fresh hw hS197 2 rfl
  have hq217 : sur0 ∉ S192.1 := p_fresh hw hS197 3 rfl
  have hq218 : sub0 ∉ S192.1 := p_fresh hw hS197 4 rfl
  have hq219 : sur1 ∉ S192.1 := p_fresh hw hS197 5 rfl
  have hq220 : sub1 ∉ S192.1 := p_fresh hw hS197 6 rfl
  have hq221 : sur2 ∉ S192.1 := p_fresh hw hS197 7 rfl
  have hq222 : sub2 ∉ S192.1 := p_fresh hw hS197 8 rfl
  have hq223 : sur3 ∉ S192.1 := p_fresh hw hS197 9 rfl
  have hq224 : sub3 ∉ S192.1 := p_fresh hw hS197 10 rfl
  have hq225 : sur4 ∉ S192.1 := p_fresh hw hS197 11 rfl
  have hq226 : sub4 ∉ S192.1 := p_fresh hw hS197 12 rfl
  have hL227 : su ∈ S195.1 := by rw [hS197]; exact List.mem_append_left _ hL193
  have hL228 : sul ∈ S195.1 := by rw [hS197]; exact List.mem_append_right _ (List.mem_of_getElem? (i := 0) rfl)
  have hL229 : sun ∈ S195.1 := by rw [hS197]; exact List.mem_append_right _ (List.mem_of_getElem? (i := 1) rfl)
  have hL230 : sum ∈ S195.1 := by rw [hS197]; exact List.mem_append_right _ (List.mem_of_getElem? (i := 2) rfl)
  have hL231 : sur0 ∈ S195.1 := by rw [hS197]; exact List.mem_append_right _ (List.mem_of_getElem? (i := 3) rfl)
  have hL232 : sub0 ∈ S195.1 := by rw [hS197]; exact List.mem_append_right _ (List.mem_of_getElem? (i := 4) rfl)
  have hL233 : sur1 ∈ S195.1 := by rw [hS197]; exact List.mem_append_right _ (List.mem_of_getElem? (i := 5) rfl)
  have hL234 : sub1 ∈ S195.1 := by rw [hS197]; exact List.mem_append_right _ (List.mem_of_getElem? (i := 6) rfl)
  have hL235 : sur2 ∈ S195.1 := by rw [hS197]; exact List.mem_append_right _ (List.mem_of_getElem? (i := 7) rfl)
  have hL236 : sub2 ∈ S195.1 := by rw [hS197]; exact List.mem_append_right _ (List.mem_of_getElem? (i := 8) rfl)
  have hL237 : sur3 ∈ S195.1 := by rw [hS197]; exact List.mem_append_right _ (List.mem_of_getElem? (i := 9) rfl)
  have hL238 : sub3 ∈ S195.1 := by rw [hS197]; exact List.mem_append_right _ (List.mem_of_getElem? (i := 10) rfl)
  have hL239 : sur4 ∈ S195.1 := by rw [hS197]; exact List.mem_append_right _ (List.mem_of_getElem? (i := 11) rfl)
  have hL240 : sub4 ∈ S195.1 := by rw [hS197]; exact List.mem_append_right _ (List.mem_of_getElem? (i := 12) rfl)
  have hL241 : x ∈ S192.1 := by rw [hS192]; exact List.mem_append_left _ hL190
  have hf242 : S192.2 x = .inr (10, [.ref ch, .ref ln, .ref sl, .ref mk, .ref co, .ref ca, .null, .null]) := by rw [hS192]; exact (pnew_n (fun z : x = su => hq_su (by rw [← z]; exact hL190))).trans hf191
  have hL243 : x ∈ S195.1 := by rw [hS197]; exact List.mem_append_left _ hL241
  have hf244 : S195.2 x = .inr (10, [.ref ch, .ref ln, .ref sl, .ref mk, .ref co, .ref ca, .null, .null]) := (hfr198 x hL241 (fun z : x = su => hq_su (by rw [← z]; exact hL190))).trans hf242
  refine p_putF C hw (ci := 10) (Cn := RX11) (T := TX11) (N := 8) tyX11 tyX11_ok nmX11 hL243 hf244 rfl hin_RX11 6 (by decide) (mU mw_28) rfl rfl hin rfl rfl rfl rfl (by simp) dX11_init_91 rfl (fun H locs hw => ?_)
  obtain ⟨S245, hS245⟩ : ∃ z, z = pup S195 x (.inr (10, [.ref ch, .ref ln, .ref sl, .ref mk, .ref co, .ref ca, .ref su, .null])) := ⟨_, rfl⟩
  replace hw : pW D (pA S s.heap.size) s.heap S245 H locs := by rw [hS245]; exact hw
  have hL246 : x ∈ S245.1 := by rw [hS245]; exact hL243
  have hf247 : S245.2 x = .inr (10, [.ref ch, .ref ln, .ref sl, .ref mk, .ref co, .ref ca, .ref su, .null]) := by rw [hS245]; exact pup_s
  refine lv_aload_n hx hb dX11_init_94 rfl (lv_at hl 0 rfl) ?_
  refine p_new C hw hA (ci := 3) (Cn := RX3) (T := TX3) (N := 3) (fs := [.null, .null, .null]) tyX3 tyX3_ok rfl hin_RX3 (mU mw_29) (mU mw_30) (mU mw_31) (fun j hj => by rcases (show j = 0 ∨ j = 1 ∨ j = 2 by omega) with rfl | rfl | rfl <;> rfl) (Nat.le_of_ble_eq_true rfl) (Nat.le_of_ble_eq_true rfl) dX11_init_95 (fun lt H hq_lt hw => ?_)
  obtain ⟨S248, hS248⟩ : ∃ z, z = pnew S245 lt (.inr (3, [.null, .null, .null])) := ⟨_, rfl⟩
  replace hw : pW D (pA S s.heap.size) s.heap S248 H locs := by rw [hS248]; exact hw
  have hL249 : lt ∈ S248.1 := by rw [hS248]; exact List.mem_append_right _ List.mem_cons_self
  have hf250 : S248.2 lt = .inr (3, [.null, .null, .null]) := by rw [hS248]; exact pnew_s
  refine lv_dup hx hb dX11_init_98 rfl ?_
  refine p_callv (va_runIN (As := []) (rest := [.ref lt, .ref x]) C.fix (c_X3_init l D cy S248 H.size lt hL249 hf250) ⟨va_cnB 0 C.2.2.2.2.1 (gU_sub sub_X3_init) rfl rfl rfl (show va_Nw (.methodLinkNest RX11 53 yX3_init "SoundingLine") s from C.nst 2 (RX11, 53, yX3_init) rfl) (C.2.2.2.2.1 (.initialized RX3) (mU mw_31)) hde_X11_init_S_3 ⟨Nat.le_of_ble_eq_true rfl, Nat.le_of_ble_eq_true rfl⟩, rfl, C.2.2.2.2.1 (.instanceMethod yX3_init) (mU mw_71)⟩ (p_preS C hw) rfl rfl hl.1 rfl (lv_room (Nat.le_of_ble_eq_true rfl)) dX11_init_99 ⟨(Nat.le_of_ble_eq_true rfl), (Nat.le_of_ble_eq_true rfl)⟩) hw hA (fun S251 H locs hpost hw => ?_)
  obtain ⟨lf, lx, lw, hp253, hp254, hp255, hp256, hp257, hp258, hS_⟩ := hpost
  obtain ⟨S259, hS259⟩ : ∃ z, z = pnew S248 lf (aN (cy 0) 16 (fun _ => 0)) := ⟨_, rfl⟩
  rw [← hS259] at hS_
  have hL260 : lf ∈ S259.1 := by rw [hS259]; exact List.mem_append_right _ List.mem_cons_self
  have hf261 : S259.2 lf = aN (cy 0) 16 (fun _ => 0) := by rw [hS259]; exact pnew_s
  obtain ⟨S262, hS262⟩ : ∃ z, z = pnew S259 lx (aN (cy 0) 16 (fun _ => 0)) := ⟨_, rfl⟩
  rw [← hS262] at hS_
  have hq263 := hq_app hS259 hp254 hp256
  have hL264 : lx ∈ S262.1 := by rw [hS262]; exact List.mem_append_right _ List.mem_cons_self
  have hf265 : S262.2 lx = aN (cy 0) 16 (fun _ => 0) := by rw [hS262]; exact pnew_s
  obtain ⟨S266, hS266⟩ : ∃ z, z = pnew S262 lw (aN (cy 0) 320 (fun _ => 0)) := ⟨_, rfl⟩
  rw [← hS266] at hS_
  have hq267 := hq_app hS259 hp255 hp257
  have hq268 := hq_app hS262 hq267 hp258
  have hL269 : lw ∈ S266.1 := by rw [hS266]; exact List.mem_append_right _ List.mem_cons_self
  have hf270 : S266.2 lw = aN (cy 0) 320 (fun _ => 0) := by rw [hS266]; exact pnew_s
  have hL271 : lt ∈ S259.1 := by rw [hS259]; exact List.mem_append_left _ hL249
  have hf272 : S259.2 lt = .inr (3, [.null, .null, .null]) := by rw [hS259]; exact (pnew_n (fun z : lt = lf => hp253 (by rw [← z]; exact hL249))).trans hf250
  have hL273 : lt ∈ S262.1 := by rw [hS262]; exact List.mem_append_left _ hL271
  have hf274 : S262.2 lt = .inr (3, [.null, .null, .null]) := by rw [hS262]; exact (pnew_n (fun z : lt = lx => hq263 (by rw [← z]; exact hL271))).trans hf272
  have hL275 : lt ∈ S266.1 := by rw [hS266]; exact List.mem_append_left _ hL273
  have hf276 : S266.2 lt = .inr (3, [.null, .null, .null]) := by rw [hS266]; exact (pnew_n (fun z : lt = lw => hq268 (by rw [← z]; exact hL273))).trans hf274
  have hS277 := hS_
  have hL278 : lt ∈ S251.1 := by rw [hS277]; exact hL275
  have hf279 : S251.2 lt = .inr (3, [.ref lf, .ref lx, .ref lw]) := by rw [hS277]; exact pup_s
  have hL280 : x ∈ S248.1 := by rw [hS248]; exact List.mem_append_left _ hL246
  have hf281 : S248.2 x = .inr (10, [.ref ch, .ref ln, .ref sl, .ref mk, .ref co, .ref ca, .ref su, .null]) := by rw [hS248]; exact (pnew_n (fun z : x = lt => hq_lt (by rw [← z]; exact hL246))).trans hf247
  have hL282 : x ∈ S259.1 := by rw [hS259]; exact List.mem_append_left _ hL280
  have hf283 : S259.2 x = .inr (10, [.ref ch, .ref ln, .ref sl, .ref mk, .ref co, .ref ca, .ref su, .null]) := by rw [hS259]; exact (pnew_n (fun z : x = lf => hp253 (by rw [← z]; exact hL280))).trans hf281
  have hL284 : x ∈ S262.1 := by rw [hS262]; exact List.mem_append_left _ hL282
  have hf285 : S262.2 x = .inr (10, [.ref ch, .ref ln, .ref sl, .ref mk, .ref co, .ref ca, .ref su, .null]) := by rw [hS262]; exact (pnew_n (fun z : x = lx => hq263 (by rw [← z]; exact hL282))).trans hf283
  have hL286 : x ∈ S266.1 := by rw [hS266]; exact List.mem_append_left _ hL284
  have hf287 : S266.2 x = .inr (10, [.ref ch, .ref ln, .ref sl, .ref mk, .ref co, .ref ca, .ref su, .null]) := by rw [hS266]; exact (pnew_n (fun z : x = lw => hq268 (by rw [← z]; exact hL284))).trans hf285
  have hL288 : x ∈ S251.1 := by rw [hS277]; exact hL286
  have hf289 : S251.2 x = .inr (10, [.ref ch, .ref ln, .ref sl, .ref mk, .ref co, .ref ca, .ref su, .null]) := by rw [hS277]; exact (pup_n (fun z : x = lt => hq_lt (by rw [← z]; exact hL246))).trans hf287
  refine p_putF C hw (ci := 10) (Cn := RX11) (T := TX11) (N := 8) tyX11 tyX11_ok nmX11 hL288 hf289 rfl hin_RX11 7 (by decide) (mU mw_32) rfl rfl hin rfl rfl rfl rfl (by simp) dX11_init_102 rfl (fun H locs hw => ?_)
  obtain ⟨S290, hS290⟩ : ∃ z, z = pup S251 x (.inr (10, [.ref ch, .ref ln, .ref sl, .ref mk, .ref co, .ref ca, .ref su, .ref lt])) := ⟨_, rfl⟩
  replace hw : pW D (pA S s.heap.size) s.heap S290 H locs := by rw [hS290]; exact hw
  have hL291 : x ∈ S290.1 := by rw [hS290]; exact hL288
  have hf292 : S290.2 x = .inr (10, [.ref ch, .ref ln, .ref sl, .ref mk, .ref co, .ref ca, .ref su, .ref lt]) := by rw [hS290]; exact pup_s
  have hL293 : ch ∈ S21.1 := by rw [hS21]; exact hL13
  have hf294 : S21.2 ch = .inr (1, [.ref lk, .int (nI 0)]) := by rw [hS21]; exact (pup_n (fun z : ch = x => hq_ch (by rw [z]; exact hL_x))).trans hf14
  have hL295 : ch ∈ S24.1 := by rw [hS24]; exact List.mem_append_left _ hL293
  have hf296 : S24.2 ch = .inr (1, [.ref lk, .int (nI 0)]) := by rw [hS24]; exact (pnew_n (fun z : ch = ln => hq_ln (by rw [← z]; exact hL293))).trans hf294
  have hL297 : ch ∈ S31.1 := by rw [hS31]; exact hL295
  have hf298 : S31.2 ch = .inr (1, [.ref lk, .int (nI 0)]) := by rw [hS31]; exact (pup_n (fun z : ch = x => hq_ch (by rw [z]; exact hL_x))).trans hf296
  have hL299 : ch ∈ S34.1 := by rw [hS34]; exact List.mem_append_left _ hL297
  have hf300 : S34.2 ch = .inr (1, [.ref lk, .int (nI 0)]) := by rw [hS34]; exact (pnew_n (fun z : ch = sl => hq_sl (by rw [← z]; exact hL297))).trans hf298
  have hL301 : ch ∈ S41.1 := by rw [hS41]; exact hL299
  have hf302 : S41.2 ch = .inr (1, [.ref lk, .int (nI 0)]) := by rw [hS41]; exact (pup_n (fun z : ch = x => hq_ch (by rw [z]; exact hL_x))).trans hf300
  have hL303 : ch ∈ S44.1 := by rw [hS44]; exact List.mem_append_left _ hL301
  have hf304 : S44.2 ch = .inr (1, [.ref lk, .int (nI 0)]) := by rw [hS44]; exact (pnew_n (fun z : ch = mk => hq_mk (by rw [← z]; exact hL301))).trans hf302
  have hL305 : ch ∈ S50.1 := by rw [hS50]; exact List.mem_append_left _ hL303
  have hf306 : S50.2 ch = .inr (1, [.ref lk, .int (nI 0)]) := by rw [hS50]; exact (pnew_n (fun z : ch = mb => hp49 (by rw [← z]; exact hL303))).trans hf304
  have hL307 : ch ∈ S47.1 := by rw [hS55]; exact hL305
  have hf308 : S47.2 ch = .inr (1, [.ref lk, .int (nI 0)]) := by rw [hS55]; exact (pup_n (fun z : ch = mk => hq_mk (by rw [← z]; exact hL301))).trans hf306
  have hL309 : ch ∈ S64.1 := by rw [hS64]; exact hL307
  have hf310 : S64.2 ch = .inr (1, [.ref lk, .int (nI 0)]) := by rw [hS64]; exact (pup_n (fun z : ch = x => hq_ch (by rw [z]; exact hL_x))).trans hf308
  have hL311 : ch ∈ S73.1 := by rw [hS75]; exact hL309
  have hf312 : S73.2 ch = .inr (1, [.ref lk, .int (nI 0)]) := by rw [hS75]; exact (pup_n (fun z : ch = mk => hq_mk (by rw [← z]; exact hL301))).trans hf310
  have hL313 : ch ∈ S78.1 := by rw [hS78]; exact List.mem_append_left _ hL311
  have hf314 : S78.2 ch = .inr (1, [.ref lk, .int (nI 0)]) := by rw [hS78]; exact (pnew_n (fun z : ch = co => hq_co (by rw [← z]; exact hL311))).trans hf312
  have hL315 : ch ∈ S81.1 := by rw [hS83]; exact List.mem_append_left _ hL313
  have hf316 : S81.2 ch = .inr (1, [.ref lk, .int (nI 0)]) := (hfr84 ch hL313 (fun z : ch = co => hq_co (by rw [← z]; exact hL311))).trans hf314
  have hL317 : ch ∈ S133.1 := by rw [hS133]; exact hL315
  have hf318 : S133.2 ch = .inr (1, [.ref lk, .int (nI 0)]) := by rw [hS133]; exact (pup_n (fun z : ch = x => hq_ch (by rw [z]; exact hL_x))).trans hf316
  have hL319 : ch ∈ S136.1 := by rw [hS136]; exact List.mem_append_left _ hL317
  have hf320 : S136.2 ch = .inr (1, [.ref lk, .int (nI 0)]) := by rw [hS136]; exact (pnew_n (fun z : ch = ca => hq_ca (by rw [← z]; exact hL317))).trans hf318
  have hL321 : ch ∈ S139.1 := by rw [hS141]; exact List.mem_append_left _ hL319
  have hf322 : S139.2 ch = .inr (1, [.ref lk, .int (nI 0)]) := (hfr142 ch hL319 (fun z : ch = ca => hq_ca (by rw [← z]; exact hL317))).trans hf320
  have hL323 : ch ∈ S189.1 := by rw [hS189]; exact hL321
  have hf324 : S189.2 ch = .inr (1, [.ref lk, .int (nI 0)]) := by rw [hS189]; exact (pup_n (fun z : ch = x => hq_ch (by rw [z]; exact hL_x))).trans hf322
  have hL325 : ch ∈ S192.1 := by rw [hS192]; exact List.mem_append_left _ hL323
  have hf326 : S192.2 ch = .inr (1, [.ref lk, .int (nI 0)]) := by rw [hS192]; exact (pnew_n (fun z : ch = su => hq_su (by rw [← z]; exact hL323))).trans hf324
  have hL327 : ch ∈ S195.1 := by rw [hS197]; exact List.mem_append_left _ hL325
  have hf328 : S195.2 ch = .inr (1, [.ref lk, .int (nI 0)]) := (hfr198 ch hL325 (fun z : ch = su => hq_su (by rw [← z]; exact hL323))).trans hf326
  have hL329 : ch ∈ S245.1 := by rw [hS245]; exact hL327
  have hf330 : S245.2 ch = .inr (1, [.ref lk, .int (nI 0)]) := by rw [hS245]; exact (pup_n (fun z : ch = x => hq_ch (by rw [z]; exact hL_x))).trans hf328
  have hL331 : ch ∈ S248.1 := by rw [hS248]; exact List.mem_append_left _ hL329
  have hf332 : S248.2 ch = .inr (1, [.ref lk, .int (nI 0)]) := by rw [hS248]; exact (pnew_n (fun z : ch = lt => hq_lt (by rw [← z]; exact hL329))).trans hf330
  have hL333 : ch ∈ S259.1 := by rw [hS259]; exact List.mem_append_left _ hL331
  have hf334 : S259.2 ch = .inr (1, [.ref lk, .int (nI 0)]) := by rw [hS259]; exact (pnew_n (fun z : ch = lf => hp253 (by rw [← z]; exact hL331))).trans hf332
  have hL335 : ch ∈ S262.1 := by rw [hS262]; exact List.mem_append_left _ hL333
  have hf336 : S262.2 ch = .inr (1, [.ref lk, .int (nI 0)]) := by rw [hS262]; exact (pnew_n (fun z : ch = lx => hq263 (by rw [← z]; exact hL333))).trans hf334
  have hL337 : ch ∈ S266.1 := by rw [hS266]; exact List.mem_append_left _ hL335
  have hf338 : S266.2 ch = .inr (1, [.ref lk, .int (nI 0)]) := by rw [hS266]; exact (pnew_n (fun z : ch = lw => hq268 (by rw [← z]; exact hL335))).trans hf336
  have hL339 : ch ∈ S251.1 := by rw [hS277]; exact hL337
  have hf340 : S251.2 ch = .inr (1, [.ref lk, .int (nI 0)]) := by rw [hS277]; exact (pup_n (fun z : ch = lt => hq_lt (by rw [← z]; exact hL329))).trans hf338
  have hL341 : ch ∈ S290.1 := by rw [hS290]; exact hL339
  have hf342 : S290.2 ch = .inr (1, [.ref lk, .int (nI 0)]) := by rw [hS290]; exact (pup_n (fun z : ch = x => hq_ch (by rw [z]; exact hL_x))).trans hf340
  have hL343 : lk ∈ S4.1 := by rw [hS12]; exact hL8
  have hf344 : S4.2 lk = aQ (cy 3) 4 (fun _ => none) := by rw [hS12]; exact (pup_n (fun z : lk = ch => hp6 (by rw [z]; exact hL2))).trans hf9
  have hL345 : lk ∈ S21.1 := by rw [hS21]; exact hL343
  have hf346 : S21.2 lk = aQ (cy 3) 4 (fun _ => none) := by rw [hS21]; exact (pup_n (fun z : lk = x => hp6 (by rw [z]; exact hL15))).trans hf344
  have hL347 : lk ∈ S24.1 := by rw [hS24]; exact List.mem_append_left _ hL345
  have hf348 : S24.2 lk = aQ (cy 3) 4 (fun _ => none) := by rw [hS24]; exact (pnew_n (fun z : lk = ln => hq_ln (by rw [← z]; exact hL345))).trans hf346
  have hL349 : lk ∈ S31.1 := by rw [hS31]; exact hL347
  have hf350 : S31.2 lk = aQ (cy 3) 4 (fun _ => none) := by rw [hS31]; exact (pup_n (fun z : lk = x => hp6 (by rw [z]; exact hL15))).trans hf348
  have hL351 : lk ∈ S34.1 := by rw [hS34]; exact List.mem_append_left _ hL349
  have hf352 : S34.2 lk = aQ (cy 3) 4 (fun _ => none) := by rw [hS34]; exact (pnew_n (fun z : lk = sl => hq_sl (by rw [← z]; exact hL349))).trans hf350
  have hL353 : lk ∈ S41.1 := by rw [hS41]; exact hL351
  have hf354 : S41.2 lk = aQ (cy 3) 4 (fun _ => none) := by rw [hS41]; exact (pup_n (fun z : lk = x => hp6 (by rw [z]; exact hL15))).trans hf352
  have hL355 : lk ∈ S44.1 := by rw [hS44]; exact List.mem_append_left _ hL353
  have hf356 : S44.2 lk = aQ (cy 3) 4 (fun _ => none) := by rw [hS44]; exact (pnew_n (fun z : lk = mk => hq_mk (by rw [← z]; exact hL353))).trans hf354
  have hL357 : lk ∈ S50.1 := by rw [hS50]; exact List.mem_append_left _ hL355
  have hf358 : S50.2 lk = aQ (cy 3) 4 (fun _ => none) := by rw [hS50]; exact (pnew_n (fun z : lk = mb => hp49 (by rw [← z]; exact hL355))).trans hf356
  have hL359 : lk ∈ S47.1 := by rw [hS55]; exact hL357
  have hf360 : S47.2 lk = aQ (cy 3) 4 (fun _ => none) := by rw [hS55]; exact (pup_n (fun z : lk = mk => hq_mk (by rw [← z]; exact hL353))).trans hf358
  have hL361 : lk ∈ S64.1 := by rw [hS64]; exact hL359
  have hf362 : S64.2 lk = aQ (cy 3) 4 (fun _ => none) := by rw [hS64]; exact (pup_n (fun z : lk = x => hp6 (by rw [z]; exact hL15))).trans hf360
  have hL363 : lk ∈ S73.1 := by rw [hS75]; exact hL361
  have hf364 : S73.2 lk = aQ (cy 3) 4 (fun _ => none) := by rw [hS75]; exact (pup_n (fun z : lk = mk => hq_mk (by rw [← z]; exact hL353))).trans hf362
  have hL365 : lk ∈ S78.1 := by rw [hS78]; exact List.mem_append_left _ hL363
  have hf366 : S78.2 lk = aQ (cy 3) 4 (fun _ => none) := by rw [hS78]; exact (pnew_n (fun z : lk = co => hq_co (by rw [← z]; exact hL363))).trans hf364
  have hL367 : lk ∈ S81.1 := by rw [hS83]; exact List.mem_append_left _ hL365
  have hf368 : S81.2 lk = aQ (cy 3) 4 (fun _ => none) := (hfr84 lk hL365 (fun z : lk = co => hq_co (by rw [← z]; exact hL363))).trans hf366
  have hL369 : lk ∈ S133.1 := by rw [hS133]; exact hL367
  have hf370 : S133.2 lk = aQ (cy 3) 4 (fun _ => none) := by rw [hS133]; exact (pup_n (fun z : lk = x => hp6 (by rw [z]; exact hL15))).trans hf368
  have hL371 : lk ∈ S136.1 := by rw [hS136]; exact List.mem_append_left _ hL369
  have hf372 : S136.2 lk = aQ (cy 3) 4 (fun _ => none) := by rw [hS136]; exact (pnew_n (fun z : lk = ca => hq_ca (by rw [← z]; exact hL369))).trans hf370
  have hL373 : lk ∈ S139.1 := by rw [hS141]; exact List.mem_append_left _ hL371
  have hf374 : S139.2 lk = aQ (cy 3) 4 (fun _ => none) := (hfr142 lk hL371 (fun z : lk = ca => hq_ca (by rw [← z]; exact hL369))).trans hf372
  have hL375 : lk ∈ S189.1 := by rw [hS189]; exact hL373
  have hf376 : S189.2 lk = aQ (cy 3) 4 (fun _ => none) := by rw [hS189]; exact (pup_n (fun z : lk = x => hp6 (by rw [z]; exact hL15))).trans hf374
  have hL377 : lk ∈ S192.1 := by rw [hS192]; exact List.mem_append_left _ hL375
  have hf378 : S192.2 lk = aQ (cy 3) 4 (fun _ => none) := by rw [hS192]; exact (pnew_n (fun z : lk = su => hq_su (by rw [← z]; exact hL375))).trans hf376
  have hL379 : lk ∈ S195.1 := by rw [hS197]; exact List.mem_append_left _ hL377
  have hf380 : S195.2 lk = aQ (cy 3) 4 (fun _ => none) := (hfr198 lk hL377 (fun z : lk = su => hq_su (by rw [← z]; exact hL375))).trans hf378
  have hL381 : lk ∈ S245.1 := by rw [hS245]; exact hL379
  have hf382 : S245.2 lk = aQ (cy 3) 4 (fun _ => none) := by rw [hS245]; exact (pup_n (fun z : lk = x => hp6 (by rw [z]; exact hL15))).trans hf380
  have hL383 : lk ∈ S248.1 := by rw [hS248]; exact List.mem_append_left _ hL381
  have hf384 : S248.2 lk = aQ (cy 3) 4 (fun _ => none) := by rw [hS248]; exact (pnew_n (fun z : lk = lt => hq_lt (by rw [← z]; exact hL381))).trans hf382
  have hL385 : lk ∈ S259.1 := by rw [hS259]; exact List.mem_append_left _ hL383
  have hf386 : S259.2 lk = aQ (cy 3) 4 (fun _ => none) := by rw [hS259]; exact (pnew_n (fun z : lk = lf => hp253 (by rw [← z]; exact hL383))).trans hf384
  have hL387 : lk ∈ S262.1 := by rw [hS262]; exact List.mem_append_left _ hL385
  have hf388 : S262.2 lk = aQ (cy 3) 4 (fun _ => none) := by rw [hS262]; exact (pnew_n (fun z : lk = lx => hq263 (by rw [← z]; exact hL385))).trans hf386
  have hL389 : lk ∈ S266.1 := by rw [hS266]; exact List.mem_append_left _ hL387
  have hf390 : S266.2 lk = aQ (cy 3) 4 (fun _ => none) := by rw [hS266]; exact (pnew_n (fun z : lk = lw => hq268 (by rw [← z]; exact hL387))).trans hf388
  have hL391 : lk ∈ S251.1 := by rw [hS277]; exact hL389
  have hf392 : S251.2 lk = aQ (cy 3) 4 (fun _ => none) := by rw [hS277]; exact (pup_n (fun z : lk = lt => hq_lt (by rw [← z]; exact hL381))).trans hf390
  have hL393 : lk ∈ S290.1 := by rw [hS290]; exact hL391
  have hf394 : S290.2 lk = aQ (cy 3) 4 (fun _ => none) := by rw [hS290]; exact (pup_n (fun z : lk = x => hp6 (by rw [z]; exact hL15))).trans hf392
  have hL395 : ln ∈ S31.1 := by rw [hS31]; exact hL25
  have hf396 : S31.2 ln = .inr (5, [.int (nI 0), .int (nI 0), .int (nI 0), .int (nI 0)]) := by rw [hS31]; exact (pup_n (fun z : ln = x => hq_ln (by rw [z]; exact hL22))).trans hf26
  have hL397 : ln ∈ S34.1 := by rw [hS34]; exact List.mem_append_left _ hL395
  have hf398 : S34.2 ln = .inr (5, [.int (nI 0), .int (nI 0), .int (nI 0), .int (nI 0)]) := by rw [hS34]; exact (pnew_n (fun z : ln = sl => hq_sl (by rw [← z]; exact hL395))).trans hf396
  have hL399 : ln ∈ S41.1 := by rw [hS41]; exact hL397
  have hf400 : S41.2 ln = .inr (5, [.int (nI 0), .int (nI 0), .int (nI 0), .int (nI 0)]) := by rw [hS41]; exact (pup_n (fun z : ln = x => hq_ln (by rw [z]; exact hL22))).trans hf398
  have hL401 : ln ∈ S44.1 := by rw [hS44]; exact List.mem_append_left _ hL399
  have hf402 : S44.2 ln = .inr (5, [.int (nI 0), .int (nI 0), .int (nI 0), .int (nI 0)]) := by rw [hS44]; exact (pnew_n (fun z : ln = mk => hq_mk (by rw [← z]; exact hL399))).trans hf400
  have hL403 : ln ∈ S50.1 := by rw [hS50]; exact List.mem_append_left _ hL401
  have hf404 : S50.2 ln = .inr (5, [.int (nI 0), .int (nI 0), .int (nI 0), .int (nI 0)]) := by rw [hS50]; exact (pnew_n (fun z : ln = mb => hp49 (by rw [← z]; exact hL401))).trans hf402
  have hL405 : ln ∈ S47.1 := by rw [hS55]; exact hL403
  have hf406 : S47.2 ln = .inr (5, [.int (nI 0), .int (nI 0), .int (nI 0), .int (nI 0)]) := by rw [hS55]; exact (pup_n (fun z : ln = mk => hq_mk (by rw [← z]; exact hL399))).trans hf404
  have hL407 : ln ∈ S64.1 := by rw [hS64]; exact hL405
  have hf408 : S64.2 ln = .inr (5, [.int (nI 0), .int (nI 0), .int (nI 0), .int (nI 0)]) := by rw [hS64]; exact (pup_n (fun z : ln = x => hq_ln (by rw [z]; exact hL22))).trans hf406
  have hL409 : ln ∈ S73.1 := by rw [hS75]; exact hL407
  have hf410 : S73.2 ln = .inr (5, [.int (nI 0), .int (nI 0), .int (nI 0), .int (nI 0)]) := by rw [hS75]; exact (pup_n (fun z : ln = mk => hq_mk (by rw [← z]; exact hL399))).trans hf408
  have hL411 : ln ∈ S78.1 := by rw [hS78]; exact List.mem_append_left _ hL409
  have hf412 : S78.2 ln = .inr (5, [.int (nI 0), .int (nI 0), .int (nI 0), .int (nI 0)]) := by rw [hS78]; exact (pnew_n (fun z : ln = co => hq_co (by rw [← z]; exact hL409))).trans hf410
  have hL413 : ln ∈ S81.1 := by rw [hS83]; exact List.mem_append_left _ hL411
  have hf414 : S81.2 ln = .inr (5, [.int (nI 0), .int (nI 0), .int (nI 0), .int (nI 0)]) := (hfr84 ln hL411 (fun z : ln = co => hq_co (by rw [← z]; exact hL409))).trans hf412
  have hL415 : ln ∈ S133.1 := by rw [hS133]; exact hL413
  have hf416 : S133.2 ln = .inr (5, [.int (nI 0), .int (nI 0), .int (nI 0), .int (nI 0)]) := by rw [hS133]; exact (pup_n (fun z : ln = x => hq_ln (by rw [z]; exact hL22))).trans hf414
  have hL417 : ln ∈ S136.1 := by rw [hS136]; exact List.mem_append_left _ hL415
  have hf418 : S136.2 ln = .inr (5, [.int (nI 0), .int (nI 0), .int (nI 0), .int (nI 0)]) := by rw [hS136]; exact (pnew_n (fun z : ln = ca => hq_ca (by rw [← z]; exact hL415))).trans hf416
  have hL419 : ln ∈ S139.1 := by rw [hS141]; exact List.mem_append_left _ hL417
  have hf420 : S139.2 ln = .inr (5, [.int (nI 0), .int (nI 0), .int (nI 0), .int (nI 0)]) := (hfr142 ln hL417 (fun z : ln = ca => hq_ca (by rw [← z]; exact hL415))).trans hf418
  have hL421 : ln ∈ S189.1 := by rw [hS189]; exact hL419
  have hf422 : S189.2 ln = .inr (5, [.int (nI 0), .int (nI 0), .int (nI 0), .int (nI 0)]) := by rw [hS189]; exact (pup_n (fun z : ln = x => hq_ln (by rw [z]; exact hL22))).trans hf420
  have hL423 : ln ∈ S192.1 := by rw [hS192]; exact List.mem_append_left _ hL421
  have hf424 : S192.2 ln = .inr (5, [.int (nI 0), .int (nI 0), .int (nI 0), .int (nI 0)]) := by rw [hS192]; exact (pnew_n (fun z : ln = su => hq_su (by rw [← z]; exact hL421))).trans hf422
  have hL425 : ln ∈ S195.1 := by rw [hS197]; exact List.mem_append_left _ hL423
  have hf426 : S195.2 ln = .inr (5, [.int (nI 0), .int (nI 0), .int (nI 0), .int (nI 0)]) := (hfr198 ln hL423 (fun z : ln = su => hq_su (by rw [← z]; exact hL421))).trans hf424
  have hL427 : ln ∈ S245.1 := by rw [hS245]; exact hL425
  have hf428 : S245.2 ln = .inr (5, [.int (nI 0), .int (nI 0), .int (nI 0), .int (nI 0)]) := by rw [hS245]; exact (pup_n (fun z : ln = x => hq_ln (by rw [z]; exact hL22))).trans hf426
  have hL429 : ln ∈ S248.1 := by rw [hS248]; exact List.mem_append_left _ hL427
  have hf430 : S248.2 ln = .inr (5, [.int (nI 0), .int (nI 0), .int (nI 0), .int (nI 0)]) := by rw [hS248]; exact (pnew_n (fun z : ln = lt => hq_lt (by rw [← z]; exact hL427))).trans hf428
  have hL431 : ln ∈ S259.1 := by rw [hS259]; exact List.mem_append_left _ hL429
  have hf432 : S259.2 ln = .inr (5, [.int (nI 0), .int (nI 0), .int (nI 0), .int (nI 0)]) := by rw [hS259]; exact (pnew_n (fun z : ln = lf => hp253 (by rw [← z]; exact hL429))).trans hf430
  have hL433 : ln ∈ S262.1 := by rw [hS262]; exact List.mem_append_left _ hL431
  have hf434 : S262.2 ln = .inr (5, [.int (nI 0), .int (nI 0), .int (nI 0), .int (nI 0)]) := by rw [hS262]; exact (pnew_n (fun z : ln = lx => hq263 (by rw [← z]; exact hL431))).trans hf432
  have hL435 : ln ∈ S266.1 := by rw [hS266]; exact List.mem_append_left _ hL433
  have hf436 : S266.2 ln = .inr (5, [.int (nI 0), .int (nI 0), .int (nI 0), .int (nI 0)]) := by rw [hS266]; exact (pnew_n (fun z : ln = lw => hq268 (by rw [← z]; exact hL433))).trans hf434
  have hL437 : ln ∈ S251.1 := by rw [hS277]; exact hL435
  have hf438 : S251.2 ln = .inr (5, [.int (nI 0), .int (nI 0), .int (nI 0), .int (nI 0)]) := by rw [hS277]; exact (pup_n (fun z : ln = lt => hq_lt (by rw [← z]; exact hL427))).trans hf436
  have hL439 : ln ∈ S290.1 := by rw [hS290]; exact hL437
  have hf440 : S290.2 ln = .inr (5, [.int (nI 0), .int (nI 0), .int (nI 0), .int (nI 0)]) := by rw [hS290]; exact (pup_n (fun z : ln = x => hq_ln (by rw [z]; exact hL22))).trans hf438
  have hL441 : sl ∈ S41.1 := by rw [hS41]; exact hL35
  have hf442 : S41.2 sl = .inr (5, [.int (nI 0), .int (nI 0), .int (nI 0), .int (nI 0)]) := by rw [hS41]; exact (pup_n (fun z : sl = x => hq_sl (by rw [z]; exact hL32))).trans hf36
  have hL443 : sl ∈ S44.1 := by rw [hS44]; exact List.mem_append_left _ hL441
  have hf444 : S44.2 sl = .inr (5, [.int (nI 0), .int (nI 0), .int (nI 0), .int (nI 0)]) := by rw [hS44]; exact (pnew_n (fun z : sl = mk => hq_mk (by rw [← z]; exact hL441))).trans hf442
  have hL445 : sl ∈ S50.1 := by rw [hS50]; exact List.mem_append_left _ hL443
  have hf446 : S50.2 sl = .inr (5, [.int (nI 0), .int (nI 0), .int (nI 0), .int (nI 0)]) := by rw [hS50]; exact (pnew_n (fun z : sl = mb => hp49 (by rw [← z]; exact hL443))).trans hf444
  have hL447 : sl ∈ S47.1 := by rw [hS55]; exact hL445
  have hf448 : S47.2 sl = .inr (5, [.int (nI 0), .int (nI 0), .int (nI 0), .int (nI 0)]) := by rw [hS55]; exact (pup_n (fun z : sl = mk => hq_mk (by rw [← z]; exact hL441))).trans hf446
  have hL449 : sl ∈ S64.1 := by rw [hS64]; exact hL447
  have hf450 : S64.2 sl = .inr (5, [.int (nI 0), .int (nI 0), .int (nI 0), .int (nI 0)]) := by rw [hS64]; exact (pup_n (fun z : sl = x => hq_sl (by rw [z]; exact hL32))).trans hf448
  have hL451 : sl ∈ S73.1 := by rw [hS75]; exact hL449
  have hf452 : S73.2 sl = .inr (5, [.int (nI 0), .int (nI 0), .int (nI 0), .int (nI 0)]) := by rw [hS75]; exact (pup_n (fun z : sl = mk => hq_mk (by rw [← z]; exact hL441))).trans hf450
  have hL453 : sl ∈ S78.1 := by rw [hS78]; exact List.mem_append_left _ hL451
  have hf454 : S78.2 sl = .inr (5, [.int (nI 0), .int (nI 0), .int (nI 0), .int (nI 0)]) := by rw [hS78]; exact (pnew_n (fun z : sl = co => hq_co (by rw [← z]; exact hL451))).trans hf452
  have hL455 : sl ∈ S81.1 := by rw [hS83]; exact List.mem_append_left _ hL453
  have hf456 : S81.2 sl = .inr (5, [.int (nI 0), .int (nI 0), .int (nI 0), .int (nI 0)]) := (hfr84 sl hL453 (fun z : sl = co => hq_co (by rw [← z]; exact hL451))).trans hf454
  have hL457 : sl ∈ S133.1 := by rw [hS133]; exact hL455
  have hf458 : S133.2 sl = .inr (5, [.int (nI 0), .int (nI 0), .int (nI 0), .int (nI 0)]) := by rw [hS133]; exact (pup_n (fun z : sl = x => hq_sl (by rw [z]; exact hL32))).trans hf456
  have hL459 : sl ∈ S136.1 := by rw [hS136]; exact List.mem_append_left _ hL457
  have hf460 : S136.2 sl = .inr (5, [.int (nI 0), .int (nI 0), .int (nI 0), .int (nI 0)]) := by rw [hS136]; exact (pnew_n (fun z : sl = ca => hq_ca (by rw [← z]; exact hL457))).trans hf458
  have hL461 : sl ∈ S139.1 := by rw [hS141]; exact List.mem_append_left _ hL459
  have hf462 : S139.2 sl = .inr (5, [.int (nI 0), .int (nI 0), .int (nI 0), .int (nI 0)]) := (hfr142 sl hL459 (fun z : sl = ca => hq_ca (by rw [← z]; exact hL457))).trans hf460
  have hL463 : sl ∈ S189.1 := by rw [hS189]; exact hL461
  have hf464 : S189.2 sl = .inr (5, [.int (nI 0), .int (nI 0), .int (nI 0), .int (nI 0)]) := by rw [hS189]; exact (pup_n (fun z : sl = x => hq_sl (by rw [z]; exact hL32))).trans hf462
  have hL465 : sl ∈ S192.1 := by rw [hS192]; exact List.mem_append_left _ hL463
  have hf466 : S192.2 sl = .inr (5, [.int (nI 0), .int (nI 0), .int (nI 0), .int (nI 0)]) := by rw [hS192]; exact (pnew_n (fun z : sl = su => hq_su (by rw [← z]; exact hL463))).trans hf464
  have hL467 : sl ∈ S195.1 := by rw [hS197]; exact List.mem_append_left _ hL465
  have hf468 : S195.2 sl = .inr (5, [.int (nI 0), .int (nI 0), .int (nI 0), .int (nI 0)]) := (hfr198 sl hL465 (fun z : sl = su => hq_su (by rw [← z]; exact hL463))).trans hf466
  have hL469 : sl ∈ S245.1 := by rw [hS245]; exact hL467
  have hf470 : S245.2 sl = .inr (5, [.int (nI 0), .int (nI 0), .int (nI 0), .int (nI 0)]) := by rw [hS245]; exact (pup_n (fun z : sl = x => hq_sl (by rw [z]; exact hL32))).trans hf468
  have hL471 : sl ∈ S248.1 := by rw [hS248]; exact List.mem_append_left _ hL469
  have hf472 : S248.2 sl = .inr (5, [.int (nI 0), .int (nI 0), .int (nI 0), .int (nI 0)]) := by rw [hS248]; exact (pnew_n (fun z : sl = lt => hq_lt (by rw [← z]; exact hL469))).trans hf470
  have hL473 : sl ∈ S259.1 := by rw [hS259]; exact List.mem_append_left _ hL471
  have hf474 : S259.2 sl = .inr (5, [.int (nI 0), .int (nI 0), .int (nI 0), .int (nI 0)]) := by rw [hS259]; exact (pnew_n (fun z : sl = lf => hp253 (by rw [← z]; exact hL471))).trans hf472
  have hL475 : sl ∈ S262.1 := by rw [hS262]; exact List.mem_append_left _ hL473
  have hf476 : S262.2 sl = .inr (5, [.int (nI 0), .int (nI 0), .int (nI 0), .int (nI 0)]) := by rw [hS262]; exact (pnew_n (fun z : sl = lx => hq263 (by rw [← z]; exact hL473))).trans hf474
  have hL477 : sl ∈ S266.1 := by rw [hS266]; exact List.mem_append_left _ hL475
  have hf478 : S266.2 sl = .inr (5, [.int (nI 0), .int (nI 0), .int (nI 0), .int (nI 0)]) := by rw [hS266]; exact (pnew_n (fun z : sl = lw => hq268 (by rw [← z]; exact hL475))).trans hf476
  have hL479 : sl ∈ S251.1 := by rw [hS277]; exact hL477
  have hf480 : S251.2 sl = .inr (5, [.int (nI 0), .int (nI 0), .int (nI 0), .int (nI 0)]) := by rw [hS277]; exact (pup_n (fun z : sl = lt => hq_lt (by rw [← z]; exact hL469))).trans hf478
  have hL481 : sl ∈ S290.1 := by rw [hS290]; exact hL479
  have hf482 : S290.2 sl = .inr (5, [.int (nI 0), .int (nI 0), .int (nI 0), .int (nI 0)]) := by rw [hS290]; exact (pup_n (fun z : sl = x => hq_sl (by rw [z]; exact hL32))).trans hf480
  have hL483 : mk ∈ S78.1 := by rw [hS78]; exact List.mem_append_left _ hL76
  have hf484 : S78.2 mk = .inr (7, [.ref mb, .int (nI 320)]) := by rw [hS78]; exact (pnew_n (fun z : mk = co => hq_co (by rw [← z]; exact hL76))).trans hf77
  have hL485 : mk ∈ S81.1 := by rw [hS83]; exact List.mem_append_left _ hL483
  have hf486 : S81.2 mk = .inr (7, [.ref mb, .int (nI 320)]) := (hfr84 mk hL483 (fun z : mk = co => hq_co (by rw [← z]; exact hL76))).trans hf484
  have hL487 : mk ∈ S133.1 := by rw [hS133]; exact hL485
  have hf488 : S133.2 mk = .inr (7, [.ref mb, .int (nI 320)]) := by rw [hS133]; exact (pup_n (fun z : mk = x => hq_mk (by rw [z]; exact hL42))).trans hf486
  have hL489 : mk ∈ S136.1 := by rw [hS136]; exact List.mem_append_left _ hL487
  have hf490 : S136.2 mk = .inr (7, [.ref mb, .int (nI 320)]) := by rw [hS136]; exact (pnew_n (fun z : mk = ca => hq_ca (by rw [← z]; exact hL487))).trans hf488
  have hL491 : mk ∈ S139.1 := by rw [hS141]; exact List.mem_append_left _ hL489
  have hf492 : S139.2 mk = .inr (7, [.ref mb, .int (nI 320)]) := (hfr142 mk hL489 (fun z : mk = ca => hq_ca (by rw [← z]; exact hL487))).trans hf490
  have hL493 : mk ∈ S189.1 := by rw [hS189]; exact hL491
  have hf494 : S189.2 mk = .inr (7, [.ref mb, .int (nI 320)]) := by rw [hS189]; exact (pup_n (fun z : mk = x => hq_mk (by rw [z]; exact hL42))).trans hf492
  have hL495 : mk ∈ S192.1 := by rw [hS192]; exact List.mem_append_left _ hL493
  have hf496 : S192.2 mk = .inr (7, [.ref mb, .int (nI 320)]) := by rw [hS192]; exact (pnew_n (fun z : mk = su => hq_su (by rw [← z]; exact hL493))).trans hf494
  have hL497 : mk ∈ S195.1 := by rw [hS197]; exact List.mem_append_left _ hL495
  have hf498 : S195.2 mk = .inr (7, [.ref mb, .int (nI 320)]) := (hfr198 mk hL495 (fun z : mk = su => hq_su (by rw [← z]; exact hL493))).trans hf496
  have hL499 : mk ∈ S245.1 := by rw [hS245]; exact hL497
  have hf500 : S245.2 mk = .inr (7, [.ref mb, .int (nI 320)]) := by rw [hS245]; exact (pup_n (fun z : mk = x => hq_mk (by rw [z]; exact hL42))).trans hf498
  have hL501 : mk ∈ S248.1 := by rw [hS248]; exact List.mem_append_left _ hL499
  have hf502 : S248.2 mk = .inr (7, [.ref mb, .int (nI 320)]) := by rw [hS248]; exact (pnew_n (fun z : mk = lt => hq_lt (by rw [← z]; exact hL499))).trans hf500
  have hL503 : mk ∈ S259.1 := by rw [hS259]; exact List.mem_append_left _ hL501
  have hf504 : S259.2 mk = .inr (7, [.ref mb, .int (nI 320)]) := by rw [hS259]; exact (pnew_n (fun z : mk = lf => hp253 (by rw [← z]; exact hL501))).trans hf502
  have hL505 : mk ∈ S262.1 := by rw [hS262]; exact List.mem_append_left _ hL503
  have hf506 : S262.2 mk = .inr (7, [.ref mb, .int (nI 320)]) := by rw [hS262]; exact (pnew_n (fun z : mk = lx => hq263 (by rw [← z]; exact hL503))).trans hf504
  have hL507 : mk ∈ S266.1 := by rw [hS266]; exact List.mem_append_left _ hL505
  have hf508 : S266.2 mk = .inr (7, [.ref mb, .int (nI 320)]) := by rw [hS266]; exact (pnew_n (fun z : mk = lw => hq268 (by rw [← z]; exact hL505))).trans hf506
  have hL509 : mk ∈ S251.1 := by rw [hS277]; exact hL507
  have hf510 : S251.2 mk = .inr (7, [.ref mb, .int (nI 320)]) := by rw [hS277]; exact (pup_n (fun z : mk = lt => hq_lt (by rw [← z]; exact hL499))).trans hf508
  have hL511 : mk ∈ S290.1 := by rw [hS290]; exact hL509
  have hf512 : S290.2 mk = .inr (7, [.ref mb, .int (nI 320)]) := by rw [hS290]; exact (pup_n (fun z : mk = x => hq_mk (by rw [z]; exact hL42))).trans hf510
  have hL513 : mb ∈ S73.1 := by rw [hS75]; exact hL71
  have hf514 : S73.2 mb = aN (cy 0) 320 (fun _ => 0) := by rw [hS75]; exact (pup_n (fun z : mb = mk => hp49 (by rw [z]; exact hL45))).trans hf72
  have hL515 : mb ∈ S78.1 := by rw [hS78]; exact List.mem_append_left _ hL513
  have hf516 : S78.2 mb = aN (cy 0) 320 (fun _ => 0) := by rw [hS78]; exact (pnew_n (fun z : mb = co => hq_co (by rw [← z]; exact hL513))).trans hf514
  have hL517 : mb ∈ S81.1 := by rw [hS83]; exact List.mem_append_left _ hL515
  have hf518 : S81.2 mb = aN (cy 0) 320 (fun _ => 0) := (hfr84 mb hL515 (fun z : mb = co => hq_co (by rw [← z]; exact hL513))).trans hf516
  have hL519 : mb ∈ S133.1 := by rw [hS133]; exact hL517
  have hf520 : S133.2 mb = aN (cy 0) 320 (fun _ => 0) := by rw [hS133]; exact (pup_n (fun z : mb = x => hp49 (by rw [z]; exact hL58))).trans hf518
  have hL521 : mb ∈ S136.1 := by rw [hS136]; exact List.mem_append_left _ hL519
  have hf522 : S136.2 mb = aN (cy 0) 320 (fun _ => 0) := by rw [hS136]; exact (pnew_n (fun z : mb = ca => hq_ca (by rw [← z]; exact hL519))).trans hf520
  have hL523 : mb ∈ S139.1 := by rw [hS141]; exact List.mem_append_left _ hL521
  have hf524 : S139.2 mb = aN (cy 0) 320 (fun _ => 0) := (hfr142 mb hL521 (fun z : mb = ca => hq_ca (by rw [← z]; exact hL519))).trans hf522
  have hL525 : mb ∈ S189.1 := by rw [hS189]; exact hL523
  have hf526 : S189.2 mb = aN (cy 0) 320 (fun _ => 0) := by rw [hS189]; exact (pup_n (fun z : mb = x => hp49 (by rw [z]; exact hL58))).trans hf524
  have hL527 : mb ∈ S192.1 := by rw [hS192]; exact List.mem_append_left _ hL525
  have hf528 : S192.2 mb = aN (cy 0) 320 (fun _ => 0) := by rw [hS192]; exact (pnew_n (fun z : mb = su => hq_su (by rw [← z]; exact hL525))).trans hf526
  have hL529 : mb ∈ S195.1 := by rw [hS197]; exact List.mem_append_left _ hL527
  have hf530 : S195.2 mb = aN (cy 0) 320 (fun _ => 0) := (hfr198 mb hL527 (fun z : mb = su => hq_su (by rw [← z]; exact hL525))).trans hf528
  have hL531 : mb ∈ S245.1 := by rw [hS245]; exact hL529
  have hf532 : S245.2 mb = aN (cy 0) 320 (fun _ => 0) := by rw [hS245]; exact (pup_n (fun z : mb = x => hp49 (by rw [z]; exact hL58))).trans hf530
  have hL533 : mb ∈ S248.1 := by rw [hS248]; exact List.mem_append_left _ hL531
  have hf534 : S248.2 mb = aN (cy 0) 320 (fun _ => 0) := by rw [hS248]; exact (pnew_n (fun z : mb = lt => hq_lt (by rw [← z]; exact hL531))).trans hf532
  have hL535 : mb ∈ S259.1 := by rw [hS259]; exact List.mem_append_left _ hL533
  have hf536 : S259.2 mb = aN (cy 0) 320 (fun _ => 0) := by rw [hS259]; exact (pnew_n (fun z : mb = lf => hp253 (by rw [← z]; exact hL533))).trans hf534
  have hL537 : mb ∈ S262.1 := by rw [hS262]; exact List.mem_append_left _ hL535
  have hf538 : S262.2 mb = aN (cy 0) 320 (fun _ => 0) := by rw [hS262]; exact (pnew_n (fun z : mb = lx => hq263 (by rw [← z]; exact hL535))).trans hf536
  have hL539 : mb ∈ S266.1 := by rw [hS266]; exact List.mem_append_left _ hL537
  have hf540 : S266.2 mb = aN (cy 0) 320 (fun _ => 0) := by rw [hS266]; exact (pnew_n (fun z : mb = lw => hq268 (by rw [← z]; exact hL537))).trans hf538
  have hL541 : mb ∈ S251.1 := by rw [hS277]; exact hL539
  have hf542 : S251.2 mb = aN (cy 0) 320 (fun _ => 0) := by rw [hS277]; exact (pup_n (fun z : mb = lt => hq_lt (by rw [← z]; exact hL531))).trans hf540
  have hL543 : mb ∈ S290.1 := by rw [hS290]; exact hL541
  have hf544 : S290.2 mb = aN (cy 0) 320 (fun _ => 0) := by rw [hS290]; exact (pup_n (fun z : mb = x => hp49 (by rw [z]; exact hL58))).trans hf542
  have hL545 : co ∈ S133.1 := by rw [hS133]; exact hL113
  have hf546 : S133.2 co = .inr (4, [.ref col, .ref con]) := by rw [hS133]; exact (pup_n (fun z : co = x => hq_co (by rw [z]; exact hL127))).trans hf85
  have hL547 : co ∈ S136.1 := by rw [hS136]; exact List.mem_append_left _ hL545
  have hf548 : S136.2 co = .inr (4, [.ref col, .ref con]) := by rw [hS136]; exact (pnew_n (fun z : co = ca => hq_ca (by rw [← z]; exact hL545))).trans hf546
  have hL549 : co ∈ S139.1 := by rw [hS141]; exact List.mem_append_left _ hL547
  have hf550 : S139.2 co = .inr (4, [.ref col, .ref con]) := (hfr142 co hL547 (fun z : co = ca => hq_ca (by rw [← z]; exact hL545))).trans hf548
  have hL551 : co ∈ S189.1 := by rw [hS189]; exact hL549
  have hf552 : S189.2 co = .inr (4, [.ref col, .ref con]) := by rw [hS189]; exact (pup_n (fun z : co = x => hq_co (by rw [z]; exact hL127))).trans hf550
  have hL553 : co ∈ S192.1 := by rw [hS192]; exact List.mem_append_left _ hL551
  have hf554 : S192.2 co = .inr (4, [.ref col, .ref con]) := by rw [hS192]; exact (pnew_n (fun z : co = su => hq_su (by rw [← z]; exact hL551))).trans hf552
  have hL555 : co ∈ S195.1 := by rw [hS197]; exact List.mem_append_left _ hL553
  have hf556 : S195.2 co = .inr (4, [.ref col, .ref con]) := (hfr198 co hL553 (fun z : co = su => hq_su (by rw [← z]; exact hL551))).trans hf554
  have hL557 : co ∈ S245.1 := by rw [hS245]; exact hL555
  have hf558 : S245.2 co = .inr (4, [.ref col, .ref con]) := by rw [hS245]; exact (pup_n (fun z : co = x => hq_co (by rw [z]; exact hL127))).trans hf556
  have hL559 : co ∈ S248.1 := by rw [hS248]; exact List.mem_append_left _ hL557
  have hf560 : S248.2 co = .inr (4, [.ref col, .ref con]) := by rw [hS248]; exact (pnew_n (fun z : co = lt => hq_lt (by rw [← z]; exact hL557))).trans hf558
  have hL561 : co ∈ S259.1 := by rw [hS259]; exact List.mem_append_left _ hL559
  have hf562 : S259.2 co = .inr (4, [.ref col, .ref con]) := by rw [hS259]; exact (pnew_n (fun z : co = lf => hp253 (by rw [← z]; exact hL559))).trans hf560
  have hL563 : co ∈ S262.1 := by rw [hS262]; exact List.mem_append_left _ hL561
  have hf564 : S262.2 co = .inr (4, [.ref col, .ref con]) := by rw [hS262]; exact (pnew_n (fun z : co = lx => hq263 (by rw [← z]; exact hL561))).trans hf562
  have hL565 : co ∈ S266.1 := by rw [hS266]; exact List.mem_append_left _ hL563
  have hf566 : S266.2 co = .inr (4, [.ref col, .ref con]) := by rw [hS266]; exact (pnew_n (fun z : co = lw => hq268 (by rw [← z]; exact hL563))).trans hf564
  have hL567 : co ∈ S251.1 := by rw [hS277]; exact hL565
  have hf568 : S251.2 co = .inr (4, [.ref col, .ref con]) := by rw [hS277]; exact (pup_n (fun z : co = lt => hq_lt (by rw [← z]; exact hL557))).trans hf566
  have hL569 : co ∈ S290.1 := by rw [hS290]; exact hL567
  have hf570 : S290.2 co = .inr (4, [.ref col, .ref con]) := by rw [hS290]; exact (pup_n (fun z : co = x => hq_co (by rw [z]; exact hL127))).trans hf568
  have hL571 : col ∈ S133.1 := by rw [hS133]; exact hL114
  have hf572 : S133.2 col = aQ (cy 2) 5 (va_up (va_up (va_up (va_up (va_up (fun _ => none) 0 (some cor0)) 1 (some cor1)) 2 (some cor2)) 3 (some cor3)) 4 (some cor4)) := by rw [hS133]; exact (pup_n (fun z : col = x => hq100 (by rw [z]; exact hL129))).trans hf86
  have hL573 : col ∈ S136.1 := by rw [hS136]; exact List.mem_append_left _ hL571
  have hf574 : S136.2 col = aQ (cy 2) 5 (va_up (va_up (va_up (va_up (va_up (fun _ => none) 0 (some cor0)) 1 (some cor1)) 2 (some cor2)) 3 (some cor3)) 4 (some cor4)) := by rw [hS136]; exact (pnew_n (fun z : col = ca => hq_ca (by rw [← z]; exact hL571))).trans hf572
  have hL575 : col ∈ S139.1 := by rw [hS141]; exact List.mem_append_left _ hL573
  have hf576 : S139.2 col = aQ (cy 2) 5 (va_up (va_up (va_up (va_up (va_up (fun _ => none) 0 (some cor0)) 1 (some cor1)) 2 (some cor2)) 3 (some cor3)) 4 (some cor4)) := (hfr142 col hL573 (fun z : col = ca => hq_ca (by rw [← z]; exact hL571))).trans hf574
  have hL577 : col ∈ S189.1 := by rw [hS189]; exact hL575
  have hf578 : S189.2 col = aQ (cy 2) 5 (va_up (va_up (va_up (va_up (va_up (fun _ => none) 0 (some cor0)) 1 (some cor1)) 2 (some cor2)) 3 (some cor3)) 4 (some cor4)) := by rw [hS189]; exact (pup_n (fun z : col = x => hq100 (by rw [z]; exact hL129))).trans hf576
  have hL579 : col ∈ S192.1 := by rw [hS192]; exact List.mem_append_left _ hL577
  have hf580 : S192.2 col = aQ (cy 2) 5 (va_up (va_up (va_up (va_up (va_up (fun _ => none) 0 (some cor0)) 1 (some cor1)) 2 (some cor2)) 3 (some cor3)) 4 (some cor4)) := by rw [hS192]; exact (pnew_n (fun z : col = su => hq_su (by rw [← z]; exact hL577))).trans hf578
  have hL581 : col ∈ S195.1 := by rw [hS197]; exact List.mem_append_left _ hL579
  have hf582 : S195.2 col = aQ (cy 2) 5 (va_up (va_up (va_up (va_up (va_up (fun _ => none) 0 (some cor0)) 1 (some cor1)) 2 (some cor2)) 3 (some cor3)) 4 (some cor4)) := (hfr198 col hL579 (fun z : col = su => hq_su (by rw [← z]; exact hL577))).trans hf580
  have hL583 : col ∈ S245.1 := by rw [hS245]; exact hL581
  have hf584 : S245.2 col = aQ (cy 2) 5 (va_up (va_up (va_up (va_up (va_up (fun _ => none) 0 (some cor0)) 1 (some cor1)) 2 (some cor2)) 3 (some cor3)) 4 (some cor4)) := by rw [hS245]; exact (pup_n (fun z : col = x => hq100 (by rw [z]; exact hL129))).trans hf582
  have hL585 : col ∈ S248.1 := by rw [hS248]; exact List.mem_append_left _ hL583
  have hf586 : S248.2 col = aQ (cy 2) 5 (va_up (va_up (va_up (va_up (va_up (fun _ => none) 0 (some cor0)) 1 (some cor1)) 2 (some cor2)) 3 (some cor3)) 4 (some cor4)) := by rw [hS248]; exact (pnew_n (fun z : col = lt => hq_lt (by rw [← z]; exact hL583))).trans hf584
  have hL587 : col ∈ S259.1 := by rw [hS259]; exact List.mem_append_left _ hL585
  have hf588 : S259.2 col = aQ (cy 2) 5 (va_up (va_up (va_up (va_up (va_up (fun _ => none) 0 (some cor0)) 1 (some cor1)) 2 (some cor2)) 3 (some cor3)) 4 (some cor4)) := by rw [hS259]; exact (pnew_n (fun z : col = lf => hp253 (by rw [← z]; exact hL585))).trans hf586
  have hL589 : col ∈ S262.1 := by rw [hS262]; exact List.mem_append_left _ hL587
  have hf590 : S262.2 col = aQ (cy 2) 5 (va_up (va_up (va_up (va_up (va_up (fun _ => none) 0 (some cor0)) 1 (some cor1)) 2 (some cor2)) 3 (some cor3)) 4 (some cor4)) := by rw [hS262]; exact (pnew_n (fun z : col = lx => hq263 (by rw [← z]; exact hL587))).trans hf588
  have hL591 : col ∈ S266.1 := by rw [hS266]; exact List.mem_append_left _ hL589
  have hf592 : S266.2 col = aQ (cy 2) 5 (va_up (va_up (va_up (va_up (va_up (fun _ => none) 0 (some cor0)) 1 (some cor1)) 2 (some cor2)) 3 (some cor3)) 4 (some cor4)) := by rw [hS266]; exact (pnew_n (fun z : col = lw => hq268 (by rw [← z]; exact hL589))).trans hf590
  have hL593 : col ∈ S251.1 := by rw [hS277]; exact hL591
  have hf594 : S251.2 col = aQ (cy 2) 5 (va_up (va_up (va_up (va_up (va_up (fun _ => none) 0 (some cor0)) 1 (some cor1)) 2 (some cor2)) 3 (some cor3)) 4 (some cor4)) := by rw [hS277]; exact (pup_n (fun z : col = lt => hq_lt (by rw [← z]; exact hL583))).trans hf592
  have hL595 : col ∈ S290.1 := by rw [hS290]; exact hL593
  have hf596 : S290.2 col = aQ (cy 2) 5 (va_up (va_up (va_up (va_up (va_up (fun _ => none) 0 (some cor0)) 1 (some cor1)) 2 (some cor2)) 3 (some cor3)) 4 (some cor4)) := by rw [hS290]; exact (pup_n (fun z : col = x => hq100 (by rw [z]; exact hL129))).trans hf594
  have hL597 : con ∈ S133.1 := by rw [hS133]; exact hL115
  have hf598 : S133.2 con = .inr (7, [.ref com, .int (nI 0)]) := by rw [hS133]; exact (pup_n (fun z : con = x => hq101 (by rw [z]; exact hL129))).trans hf87
  have hL599 : con ∈ S136.1 := by rw [hS136]; exact List.mem_append_left _ hL597
  have hf600 : S136.2 con = .inr (7, [.ref com, .int (nI 0)]) := by rw [hS136]; exact (pnew_n (fun z : con = ca => hq_ca (by rw [← z]; exact hL597))).trans hf598
  have hL601 : con ∈ S139.1 := by rw [hS141]; exact List.mem_append_left _ hL599
  have hf602 : S139.2 con = .inr (7, [.ref com, .int (nI 0)]) := (hfr142 con hL599 (fun z : con = ca => hq_ca (by rw [← z]; exact hL597))).trans hf600
  have hL603 : con ∈ S189.1 := by rw [hS189]; exact hL601
  have hf604 : S189.2 con = .inr (7, [.ref com, .int (nI 0)]) := by rw [hS189]; exact (pup_n (fun z : con = x => hq101 (by rw [z]; exact hL129))).trans hf602
  have hL605 : con ∈ S192.1 := by rw [hS192]; exact List.mem_append_left _ hL603
  have hf606 : S192.2 con = .inr (7, [.ref com, .int (nI 0)]) := by rw [hS192]; exact (pnew_n (fun z : con = su => hq_su (by rw [← z]; exact hL603))).trans hf604
  have hL607 : con ∈ S195.1 := by rw [hS197]; exact List.mem_append_left _ hL605
  have hf608 : S195.2 con = .inr (7, [.ref com, .int (nI 0)]) := (hfr198 con hL605 (fun z : con = su => hq_su (by rw [← z]; exact hL603))).trans hf606
  have hL609 : con ∈ S245.1 := by rw [hS245]; exact hL607
  have hf610 : S245.2 con = .inr (7, [.ref com, .int (nI 0)]) := by rw [hS245]; exact (pup_n (fun z : con = x => hq101 (by rw [z]; exact hL129))).trans hf608
  have hL611 : con ∈ S248.1 := by rw [hS248]; exact List.mem_append_left _ hL609
  have hf612 : S248.2 con = .inr (7, [.ref com, .int (nI 0)]) := by rw [hS248]; exact (pnew_n (fun z : con = lt => hq_lt (by rw [← z]; exact hL609))).trans hf610
  have hL613 : con ∈ S259.1 := by rw [hS259]; exact List.mem_append_left _ hL611
  have hf614 : S259.2 con = .inr (7, [.ref com, .int (nI 0)]) := by rw [hS259]; exact (pnew_n (fun z : con = lf => hp253 (by rw [← z]; exact hL611))).trans hf612
  have hL615 : con ∈ S262.1 := by rw [hS262]; exact List.mem_append_left _ hL613
  have hf616 : S262.2 con = .inr (7, [.ref com, .int (nI 0)]) := by rw [hS262]; exact (pnew_n (fun z : con = lx => hq263 (by rw [← z]; exact hL613))).trans hf614
  have hL617 : con ∈ S266.1 := by rw [hS266]; exact List.mem_append_left _ hL615
  have hf618 : S266.2 con = .inr (7, [.ref com, .int (nI 0)]) := by rw [hS266]; exact (pnew_n (fun z : con = lw => hq268 (by rw [← z]; exact hL615))).trans hf616
  have hL619 : con ∈ S251.1 := by rw [hS277]; exact hL617
  have hf620 : S251.2 con = .inr (7, [.ref com, .int (nI 0)]) := by rw [hS277]; exact (pup_n (fun z : con = lt => hq_lt (by rw [← z]; exact hL609))).trans hf618
  have hL621 : con ∈ S290.1 := by rw [hS290]; exact hL619
  have hf622 : S290.2 con = .inr (7, [.ref com, .int (nI 0)]) := by rw [hS290]; exact (pup_n (fun z : con = x => hq101 (by rw [z]; exact hL129))).trans hf620
  have hL623 : com ∈ S133.1 := by rw [hS133]; exact hL116
  have hf624 : S133.2 com = aN (cy 0) 0 (fun _ => 0) := by rw [hS133]; exact (pup_n (fun z : com = x => hq102 (by rw [z]; exact hL129))).trans hf88
  have hL625 : com ∈ S136.1 := by rw [hS136]; exact List.mem_append_left _ hL623
  have hf626 : S136.2 com = aN (cy 0) 0 (fun _ => 0) := by rw [hS136]; exact (pnew_n (fun z : com = ca => hq_ca (by rw [← z]; exact hL623))).trans hf624
  have hL627 : com ∈ S139.1 := by rw [hS141]; exact List.mem_append_left _ hL625
  have hf628 : S139.2 com = aN (cy 0) 0 (fun _ => 0) := (hfr142 com hL625 (fun z : com = ca => hq_ca (by rw [← z]; exact hL623))).trans hf626
  have hL629 : com ∈ S189.1 := by rw [hS189]; exact hL627
  have hf630 : S189.2 com = aN (cy 0) 0 (fun _ => 0) := by rw [hS189]; exact (pup_n (fun z : com = x => hq102 (by rw [z]; exact hL129))).trans hf628
  have hL631 : com ∈ S192.1 := by rw [hS192]; exact List.mem_append_left _ hL629
  have hf632 : S192.2 com = aN (cy 0) 0 (fun _ => 0) := by rw [hS192]; exact (pnew_n (fun z : com = su => hq_su (by rw [← z]; exact hL629))).trans hf630
  have hL633 : com ∈ S195.1 := by rw [hS197]; exact List.mem_append_left _ hL631
  have hf634 : S195.2 com = aN (cy 0) 0 (fun _ => 0) := (hfr198 com hL631 (fun z : com = su => hq_su (by rw [← z]; exact hL629))).trans hf632
  have hL635 : com ∈ S245.1 := by rw [hS245]; exact hL633
  have hf636 : S245.2 com = aN (cy 0) 0 (fun _ => 0) := by rw [hS245]; exact (pup_n (fun z : com = x => hq102 (by rw [z]; exact hL129))).trans hf634
  have hL637 : com ∈ S248.1 := by rw [hS248]; exact List.mem_append_left _ hL635
  have hf638 : S248.2 com = aN (cy 0) 0 (fun _ => 0) := by rw [hS248]; exact (pnew_n (fun z : com = lt => hq_lt (by rw [← z]; exact hL635))).trans hf636
  have hL639 : com ∈ S259.1 := by rw [hS259]; exact List.mem_append_left _ hL637
  have hf640 : S259.2 com = aN (cy 0) 0 (fun _ => 0) := by rw [hS259]; exact (pnew_n (fun z : com = lf => hp253 (by rw [← z]; exact hL637))).trans hf638
  have hL641 : com ∈ S262.1 := by rw [hS262]; exact List.mem_append_left _ hL639
  have hf642 : S262.2 com = aN (cy 0) 0 (fun _ => 0) := by rw [hS262]; exact (pnew_n (fun z : com = lx => hq263 (by rw [← z]; exact hL639))).trans hf640
  have hL643 : com ∈ S266.1 := by rw [hS266]; exact List.mem_append_left _ hL641
  have hf644 : S266.2 com = aN (cy 0) 0 (fun _ => 0) := by rw [hS266]; exact (pnew_n (fun z : com = lw => hq268 (by rw [← z]; exact hL641))).trans hf642
  have hL645 : com ∈ S251.1 := by rw [hS277]; exact hL643
  have hf646 : S251.2 com = aN (cy 0) 0 (fun _ => 0) := by rw [hS277]; exact (pup_n (fun z : com = lt => hq_lt (by rw [← z]; exact hL635))).trans hf644
  have hL647 : com ∈ S290.1 := by rw [hS290]; exact hL645
  have hf648 : S290.2 com = aN (cy 0) 0 (fun _ => 0) := by rw [hS290]; exact (pup_n (fun z : com = x => hq102 (by rw [z]; exact hL129))).trans hf646
  have hL649 : cor0 ∈ S133.1 := by rw [hS133]; exact hL117
  have hf650 : S133.2 cor0 = .inr (7, [.ref cob0, .int (nI 0)]) := by rw [hS133]; exact (pup_n (fun z : cor0 = x => hq103 (by rw [z]; exact hL129))).trans hf89
  have hL651 : cor0 ∈ S136.1 := by rw [hS136]; exact List.mem_append_left _ hL649
  have hf652 : S136.2 cor0 = .inr (7, [.ref cob0, .int (nI 0)]) := by rw [hS136]; exact (pnew_n (fun z : cor0 = ca => hq_ca (by rw [← z]; exact hL649))).trans hf650
  have hL653 : cor0 ∈ S139.1 := by rw [hS141]; exact List.mem_append_left _ hL651
  have hf654 : S139.2 cor0 = .inr (7, [.ref cob0, .int (nI 0)]) := (hfr142 cor0 hL651 (fun z : cor0 = ca => hq_ca (by rw [← z]; exact hL649))).trans hf652
  have hL655 : cor0 ∈ S189.1 := by rw [hS189]; exact hL653
  have hf656 : S189.2 cor0 = .inr (7, [.ref cob0, .int (nI 0)]) := by rw [hS189]; exact (pup_n (fun z : cor0 = x => hq103 (by rw [z]; exact hL129))).trans hf654
  have hL657 : cor0 ∈ S192.1 := by rw [hS192]; exact List.mem_append_left _ hL655
  have hf658 : S192.2 cor0 = .inr (7, [.ref cob0, .int (nI 0)]) := by rw [hS192]; exact (pnew_n (fun z : cor0 = su => hq_su (by rw [← z]; exact hL655))).trans hf656
  have hL659 : cor0 ∈ S195.1 := by rw [hS197]; exact List.mem_append_left _ hL657
  have hf660 : S195.2 cor0 = .inr (7, [.ref cob0, .int (nI 0)]) := (hfr198 cor0 hL657 (fun z : cor0 = su => hq_su (by rw [← z]; exact hL655))).trans hf658
  have hL661 : cor0 ∈ S245.1 := by rw [hS245]; exact hL659
  have hf662 : S245.2 cor0 = .inr (7, [.ref cob0, .int (nI 0)]) := by rw [hS245]; exact (pup_n (fun z : cor0 = x => hq103 (by rw [z]; exact hL129))).trans hf660
  have hL663 : cor0 ∈ S248.1 := by rw [hS248]; exact List.mem_append_left _ hL661
  have hf664 : S248.2 cor0 = .inr (7, [.ref cob0, .int (nI 0)]) := by rw [hS248]; exact (pnew_n (fun z : cor0 = lt => hq_lt (by rw [← z]; exact hL661))).trans hf662
  have hL665 : cor0 ∈ S259.1 := by rw [hS259]; exact List.mem_append_left _ hL663
  have hf666 : S259.2 cor0 = .inr (7, [.ref cob0, .int (nI 0)]) := by rw [hS259]; exact (pnew_n (fun z : cor0 = lf => hp253 (by rw [← z]; exact hL663))).trans hf664
  have hL667 : cor0 ∈ S262.1 := by rw [hS262]; exact List.mem_append_left _ hL665
  have hf668 : S262.2 cor0 = .inr (7, [.ref cob0, .int (nI 0)]) := by rw [hS262]; exact (pnew_n (fun z : cor0 = lx => hq263 (by rw [← z]; exact hL665))).trans hf666
  have hL669 : cor0 ∈ S266.1 := by rw [hS266]; exact List.mem_append_left _ hL667
  have hf670 : S266.2 cor0 = .inr (7, [.ref cob0, .int (nI 0)]) := by rw [hS266]; exact (pnew_n (fun z : cor0 = lw => hq268 (by rw [← z]; exact hL667))).trans hf668
  have hL671 : cor0 ∈ S251.1 := by rw [hS277]; exact hL669
  have hf672 : S251.2 cor0 = .inr (7, [.ref cob0, .int (nI 0)]) := by rw [hS277]; exact (pup_n (fun z : cor0 = lt => hq_lt (by rw [← z]; exact hL661))).trans hf670
  have hL673 : cor0 ∈ S290.1 := by rw [hS290]; exact hL671
  have hf674 : S290.2 cor0 = .inr (7, [.ref cob0, .int (nI 0)]) := by rw [hS290]; exact (pup_n (fun z : cor0 = x => hq103 (by rw [z]; exact hL129))).trans hf672
  have hL675 : cob0 ∈ S133.1 := by rw [hS133]; exact hL118
  have hf676 : S133.2 cob0 = aN (cy 0) 32 (fun _ => 0) := by rw [hS133]; exact (pup_n (fun z : cob0 = x => hq104 (by rw [z]; exact hL129))).trans hf90
  have hL677 : cob0 ∈ S136.1 := by rw [hS136]; exact List.mem_append_left _ hL675
  have hf678 : S136.2 cob0 = aN (cy 0) 32 (fun _ => 0) := by rw [hS136]; exact (pnew_n (fun z : cob0 = ca => hq_ca (by rw [← z]; exact hL675))).trans hf676
  have hL679 : cob0 ∈ S139.1 := by rw [hS141]; exact List.mem_append_left _ hL677
  have hf680 : S139.2 cob0 = aN (cy 0) 32 (fun _ => 0) := (hfr142 cob0 hL677 (fun z : cob0 = ca => hq_ca (by rw [← z]; exact hL675))).trans hf678
  have hL681 : cob0 ∈ S189.1 := by rw [hS189]; exact hL679
  have hf682 : S189.2 cob0 = aN (cy 0) 32 (fun _ => 0) := by rw [hS189]; exact (pup_n (fun z : cob0 = x => hq104 (by rw [z]; exact hL129))).trans hf680
  have hL683 : cob0 ∈ S192.1 := by rw [hS192]; exact List.mem_append_left _ hL681
  have hf684 : S192.2 cob0 = aN (cy 0) 32 (fun _ => 0) := by rw [hS192]; exact (pnew_n (fun z : cob0 = su => hq_su (by rw [← z]; exact hL681))).trans hf682
  have hL685 : cob0 ∈ S195.1 := by rw [hS197]; exact List.mem_append_left _ hL683
  have hf686 : S195.2 cob0 = aN (cy 0) 32 (fun _ => 0) := (hfr198 cob0 hL683 (fun z : cob0 = su => hq_su (by rw [← z]; exact hL681))).trans hf684
  have hL687 : cob0 ∈ S245.1 := by rw [hS245]; exact hL685
  have hf688 : S245.2 cob0 = aN (cy 0) 32 (fun _ => 0) := by rw [hS245]; exact (pup_n (fun z : cob0 = x => hq104 (by rw [z]; exact hL129))).trans hf686
  have hL689 : cob0 ∈ S248.1 := by rw [hS248]; exact List.mem_append_left _ hL687
  have hf690 : S248.2 cob0 = aN (cy 0) 32 (fun _ => 0) := by rw [hS248]; exact (pnew_n (fun z : cob0 = lt => hq_lt (by rw [← z]; exact hL687))).trans hf688
  have hL691 : cob0 ∈ S259.1 := by rw [hS259]; exact List.mem_append_left _ hL689
  have hf692 : S259.2 cob0 = aN (cy 0) 32 (fun _ => 0) := by rw [hS259]; exact (pnew_n (fun z : cob0 = lf => hp253 (by rw [← z]; exact hL689))).trans hf690
  have hL693 : cob0 ∈ S262.1 := by rw [hS262]; exact List.mem_append_left _ hL691
  have hf694 : S262.2 cob0 = aN (cy 0) 32 (fun _ => 0) := by rw [hS262]; exact (pnew_n (fun z : cob0 = lx => hq263 (by rw [← z]; exact hL691))).trans hf692
  have hL695 : cob0 ∈ S266.1 := by rw [hS266]; exact List.mem_append_left _ hL693
  have hf696 : S266.2 cob0 = aN (cy 0) 32 (fun _ => 0) := by rw [hS266]; exact (pnew_n (fun z : cob0 = lw => hq268 (by rw [← z]; exact hL693))).trans hf694
  have hL697 : cob0 ∈ S251.1 := by rw [hS277]; exact hL695
  have hf698 : S251.2 cob0 = aN (cy 0) 32 (fun _ => 0) := by rw [hS277]; exact (pup_n (fun z : cob0 = lt => hq_lt (by rw [← z]; exact hL687))).trans hf696
  have hL699 : cob0 ∈ S290.1 := by rw [hS290]; exact hL697
  have hf700 : S290.2 cob0 = aN (cy 0) 32 (fun _ => 0) := by rw [hS290]; exact (pup_n (fun z : cob0 = x => hq104 (by rw [z]; exact hL129))).trans hf698
  have hL701 : cor1 ∈ S133.1 := by rw [hS133]; exact hL119
  have hf702 : S133.2 cor1 = .inr (7, [.ref cob1, .int (nI 0)]) := by rw [hS133]; exact (pup_n (fun z : cor1 = x => hq105 (by rw [z]; exact hL129))).trans hf91
  have hL703 : cor1 ∈ S136.1 := by rw [hS136]; exact List.mem_append_left _ hL701
  have hf704 : S136.2 cor1 = .inr (7, [.ref cob1, .int (nI 0)]) := by rw [hS136]; exact (pnew_n (fun z : cor1 = ca => hq_ca (by rw [← z]; exact hL701))).trans hf702
  have hL705 : cor1 ∈ S139.1 := by rw [hS141]; exact List.mem_append_left _ hL703
  have hf706 : S139.2 cor1 = .inr (7, [.ref cob1, .int (nI 0)]) := (hfr142 cor1 hL703 (fun z : cor1 = ca => hq_ca (by rw [← z]; exact hL701))).trans hf704
  have hL707 : cor1 ∈ S189.1 := by rw [hS189]; exact hL705
  have hf708 : S189.2 cor1 = .inr (7, [.ref cob1, .int (nI 0)]) := by rw [hS189]; exact (pup_n (fun z : cor1 = x => hq105 (by rw [z]; exact hL129))).trans hf706
  have hL709 : cor1 ∈ S192.1 := by rw [hS192]; exact List.mem_append_left _ hL707
  have hf710 : S192.2 cor1 = .inr (7, [.ref cob1, .int (nI 0)]) := by rw [hS192]; exact (pnew_n (fun z : cor1 = su => hq_su (by rw [← z]; exact hL707))).trans hf708
  have hL711 : cor1 ∈ S195.1 := by rw [hS197]; exact List.mem_append_left _ hL709
  have hf712 : S195.2 cor1 = .inr (7, [.ref cob1, .int (nI 0)]) := (hfr198 cor1 hL709 (fun z : cor1 = su => hq_su (by rw [← z]; exact hL707))).trans hf710
  have hL713 : cor1 ∈ S245.1 := by rw [hS245]; exact hL711
  have hf714 : S245.2 cor1 = .inr (7, [.ref cob1, .int (nI 0)]) := by rw [hS245]; exact (pup_n (fun z : cor1 = x => hq105 (by rw [z]; exact hL129))).trans hf712
  have hL715 : cor1 ∈ S248.1 := by rw [hS248]; exact List.mem_append_left _ hL713
  have hf716 : S248.2 cor1 = .inr (7, [.ref cob1, .int (nI 0)]) := by rw [hS248]; exact (pnew_n (fun z : cor1 = lt => hq_lt (by rw [← z]; exact hL713))).trans hf714
  have hL717 : cor1 ∈ S259.1 := by rw [hS259]; exact List.mem_append_left _ hL715
  have hf718 : S259.2 cor1 = .inr (7, [.ref cob1, .int (nI 0)]) := by rw [hS259]; exact (pnew_n (fun z : cor1 = lf => hp253 (by rw [← z]; exact hL715))).trans hf716
  have hL719 : cor1 ∈ S262.1 := by rw [hS262]; exact List.mem_append_left _ hL717
  have hf720 : S262.2 cor1 = .inr (7, [.ref cob1, .int (nI 0)]) := by rw [hS262]; exact (pnew_n (fun z : cor1 = lx => hq263 (by rw [← z]; exact hL717))).trans hf718
  have hL721 : cor1 ∈ S266.1 := by rw [hS266]; exact List.mem_append_left _ hL719
  have hf722 : S266.2 cor1 = .inr (7, [.ref cob1, .int (nI 0)]) := by rw [hS266]; exact (pnew_n (fun z : cor1 = lw => hq268 (by rw [← z]; exact hL719))).trans hf720
  have hL723 : cor1 ∈ S251.1 := by rw [hS277]; exact hL721
  have hf724 : S251.2 cor1 = .inr (7, [.ref cob1, .int (nI 0)]) := by rw [hS277]; exact (pup_n (fun z : cor1 = lt => hq_lt (by rw [← z]; exact hL713))).trans hf722
  have hL725 : cor1 ∈ S290.1 := by rw [hS290]; exact hL723
  have hf726 : S290.2 cor1 = .inr (7, [.ref cob1, .int (nI 0)]) := by rw [hS290]; exact (pup_n (fun z : cor1 = x => hq105 (by rw [z]; exact hL129))).trans hf724
  have hL727 : cob1 ∈ S133.1 := by rw [hS133]; exact hL120
  have hf728 : S133.2 cob1 = aN (cy 0) 320 (fun _ => 0) := by rw [hS133]; exact (pup_n (fun z : cob1 = x => hq106 (by rw [z]; exact hL129))).trans hf92
  have hL729 : cob1 ∈ S136.1 := by rw [hS136]; exact List.mem_append_left _ hL727
  have hf730 : S136.2 cob1 = aN (cy 0) 320 (fun _ => 0) := by rw [hS136]; exact (pnew_n (fun z : cob1 = ca => hq_ca (by rw [← z]; exact hL727))).trans hf728
  have hL731 : cob1 ∈ S139.1 := by rw [hS141]; exact List.mem_append_left _ hL729
  have hf732 : S139.2 cob1 = aN (cy 0) 320 (fun _ => 0) := (hfr142 cob1 hL729 (fun z : cob1 = ca => hq_ca (by rw [← z]; exact hL727))).trans hf730
  have hL733 : cob1 ∈ S189.1 := by rw [hS189]; exact hL731
  have hf734 : S189.2 cob1 = aN (cy 0) 320 (fun _ => 0) := by rw [hS189]; exact (pup_n (fun z : cob1 = x => hq106 (by rw [z]; exact hL129))).trans hf732
  have hL735 : cob1 ∈ S192.1 := by rw [hS192]; exact List.mem_append_left _ hL733
  have hf736 : S192.2 cob1 = aN (cy 0) 320 (fun _ => 0) := by rw [hS192]; exact (pnew_n (fun z : cob1 = su => hq_su (by rw [← z]; exact hL733))).trans hf734
  have hL737 : cob1 ∈ S195.1 := by rw [hS197]; exact List.mem_append_left _ hL735
  have hf738 : S195.2 cob1 = aN (cy 0) 320 (fun _ => 0) := (hfr198 cob1 hL735 (fun z : cob1 = su => hq_su (by rw [← z]; exact hL733))).trans hf736
  have hL739 : cob1 ∈ S245.1 := by rw [hS245]; exact hL737
  have hf740 : S245.2 cob1 = aN (cy 0) 320 (fun _ => 0) := by rw [hS245]; exact (pup_n (fun z : cob1 = x => hq106 (by rw [z]; exact hL129))).trans hf738
  have hL741 : cob1 ∈ S248.1 := by rw [hS248]; exact List.mem_append_left _ hL739
  have hf742 : S248.2 cob1 = aN (cy 0) 320 (fun _ => 0) := by rw [hS248]; exact (pnew_n (fun z : cob1 = lt => hq_lt (by rw [← z]; exact hL739))).trans hf740
  have hL743 : cob1 ∈ S259.1 := by rw [hS259]; exact List.mem_append_left _ hL741
  have hf744 : S259.2 cob1 = aN (cy 0) 320 (fun _ => 0) := by rw [hS259]; exact (pnew_n (fun z : cob1 = lf => hp253 (by rw [← z]; exact hL741))).trans hf742
  have hL745 : cob1 ∈ S262.1 := by rw [hS262]; exact List.mem_append_left _ hL743
  have hf746 : S262.2 cob1 = aN (cy 0) 320 (fun _ => 0) := by rw [hS262]; exact (pnew_n (fun z : cob1 = lx => hq263 (by rw [← z]; exact hL743))).trans hf744
  have hL747 : cob1 ∈ S266.1 := by rw [hS266]; exact List.mem_append_left _ hL745
  have hf748 : S266.2 cob1 = aN (cy 0) 320 (fun _ => 0) := by rw [hS266]; exact (pnew_n (fun z : cob1 = lw => hq268 (by rw [← z]; exact hL745))).trans hf746
  have hL749 : cob1 ∈ S251.1 := by rw [hS277]; exact hL747
  have hf750 : S251.2 cob1 = aN (cy 0) 320 (fun _ => 0) := by rw [hS277]; exact (pup_n (fun z : cob1 = lt => hq_lt (by rw [← z]; exact hL739))).trans hf748
  have hL751 : cob1 ∈ S290.1 := by rw [hS290]; exact hL749
  have hf752 : S290.2 cob1 = aN (cy 0) 320 (fun _ => 0) := by rw [hS290]; exact (pup_n (fun z : cob1 = x => hq106 (by rw [z]; exact hL129))).trans hf750
  have hL753 : cor2 ∈ S133.1 := by rw [hS133]; exact hL121
  have hf754 : S133.2 cor2 = .inr (7, [.ref cob2, .int (nI 0)]) := by rw [hS133]; exact (pup_n (fun z : cor2 = x => hq107 (by rw [z]; exact hL129))).trans hf93
  have hL755 : cor2 ∈ S136.1 := by rw [hS136]; exact List.mem_append_left _ hL753
  have hf756 : S136.2 cor2 = .inr (7, [.ref cob2, .int (nI 0)]) := by rw [hS136]; exact (pnew_n (fun z : cor2 = ca => hq_ca (by rw [← z]; exact hL753))).trans hf754
  have hL757 : cor2 ∈ S139.1 := by rw [hS141]; exact List.mem_append_left _ hL755
  have hf758 : S139.2 cor2 = .inr (7, [.ref cob2, .int (nI 0)]) := (hfr142 cor2 hL755 (fun z : cor2 = ca => hq_ca (by rw [← z]; exact hL753))).trans hf756
  have hL759 : cor2 ∈ S189.1 := by rw [hS189]; exact hL757
  have hf760 : S189.2 cor2 = .inr (7, [.ref cob2, .int (nI 0)]) := by rw [hS189]; exact (pup_n (fun z : cor2 = x => hq107 (by rw [z]; exact hL129))).trans hf758
  have hL761 : cor2 ∈ S192.1 := by rw [hS192]; exact List.mem_append_left _ hL759
  have hf762 : S192.2 cor2 = .inr (7, [.ref cob2, .int (nI 0)]) := by rw [hS192]; exact (pnew_n (fun z : cor2 = su => hq_su (by rw [← z]; exact hL759))).trans hf760
  have hL763 : cor2 ∈ S195.1 := by rw [hS197]; exact List.mem_append_left _ hL761
  have hf764 : S195.2 cor2 = .inr (7, [.ref cob2, .int (nI 0)]) := (hfr198 cor2 hL761 (fun z : cor2 = su => hq_su (by rw [← z]; exact hL759))).trans hf762
  have hL765 : cor2 ∈ S245.1 := by rw [hS245]; exact hL763
  have hf766 : S245.2 cor2 = .inr (7, [.ref cob2, .int (nI 0)]) := by rw [hS245]; exact (pup_n (fun z : cor2 = x => hq107 (by rw [z]; exact hL129))).trans hf764
  have hL767 : cor2 ∈ S248.1 := by rw [hS248]; exact List.mem_append_left _ hL765
  have hf768 : S248.2 cor2 = .inr (7, [.ref cob2, .int (nI 0)]) := by rw [hS248]; exact (pnew_n (fun z : cor2 = lt => hq_lt (by rw [← z]; exact hL765))).trans hf766
  have hL769 : cor2 ∈ S259.1 := by rw [hS259]; exact List.mem_append_left _ hL767
  have hf770 : S259.2 cor2 = .inr (7, [.ref cob2, .int (nI 0)]) := by rw [hS259]; exact (pnew_n (fun z : cor2 = lf => hp253 (by rw [← z]; exact hL767))).trans hf768
  have hL771 : cor2 ∈ S262.1 := by rw [hS262]; exact List.mem_append_left _ hL769
  have hf772 : S262.2 cor2 = .inr (7, [.ref cob2, .int (nI 0)]) := by rw [hS262]; exact (pnew_n (fun z : cor2 = lx => hq263 (by rw [← z]; exact hL769))).trans hf770
  have hL773 : cor2 ∈ S266.1 := by rw [hS266]; exact List.mem_append_left _ hL771
  have hf774 : S266.2 cor2 = .inr (7, [.ref cob2, .int (nI 0)]) := by rw [hS266]; exact (pnew_n (fun z : cor2 = lw => hq268 (by rw [← z]; exact hL771))).trans hf772
  have hL775 : cor2 ∈ S251.1 := by rw [hS277]; exact hL773
  have hf776 : S251.2 cor2 = .inr (7, [.ref cob2, .int (nI 0)]) := by rw [hS277]; exact (pup_n (fun z : cor2 = lt => hq_lt (by rw [← z]; exact hL765))).trans hf774
  have hL777 : cor2 ∈ S290.1 := by rw [hS290]; exact hL775
  have hf778 : S290.2 cor2 = .inr (7, [.ref cob2, .int (nI 0)]) := by rw [hS290]; exact (pup_n (fun z : cor2 = x => hq107 (by rw [z]; exact hL129))).trans hf776
  have hL779 : cob2 ∈ S133.1 := by rw [hS133]; exact hL122
  have hf780 : S133.2 cob2 = aN (cy 0) 320 (fun _ => 0) := by rw [hS133]; exact (pup_n (fun z : cob2 = x => hq108 (by rw [z]; exact hL129))).trans hf94
  have hL781 : cob2 ∈ S136.1 := by rw [hS136]; exact List.mem_append_left _ hL779
  have hf782 : S136.2 cob2 = aN (cy 0) 320 (fun _ => 0) := by rw [hS136]; exact (pnew_n (fun z : cob2 = ca => hq_ca (by rw [← z]; exact hL779))).trans hf780
  have hL783 : cob2 ∈ S139.1 := by rw [hS141]; exact List.mem_append_left _ hL781
  have hf784 : S139.2 cob2 = aN (cy 0) 320 (fun _ => 0) := (hfr142 cob2 hL781 (fun z : cob2 = ca => hq_ca (by rw [← z]; exact hL779))).trans hf782
  have hL785 : cob2 ∈ S189.1 := by rw [hS189]; exact hL783
  have hf786 : S189.2 cob2 = aN (cy 0) 320 (fun _ => 0) := by rw [hS189]; exact (pup_n (fun z : cob2 = x => hq108 (by rw [z]; exact hL129))).trans hf784
  have hL787 : cob2 ∈ S192.1 := by rw [hS192]; exact List.mem_append_left _ hL785
  have hf788 : S192.2 cob2 = aN (cy 0) 320 (fun _ => 0) := by rw [hS192]; exact (pnew_n (fun z : cob2 = su => hq_su (by rw [← z]; exact hL785))).trans hf786
  have hL789 : cob2 ∈ S195.1 := by rw [hS197]; exact List.mem_append_left _ hL787
  have hf790 : S195.2 cob2 = aN (cy 0) 320 (fun _ => 0) := (hfr198 cob2 hL787 (fun z : cob2 = su => hq_su (by rw [← z]; exact hL785))).trans hf788
  have hL791 : cob2 ∈ S245.1 := by rw [hS245]; exact hL789
  have hf792 : S245.2 cob2 = aN (cy 0) 320 (fun _ => 0) := by rw [hS245]; exact (pup_n (fun z : cob2 = x => hq108 (by rw [z]; exact hL129))).trans hf790
  have hL793 : cob2 ∈ S248.1 := by rw [hS248]; exact List.mem_append_left _ hL791
  have hf794 : S248.2 cob2 = aN (cy 0) 320 (fun _ => 0) := by rw [hS248]; exact (pnew_n (fun z : cob2 = lt => hq_lt (by rw [← z]; exact hL791))).trans hf792
  have hL795 : cob2 ∈ S259.1 := by rw [hS259]; exact List.mem_append_left _ hL793
  have hf796 : S259.2 cob2 = aN (cy 0) 320 (fun _ => 0) := by rw [hS259]; exact (pnew_n (fun z : cob2 = lf => hp253 (by rw [← z]; exact hL793))).trans hf794
  have hL797 : cob2 ∈ S262.1 := by rw [hS262]; exact List.mem_append_left _ hL795
  have hf798 : S262.2 cob2 = aN (cy 0) 320 (fun _ => 0) := by rw [hS262]; exact (pnew_n (fun z : cob2 = lx => hq263 (by rw [← z]; exact hL795))).trans hf796
  have hL799 : cob2 ∈ S266.1 := by rw [hS266]; exact List.mem_append_left _ hL797
  have hf800 : S266.2 cob2 = aN (cy 0) 320 (fun _ => 0) := by rw [hS266]; exact (pnew_n (fun z : cob2 = lw => hq268 (by rw [← z]; exact hL797))).trans hf798
  have hL801 : cob2 ∈ S251.1 := by rw [hS277]; exact hL799
  have hf802 : S251.2 cob2 = aN (cy 0) 320 (fun _ => 0) := by rw [hS277]; exact (pup_n (fun z : cob2 = lt => hq_lt (by rw [← z]; exact hL791))).trans hf800
  have hL803 : cob2 ∈ S290.1 := by rw [hS290]; exact hL801
  have hf804 : S290.2 cob2 = aN (cy 0) 320 (fun _ => 0) := by rw [hS290]; exact (pup_n (fun z : cob2 = x => hq108 (by rw [z]; exact hL129))).trans hf802
  have hL805 : cor3 ∈ S133.1 := by rw [hS133]; exact hL123
  have hf806 : S133.2 cor3 = .inr (7, [.ref cob3, .int (nI 0)]) := by rw [hS133]; exact (pup_n (fun z : cor3 = x => hq109 (by rw [z]; exact hL129))).trans hf95
  have hL807 : cor3 ∈ S136.1 := by rw [hS136]; exact List.mem_append_left _ hL805
  have hf808 : S136.2 cor3 = .inr (7, [.ref cob3, .int (nI 0)]) := by rw [hS136]; exact (pnew_n (fun z : cor3 = ca => hq_ca (by rw [← z]; exact hL805))).trans hf806
  have hL809 : cor3 ∈ S139.1 := by rw [hS141]; exact List.mem_append_left _ hL807
  have hf810 : S139.2 cor3 = .inr (7, [.ref cob3, .int (nI 0)]) := (hfr142 cor3 hL807 (fun z : cor3 = ca => hq_ca (by rw [← z]; exact hL805))).trans hf808
  have hL811 : cor3 ∈ S189.1 := by rw [hS189]; exact hL809
  have hf812 : S189.2 cor3 = .inr (7, [.ref cob3, .int (nI 0)]) := by rw [hS189]; exact (pup_n (fun z : cor3 = x => hq109 (by rw [z]; exact hL129))).trans hf810
  have hL813 : cor3 ∈ S192.1 := by rw [hS192]; exact List.mem_append_left _ hL811
  have hf814 : S192.2 cor3 = .inr (7, [.ref cob3, .int (nI 0)]) := by rw [hS192]; exact (pnew_n (fun z : cor3 = su => hq_su (by rw [← z]; exact hL811))).trans hf812
  have hL815 : cor3 ∈ S195.1 := by rw [hS197]; exact List.mem_append_left _ hL813
  have hf816 : S195.2 cor3 = .inr (7, [.ref cob3, .int (nI 0)]) := (hfr198 cor3 hL813 (fun z : cor3 = su => hq_su (by rw [← z]; exact hL811))).trans hf814
  have hL817 : cor3 ∈ S245.1 := by rw [hS245]; exact hL815
  have hf818 : S245.2 cor3 = .inr (7, [.ref cob3, .int (nI 0)]) := by rw [hS245]; exact (pup_n (fun z : cor3 = x => hq109 (by rw [z]; exact hL129))).trans hf816
  have hL819 : cor3 ∈ S248.1 := by rw [hS248]; exact List.mem_append_left _ hL817
  have hf820 : S248.2 cor3 = .inr (7, [.ref cob3, .int (nI 0)]) := by rw [hS248]; exact (pnew_n (fun z : cor3 = lt => hq_lt (by rw [← z]; exact hL817))).trans hf818
  have hL821 : cor3 ∈ S259.1 := by rw [hS259]; exact List.mem_append_left _ hL819
  have hf822 : S259.2 cor3 = .inr (7, [.ref cob3, .int (nI 0)]) := by rw [hS259]; exact (pnew_n (fun z : cor3 = lf => hp253 (by rw [← z]; exact hL819))).trans hf820
  have hL823 : cor3 ∈ S262.1 := by rw [hS262]; exact List.mem_append_left _ hL821
  have hf824 : S262.2 cor3 = .inr (7, [.ref cob3, .int (nI 0)]) := by rw [hS262]; exact (pnew_n (fun z : cor3 = lx => hq263 (by rw [← z]; exact hL821))).trans hf822
  have hL825 : cor3 ∈ S266.1 := by rw [hS266]; exact List.mem_append_left _ hL823
  have hf826 : S266.2 cor3 = .inr (7, [.ref cob3, .int (nI 0)]) := by rw [hS266]; exact (pnew_n (fun z : cor3 = lw => hq268 (by rw [← z]; exact hL823))).trans hf824
  have hL827 : cor3 ∈ S251.1 := by rw [hS277]; exact hL825
  have hf828 : S251.2 cor3 = .inr (7, [.ref cob3, .int (nI 0)]) := by rw [hS277]; exact (pup_n (fun z : cor3 = lt => hq_lt (by rw [← z]; exact hL817))).trans hf826
  have hL829 : cor3 ∈ S290.1 := by rw [hS290]; exact hL827
  have hf830 : S290.2 cor3 = .inr (7, [.ref cob3, .int (nI 0)]) := by rw [hS290]; exact (pup_n (fun z : cor3 = x => hq109 (by rw [z]; exact hL129))).trans hf828
  have hL831 : cob3 ∈ S133.1 := by rw [hS133]; exact hL124
  have hf832 : S133.2 cob3 = aN (cy 0) 320 (fun _ => 0) := by rw [hS133]; exact (pup_n (fun z : cob3 = x => hq110 (by rw [z]; exact hL129))).trans hf96
  have hL833 : cob3 ∈ S136.1 := by rw [hS136]; exact List.mem_append_left _ hL831
  have hf834 : S136.2 cob3 = aN (cy 0) 320 (fun _ => 0) := by rw [hS136]; exact (pnew_n (fun z : cob3 = ca => hq_ca (by rw [← z]; exact hL831))).trans hf832
  have hL835 : cob3 ∈ S139.1 := by rw [hS141]; exact List.mem_append_left _ hL833
  have hf836 : S139.2 cob3 = aN (cy 0) 320 (fun _ => 0) := (hfr142 cob3 hL833 (fun z : cob3 = ca => hq_ca (by rw [← z]; exact hL831))).trans hf834
  have hL837 : cob3 ∈ S189.1 := by rw [hS189]; exact hL835
  have hf838 : S189.2 cob3 = aN (cy 0) 320 (fun _ => 0) := by rw [hS189]; exact (pup_n (fun z : cob3 = x => hq110 (by rw [z]; exact hL129))).trans hf836
  have hL839 : cob3 ∈ S192.1 := by rw [hS192]; exact List.mem_append_left _ hL837
  have hf840 : S192.2 cob3 = aN (cy 0) 320 (fun _ => 0) := by rw [hS192]; exact (pnew_n (fun z : cob3 = su => hq_su (by rw [← z]; exact hL837))).trans hf838
  have hL841 : cob3 ∈ S195.1 := by rw [hS197]; exact List.mem_append_left _ hL839
  have hf842 : S195.2 cob3 = aN (cy 0) 320 (fun _ => 0) := (hfr198 cob3 hL839 (fun z : cob3 = su => hq_su (by rw [← z]; exact hL837))).trans hf840
  have hL843 : cob3 ∈ S245.1 := by rw [hS245]; exact hL841
  have hf844 : S245.2 cob3 = aN (cy 0) 320 (fun _ => 0) := by rw [hS245]; exact (pup_n (fun z : cob3 = x => hq110 (by rw [z]; exact hL129))).trans hf842
  have hL845 : cob3 ∈ S248.1 := by rw [hS248]; exact List.mem_append_left _ hL843
  have hf846 : S248.2 cob3 = aN (cy 0) 320 (fun _ => 0) := by rw [hS248]; exact (pnew_n (fun z : cob3 = lt => hq_lt (by rw [← z]; exact hL843))).trans hf844
  have hL847 : cob3 ∈ S259.1 := by rw [hS259]; exact List.mem_append_left _ hL845
  have hf848 : S259.2 cob3 = aN (cy 0) 320 (fun _ => 0) := by rw [hS259]; exact (pnew_n (fun z : cob3 = lf => hp253 (by rw [← z]; exact hL845))).trans hf846
  have hL849 : cob3 ∈ S262.1 := by rw [hS262]; exact List.mem_append_left _ hL847
  have hf850 : S262.2 cob3 = aN (cy 0) 320 (fun _ => 0) := by rw [hS262]; exact (pnew_n (fun z : cob3 = lx => hq263 (by rw [← z]; exact hL847))).trans hf848
  have hL851 : cob3 ∈ S266.1 := by rw [hS266]; exact List.mem_append_left _ hL849
  have hf852 : S266.2 cob3 = aN (cy 0) 320 (fun _ => 0) := by rw [hS266]; exact (pnew_n (fun z : cob3 = lw => hq268 (by rw [← z]; exact hL849))).trans hf850
  have hL853 : cob3 ∈ S251.1 := by rw [hS277]; exact hL851
  have hf854 : S251.2 cob3 = aN (cy 0) 320 (fun _ => 0) := by rw [hS277]; exact (pup_n (fun z : cob3 = lt => hq_lt (by rw [← z]; exact hL843))).trans hf852
  have hL855 : cob3 ∈ S290.1 := by rw [hS290]; exact hL853
  have hf856 : S290.2 cob3 = aN (cy 0) 320 (fun _ => 0) := by rw [hS290]; exact (pup_n (fun z : cob3 = x => hq110 (by rw [z]; exact hL129))).trans hf854
  have hL857 : cor4 ∈ S133.1 := by rw [hS133]; exact hL125
  have hf858 : S133.2 cor4 = .inr (7, [.ref cob4, .int (nI 0)]) := by rw [hS133]; exact (pup_n (fun z : cor4 = x => hq111 (by rw [z]; exact hL129))).trans hf97
  have hL859 : cor4 ∈ S136.1 := by rw [hS136]; exact List.mem_append_left _ hL857
  have hf860 : S136.2 cor4 = .inr (7, [.ref cob4, .int (nI 0)]) := by rw [hS136]; exact (pnew_n (fun z : cor4 = ca => hq_ca (by rw [← z]; exact hL857))).trans hf858
  have hL861 : cor4 ∈ S139.1 := by rw [hS141]; exact List.mem_append_left _ hL859
  have hf862 : S139.2 cor4 = .inr (7, [.ref cob4, .int (nI 0)]) := (hfr142 cor4 hL859 (fun z : cor4 = ca => hq_ca (by rw [← z]; exact hL857))).trans hf860
  have hL863 : cor4 ∈ S189.1 := by rw [hS189]; exact hL861
  have hf864 : S189.2 cor4 = .inr (7, [.ref cob4, .int (nI 0)]) := by rw [hS189]; exact (pup_n (fun z : cor4 = x => hq111 (by rw [z]; exact hL129))).trans hf862
  have hL865 : cor4 ∈ S192.1 := by rw [hS192]; exact List.mem_append_left _ hL863
  have hf866 : S192.2 cor4 = .inr (7, [.ref cob4, .int (nI 0)]) := by rw [hS192]; exact (pnew_n (fun z : cor4 = su => hq_su (by rw [← z]; exact hL863))).trans hf864
  have hL867 : cor4 ∈ S195.1 := by rw [hS197]; exact List.mem_append_left _ hL865
  have hf868 : S195.2 cor4 = .inr (7, [.ref cob4, .int (nI 0)]) := (hfr198 cor4 hL865 (fun z : cor4 = su => hq_su (by rw [← z]; exact hL863))).trans hf866
  have hL869 : cor4 ∈ S245.1 := by rw [hS245]; exact hL867
  have hf870 : S245.2 cor4 = .inr (7, [.ref cob4, .int (nI 0)]) := by rw [hS245]; exact (pup_n (fun z : cor4 = x => hq111 (by rw [z]; exact hL129))).trans hf868
  have hL871 : cor4 ∈ S248.1 := by rw [hS248]; exact List.mem_append_left _ hL869
  have hf872 : S248.2 cor4 = .inr (7, [.ref cob4, .int (nI 0)]) := by rw [hS248]; exact (pnew_n (fun z : cor4 = lt => hq_lt (by rw [← z]; exact hL869))).trans hf870
  have hL873 : cor4 ∈ S259.1 := by rw [hS259]; exact List.mem_append_left _ hL871
  have hf874 : S259.2 cor4 = .inr (7, [.ref cob4, .int (nI 0)]) := by rw [hS259]; exact (pnew_n (fun z : cor4 = lf => hp253 (by rw [← z]; exact hL871))).trans hf872
  have hL875 : cor4 ∈ S262.1 := by rw [hS262]; exact List.mem_append_left _ hL873
  have hf876 : S262.2 cor4 = .inr (7, [.ref cob4, .int (nI 0)]) := by rw [hS262]; exact (pnew_n (fun z : cor4 = lx => hq263 (by rw [← z]; exact hL873))).trans hf874
  have hL877 : cor4 ∈ S266.1 := by rw [hS266]; exact List.mem_append_left _ hL875
  have hf878 : S266.2 cor4 = .inr (7, [.ref cob4, .int (nI 0)]) := by rw [hS266]; exact (pnew_n (fun z : cor4 = lw => hq268 (by rw [← z]; exact hL875))).trans hf876
  have hL879 : cor4 ∈ S251.1 := by rw [hS277]; exact hL877
  have hf880 : S251.2 cor4 = .inr (7, [.ref cob4, .int (nI 0)]) := by rw [hS277]; exact (pup_n (fun z : cor4 = lt => hq_lt (by rw [← z]; exact hL869))).trans hf878
  have hL881 : cor4 ∈ S290.1 := by rw [hS290]; exact hL879
  have hf882 : S290.2 cor4 = .inr (7, [.ref cob4, .int (nI 0)]) := by rw [hS290]; exact (pup_n (fun z : cor4 = x => hq111 (by rw [z]; exact hL129))).trans hf880
  have hL883 : cob4 ∈ S133.1 := by rw [hS133]; exact hL126
  have hf884 : S133.2 cob4 = aN (cy 0) 320 (fun _ => 0) := by rw [hS133]; exact (pup_n (fun z : cob4 = x => hq112 (by rw [z]; exact hL129))).trans hf98
  have hL885 : cob4 ∈ S136.1 := by rw [hS136]; exact List.mem_append_left _ hL883
  have hf886 : S136.2 cob4 = aN (cy 0) 320 (fun _ => 0) := by rw [hS136]; exact (pnew_n (fun z : cob4 = ca => hq_ca (by rw [← z]; exact hL883))).trans hf884
  have hL887 : cob4 ∈ S139.1 := by rw [hS141]; exact List.mem_append_left _ hL885
  have hf888 : S139.2 cob4 = aN (cy 0) 320 (fun _ => 0) := (hfr142 cob4 hL885 (fun z : cob4 = ca => hq_ca (by rw [← z]; exact hL883))).trans hf886
  have hL889 : cob4 ∈ S189.1 := by rw [hS189]; exact hL887
  have hf890 : S189.2 cob4 = aN (cy 0) 320 (fun _ => 0) := by rw [hS189]; exact (pup_n (fun z : cob4 = x => hq112 (by rw [z]; exact hL129))).trans hf888
  have hL891 : cob4 ∈ S192.1 := by rw [hS192]; exact List.mem_append_left _ hL889
  have hf892 : S192.2 cob4 = aN (cy 0) 320 (fun _ => 0) := by rw [hS192]; exact (pnew_n (fun z : cob4 = su => hq_su (by rw [← z]; exact hL889))).trans hf890
  have hL893 : cob4 ∈ S195.1 := by rw [hS197]; exact List.mem_append_left _ hL891
  have hf894 : S195.2 cob4 = aN (cy 0) 320 (fun _ => 0) := (hfr198 cob4 hL891 (fun z : cob4 = su => hq_su (by rw [← z]; exact hL889))).trans hf892
  have hL895 : cob4 ∈ S245.1 := by rw [hS245]; exact hL893
  have hf896 : S245.2 cob4 = aN (cy 0) 320 (fun _ => 0) := by rw [hS245]; exact (pup_n (fun z : cob4 = x => hq112 (by rw [z]; exact hL129))).trans hf894
  have hL897 : cob4 ∈ S248.1 := by rw [hS248]; exact List.mem_append_left _ hL895
  have hf898 : S248.2 cob4 = aN (cy 0) 320 (fun _ => 0) := by rw [hS248]; exact (pnew_n (fun z : cob4 = lt => hq_lt (by rw [← z]; exact hL895))).trans hf896
  have hL899 : cob4 ∈ S259.1 := by rw [hS259]; exact List.mem_append_left _ hL897
  have hf900 : S259.2 cob4 = aN (cy 0) 320 (fun _ => 0) := by rw [hS259]; exact (pnew_n (fun z : cob4 = lf => hp253 (by rw [← z]; exact hL897))).trans hf898
  have hL901 : cob4 ∈ S262.1 := by rw [hS262]; exact List.mem_append_left _ hL899
  have hf902 : S262.2 cob4 = aN (cy 0) 320 (fun _ => 0) := by rw [hS262]; exact (pnew_n (fun z : cob4 = lx => hq263 (by rw [← z]; exact hL899))).trans hf900
  have hL903 : cob4 ∈ S266.1 := by rw [hS266]; exact List.mem_append_left _ hL901
  have hf904 : S266.2 cob4 = aN (cy 0) 320 (fun _ => 0) := by rw [hS266]; exact (pnew_n (fun z : cob4 = lw => hq268 (by rw [← z]; exact hL901))).trans hf902
  have hL905 : cob4 ∈ S251.1 := by rw [hS277]; exact hL903
  have hf906 : S251.2 cob4 = aN (cy 0) 320 (fun _ => 0) := by rw [hS277]; exact (pup_n (fun z : cob4 = lt => hq_lt (by rw [← z]; exact hL895))).trans hf904
  have hL907 : cob4 ∈ S290.1 := by rw [hS290]; exact hL905
  have hf908 : S290.2 cob4 = aN (cy 0) 320 (fun _ => 0) := by rw [hS290]; exact (pup_n (fun z : cob4 = x => hq112 (by rw [z]; exact hL129))).trans hf906
  have hL909 : ca ∈ S189.1 := by rw [hS189]; exact hL171
  have hf910 : S189.2 ca = .inr (4, [.ref cal, .ref can]) := by rw [hS189]; exact (pup_n (fun z : ca = x => hq_ca (by rw [z]; exact hL134))).trans hf143
  have hL911 : ca ∈ S192.1 := by rw [hS192]; exact List.mem_append_left _ hL909
  have hf912 : S192.2 ca = .inr (4, [.ref cal, .ref can]) := by rw [hS192]; exact (pnew_n (fun z : ca = su => hq_su (by rw [← z]; exact hL909))).trans hf910
  have hL913 : ca ∈ S195.1 := by rw [hS197]; exact List.mem_append_left _ hL911
  have hf914 : S195.2 ca = .inr (4, [.ref cal, .ref can]) := (hfr198 ca hL911 (fun z : ca = su => hq_su (by rw [← z]; exact hL909))).trans hf912
  have hL915 : ca ∈ S245.1 := by rw [hS245]; exact hL913
  have hf916 : S245.2 ca = .inr (4, [.ref cal, .ref can]) := by rw [hS245]; exact (pup_n (fun z : ca = x => hq_ca (by rw [z]; exact hL134))).trans hf914
  have hL917 : ca ∈ S248.1 := by rw [hS248]; exact List.mem_append_left _ hL915
  have hf918 : S248.2 ca = .inr (4, [.ref cal, .ref can]) := by rw [hS248]; exact (pnew_n (fun z : ca = lt => hq_lt (by rw [← z]; exact hL915))).trans hf916
  have hL919 : ca ∈ S259.1 := by rw [hS259]; exact List.mem_append_left _ hL917
  have hf920 : S259.2 ca = .inr (4, [.ref cal, .ref can]) := by rw [hS259]; exact (pnew_n (fun z : ca = lf => hp253 (by rw [← z]; exact hL917))).trans hf918
  have hL921 : ca ∈ S262.1 := by rw [hS262]; exact List.mem_append_left _ hL919
  have hf922 : S262.2 ca = .inr (4, [.ref cal, .ref can]) := by rw [hS262]; exact (pnew_n (fun z : ca = lx => hq263 (by rw [← z]; exact hL919))).trans hf920
  have hL923 : ca ∈ S266.1 := by rw [hS266]; exact List.mem_append_left _ hL921
  have hf924 : S266.2 ca = .inr (4, [.ref cal, .ref can]) := by rw [hS266]; exact (pnew_n (fun z : ca = lw => hq268 (by rw [← z]; exact hL921))).trans hf922
  have hL925 : ca ∈ S251.1 := by rw [hS277]; exact hL923
  have hf926 : S251.2 ca = .inr (4, [.ref cal, .ref can]) := by rw [hS277]; exact (pup_n (fun z : ca = lt => hq_lt (by rw [← z]; exact hL915))).trans hf924
  have hL927 : ca ∈ S290.1 := by rw [hS290]; exact hL925
  have hf928 : S290.2 ca = .inr (4, [.ref cal, .ref can]) := by rw [hS290]; exact (pup_n (fun z : ca = x => hq_ca (by rw [z]; exact hL134))).trans hf926
  have hL929 : cal ∈ S189.1 := by rw [hS189]; exact hL172
  have hf930 : S189.2 cal = aQ (cy 2) 5 (va_up (va_up (va_up (va_up (va_up (fun _ => none) 0 (some car0)) 1 (some car1)) 2 (some car2)) 3 (some car3)) 4 (some car4)) := by rw [hS189]; exact (pup_n (fun z : cal = x => hq158 (by rw [z]; exact hL185))).trans hf144
  have hL931 : cal ∈ S192.1 := by rw [hS192]; exact List.mem_append_left _ hL929
  have hf932 : S192.2 cal = aQ (cy 2) 5 (va_up (va_up (va_up (va_up (va_up (fun _ => none) 0 (some car0)) 1 (some car1)) 2 (some car2)) 3 (some car3)) 4 (some car4)) := by rw [hS192]; exact (pnew_n (fun z : cal = su => hq_su (by rw [← z]; exact hL929))).trans hf930
  have hL933 : cal ∈ S195.1 := by rw [hS197]; exact List.mem_append_left _ hL931
  have hf934 : S195.2 cal = aQ (cy 2) 5 (va_up (va_up (va_up (va_up (va_up (fun _ => none) 0 (some car0)) 1 (some car1)) 2 (some car2)) 3 (some car3)) 4 (some car4)) := (hfr198 cal hL931 (fun z : cal = su => hq_su (by rw [← z]; exact hL929))).trans hf932
  have hL935 : cal ∈ S245.1 := by rw [hS245]; exact hL933
  have hf936 : S245.2 cal = aQ (cy 2) 5 (va_up (va_up (va_up (va_up (va_up (fun _ => none) 0 (some car0)) 1 (some car1)) 2 (some car2)) 3 (some car3)) 4 (some car4)) := by rw [hS245]; exact (pup_n (fun z : cal = x => hq158 (by rw [z]; exact hL185))).trans hf934
  have hL937 : cal ∈ S248.1 := by rw [hS248]; exact List.mem_append_left _ hL935
  have hf938 : S248.2 cal = aQ (cy 2) 5 (va_up (va_up (va_up (va_up (va_up (fun _ => none) 0 (some car0)) 1 (some car1)) 2 (some car2)) 3 (some car3)) 4 (some car4)) := by rw [hS248]; exact (pnew_n (fun z : cal = lt => hq_lt (by rw [← z]; exact hL935))).trans hf936
  have hL939 : cal ∈ S259.1 := by rw [hS259]; exact List.mem_append_left _ hL937
  have hf940 : S259.2 cal = aQ (cy 2) 5 (va_up (va_up (va_up (va_up (va_up (fun _ => none) 0 (some car0)) 1 (some car1)) 2 (some car2)) 3 (some car3)) 4 (some car4)) := by rw [hS259]; exact (pnew_n (fun z : cal = lf => hp253 (by rw [← z]; exact hL937))).trans hf938
  have hL941 : cal ∈ S262.1 := by rw [hS262]; exact List.mem_append_left _ hL939
  have hf942 : S262.2 cal = aQ (cy 2) 5 (va_up (va_up (va_up (va_up (va_up (fun _ => none) 0 (some car0)) 1 (some car1)) 2 (some car2)) 3 (some car3)) 4 (some car4)) := by rw [hS262]; exact (pnew_n (fun z : cal = lx => hq263 (by rw [← z]; exact hL939))).trans hf940
  have hL943 : cal ∈ S266.1 := by rw [hS266]; exact List.mem_append_left _ hL941
  have hf944 : S266.2 cal = aQ (cy 2) 5 (va_up (va_up (va_up (va_up (va_up (fun _ => none) 0 (some car0)) 1 (some car1)) 2 (some car2)) 3 (some car3)) 4 (some car4)) := by rw [hS266]; exact (pnew_n (fun z : cal = lw => hq268 (by rw [← z]; exact hL941))).trans hf942
  have hL945 : cal ∈ S251.1 := by rw [hS277]; exact hL943
  have hf946 : S251.2 cal = aQ (cy 2) 5 (va_up (va_up (va_up (va_up (va_up (fun _ => none) 0 (some car0)) 1 (some car1)) 2 (some car2)) 3 (some car3)) 4 (some car4)) := by rw [hS277]; exact (pup_n (fun z : cal = lt => hq_lt (by rw [← z]; exact hL935))).trans hf944
  have hL947 : cal ∈ S290.1 := by rw [hS290]; exact hL945
  have hf948 : S290.2 cal = aQ (cy 2) 5 (va_up (va_up (va_up (va_up (va_up (fun _ => none) 0 (some car0)) 1 (some car1)) 2 (some car2)) 3 (some car3)) 4 (some car4)) := by rw [hS290]; exact (pup_n (fun z : cal = x => hq158 (by rw [z]; exact hL185))).trans hf946
  have hL949 : can ∈ S189.1 := by rw [hS189]; exact hL173
  have hf950 : S189.2 can = .inr (7, [.ref cam, .int (nI 0)]) := by rw [hS189]; exact (pup_n (fun z : can = x => hq159 (by rw [z]; exact hL185))).trans hf145
  have hL951 : can ∈ S192.1 := by rw [hS192]; exact List.mem_append_left _ hL949
  have hf952 : S192.2 can = .inr (7, [.ref cam, .int (nI 0)]) := by rw [hS192]; exact (pnew_n (fun z : can = su => hq_su (by rw [← z]; exact hL949))).trans hf950
  have hL953 : can ∈ S195.1 := by rw [hS197]; exact List.mem_append_left _ hL951
  have hf954 : S195.2 can = .inr (7, [.ref cam, .int (nI 0)]) := (hfr198 can hL951 (fun z : can = su => hq_su (by rw [← z]; exact hL949))).trans hf952
  have hL955 : can ∈ S245.1 := by rw [hS245]; exact hL953
  have hf956 : S245.2 can = .inr (7, [.ref cam, .int (nI 0)]) := by rw [hS245]; exact (pup_n (fun z : can = x => hq159 (by rw [z]; exact hL185))).trans hf954
  have hL957 : can ∈ S248.1 := by rw [hS248]; exact List.mem_append_left _ hL955
  have hf958 : S248.2 can = .inr (7, [.ref cam, .int (nI 0)]) := by rw [hS248]; exact (pnew_n (fun z : can = lt => hq_lt (by rw [← z]; exact hL955))).trans hf956
  have hL959 : can ∈ S259.1 := by rw [hS259]; exact List.mem_append_left _ hL957
  have hf960 : S259.2 can = .inr (7, [.ref cam, .int (nI 0)]) := by rw [hS259]; exact (pnew_n (fun z : can = lf => hp253 (by rw [← z]; exact hL957))).trans hf958
  have hL961 : can ∈ S262.1 := by rw [hS262]; exact List.mem_append_left _ hL959
  have hf962 : S262.2 can = .inr (7, [.ref cam, .int (nI 0)]) := by rw [hS262]; exact (pnew_n (fun z : can = lx => hq263 (by rw [← z]; exact hL959))).trans hf960
  have hL963 : can ∈ S266.1 := by rw [hS266]; exact List.mem_append_left _ hL961
  have hf964 : S266.2 can = .inr (7, [.ref cam, .int (nI 0)]) := by rw [hS266]; exact (pnew_n (fun z : can = lw => hq268 (by rw [← z]; exact hL961))).trans hf962
  have hL965 : can ∈ S251.1 := by rw [hS277]; exact hL963
  have hf966 : S251.2 can = .inr (7, [.ref cam, .int (nI 0)]) := by rw [hS277]; exact (pup_n (fun z : can = lt => hq_lt (by rw [← z]; exact hL955))).trans hf964
  have hL967 : can ∈ S290.1 := by rw [hS290]; exact hL965
  have hf968 : S290.2 can = .inr (7, [.ref cam, .int (nI 0)]) := by rw [hS290]; exact (pup_n (fun z : can = x => hq159 (by rw [z]; exact hL185))).trans hf966
  have hL969 : cam ∈ S189.1 := by rw [hS189]; exact hL174
  have hf970 : S189.2 cam = aN (cy 0) 0 (fun _ => 0) := by rw [hS189]; exact (pup_n (fun z : cam = x => hq160 (by rw [z]; exact hL185))).trans hf146
  have hL971 : cam ∈ S192.1 := by rw [hS192]; exact List.mem_append_left _ hL969
  have hf972 : S192.2 cam = aN (cy 0) 0 (fun _ => 0) := by rw [hS192]; exact (pnew_n (fun z : cam = su => hq_su (by rw [← z]; exact hL969))).trans hf970
  have hL973 : cam ∈ S195.1 := by rw [hS197]; exact List.mem_append_left _ hL971
  have hf974 : S195.2 cam = aN (cy 0) 0 (fun _ => 0) := (hfr198 cam hL971 (fun z : cam = su => hq_su (by rw [← z]; exact hL969))).trans hf972
  have hL975 : cam ∈ S245.1 := by rw [hS245]; exact hL973
  have hf976 : S245.2 cam = aN (cy 0) 0 (fun _ => 0) := by rw [hS245]; exact (pup_n (fun z : cam = x => hq160 (by rw [z]; exact hL185))).trans hf974
  have hL977 : cam ∈ S248.1 := by rw [hS248]; exact List.mem_append_left _ hL975
  have hf978 : S248.2 cam = aN (cy 0) 0 (fun _ => 0) := by rw [hS248]; exact (pnew_n (fun z : cam = lt => hq_lt (by rw [← z]; exact hL975))).trans hf976
  have hL979 : cam ∈ S259.1 := by rw [hS259]; exact List.mem_append_left _ hL977
  have hf980 : S259.2 cam = aN (cy 0) 0 (fun _ => 0) := by rw [hS259]; exact (pnew_n (fun z : cam = lf => hp253 (by rw [← z]; exact hL977))).trans hf978
  have hL981 : cam ∈ S262.1 := by rw [hS262]; exact List.mem_append_left _ hL979
  have hf982 : S262.2 cam = aN (cy 0) 0 (fun _ => 0) := by rw [hS262]; exact (pnew_n (fun z : cam = lx => hq263 (by rw [← z]; exact hL979))).trans hf980
  have hL983 : cam ∈ S266.1 := by rw [hS266]; exact List.mem_append_left _ hL981
  have hf984 : S266.2 cam = aN (cy 0) 0 (fun _ => 0) := by rw [hS266]; exact (pnew_n (fun z : cam = lw => hq268 (by rw [← z]; exact hL981))).trans hf982
  have hL985 : cam ∈ S251.1 := by rw [hS277]; exact hL983
  have hf986 : S251.2 cam = aN (cy 0) 0 (fun _ => 0) := by rw [hS277]; exact (pup_n (fun z : cam = lt => hq_lt (by rw [← z]; exact hL975))).trans hf984
  have hL987 : cam ∈ S290.1 := by rw [hS290]; exact hL985
  have hf988 : S290.2 cam = aN (cy 0) 0 (fun _ => 0) := by rw [hS290]; exact (pup_n (fun z : cam = x => hq160 (by rw [z]; exact hL185))).trans hf986
  have hL989 : car0 ∈ S189.1 := by rw [hS189]; exact hL175
  have hf990 : S189.2 car0 = .inr (7, [.ref cab0, .int (nI 0)]) := by rw [hS189]; exact (pup_n (fun z : car0 = x => hq161 (by rw [z]; exact hL185))).trans hf147
  have hL991 : car0 ∈ S192.1 := by rw [hS192]; exact List.mem_append_left _ hL989
  have hf992 : S192.2 car0 = .inr (7, [.ref cab0, .int (nI 0)]) := by rw [hS192]; exact (pnew_n (fun z : car0 = su => hq_su (by rw [← z]; exact hL989))).trans hf990
  have hL993 : car0 ∈ S195.1 := by rw [hS197]; exact List.mem_append_left _ hL991
  have hf994 : S195.2 car0 = .inr (7, [.ref cab0, .int (nI 0)]) := (hfr198 car0 hL991 (fun z : car0 = su => hq_su (by rw [← z]; exact hL989))).trans hf992
  have hL995 : car0 ∈ S245.1 := by rw [hS245]; exact hL993
  have hf996 : S245.2 car0 = .inr (7, [.ref cab0, .int (nI 0)]) := by rw [hS245]; exact (pup_n (fun z : car0 = x => hq161 (by rw [z]; exact hL185))).trans hf994
  have hL997 : car0 ∈ S248.1 := by rw [hS248]; exact List.mem_append_left _ hL995
  have hf998 : S248.2 car0 = .inr (7, [.ref cab0, .int (nI 0)]) := by rw [hS248]; exact (pnew_n (fun z : car0 = lt => hq_lt (by rw [← z]; exact hL995))).trans hf996
  have hL999 : car0 ∈ S259.1 := by rw [hS259]; exact List.mem_append_left _ hL997
  have hf1000 : S259.2 car0 = .inr (7, [.ref cab0, .int (nI 0)]) := by rw [hS259]; exact (pnew_n (fun z : car0 = lf => hp253 (by rw [← z]; exact hL997))).trans hf998
  have hL1001 : car0 ∈ S262.1 := by rw [hS262]; exact List.mem_append_left _ hL999
  have hf1002 : S262.2 car0 = .inr (7, [.ref cab0, .int (nI 0)]) := by rw [hS262]; exact (pnew_n (fun z : car0 = lx => hq263 (by rw [← z]; exact hL999))).trans hf1000
  have hL1003 : car0 ∈ S266.1 := by rw [hS266]; exact List.mem_append_left _ hL1001
  have hf1004 : S266.2 car0 = .inr (7, [.ref cab0, .int (nI 0)]) := by rw [hS266]; exact (pnew_n (fun z : car0 = lw => hq268 (by rw [← z]; exact hL1001))).trans hf1002
  have hL1005 : car0 ∈ S251.1 := by rw [hS277]; exact hL1003
  have hf1006 : S251.2 car0 = .inr (7, [.ref cab0, .int (nI 0)]) := by rw [hS277]; exact (pup_n (fun z : car0 = lt => hq_lt (by rw [← z]; exact hL995))).trans hf1004
  have hL1007 : car0 ∈ S290.1 := by rw [hS290]; exact hL1005
  have hf1008 : S290.2 car0 = .inr (7, [.ref cab0, .int (nI 0)]) := by rw [hS290]; exact (pup_n (fun z : car0 = x => hq161 (by rw [z]; exact hL185))).trans hf1006
  have hL1009 : cab0 ∈ S189.1 := by rw [hS189]; exact hL176
  have hf1010 : S189.2 cab0 = aN (cy 0) 32 (fun _ => 0) := by rw [hS189]; exact (pup_n (fun z : cab0 = x => hq162 (by rw [z]; exact hL185))).trans hf148
  have hL1011 : cab0 ∈ S192.1 := by rw [hS192]; exact List.mem_append_left _ hL1009
  have hf1012 : S192.2 cab0 = aN (cy 0) 32 (fun _ => 0) := by rw [hS192]; exact (pnew_n (fun z : cab0 = su => hq_su (by rw [← z]; exact hL1009))).trans hf1010
  have hL1013 : cab0 ∈ S195.1 := by rw [hS197]; exact List.mem_append_left _ hL1011
  have hf1014 : S195.2 cab0 = aN (cy 0) 32 (fun _ => 0) := (hfr198 cab0 hL1011 (fun z : cab0 = su => hq_su (by rw [← z]; exact hL1009))).trans hf1012
  have hL1015 : cab0 ∈ S245.1 := by rw [hS245]; exact hL1013
  have hf1016 : S245.2 cab0 = aN (cy 0) 32 (fun _ => 0) := by rw [hS245]; exact (pup_n (fun z : cab0 = x => hq162 (by rw [z]; exact hL185))).trans hf1014
  have hL1017 : cab0 ∈ S248.1 := by rw [hS248]; exact List.mem_append_left _ hL1015
  have hf1018 : S248.2 cab0 = aN (cy 0) 32 (fun _ => 0) := by rw [hS248]; exact (pnew_n (fun z : cab0 = lt => hq_lt (by rw [← z]; exact hL1015))).trans hf1016
  have hL1019 : cab0 ∈ S259.1 := by rw [hS259]; exact List.mem_append_left _ hL1017
  have hf1020 : S259.2 cab0 = aN (cy 0) 32 (fun _ => 0) := by rw [hS259]; exact (pnew_n (fun z : cab0 = lf => hp253 (by rw [← z]; exact hL1017))).trans hf1018
  have hL1021 : cab0 ∈ S262.1 := by rw [hS262]; exact List.mem_append_left _ hL1019
  have hf1022 : S262.2 cab0 = aN (cy 0) 32 (fun _ => 0) := by rw [hS262]; exact (pnew_n (fun z : cab0 = lx => hq263 (by rw [← z]; exact hL1019))).trans hf1020
  have hL1023 : cab0 ∈ S266.1 := by rw [hS266]; exact List.mem_append_left _ hL1021
  have hf1024 : S266.2 cab0 = aN (cy 0) 32 (fun _ => 0) := by rw [hS266]; exact (pnew_n (fun z : cab0 = lw => hq268 (by rw [← z]; exact hL1021))).trans hf1022
  have hL1025 : cab0 ∈ S251.1 := by rw [hS277]; exact hL1023
  have hf1026 : S251.2 cab0 = aN (cy 0) 32 (fun _ => 0) := by rw [hS277]; exact (pup_n (fun z : cab0 = lt => hq_lt (by rw [← z]; exact hL1015))).trans hf1024
  have hL1027 : cab0 ∈ S290.1 := by rw [hS290]; exact hL1025
  have hf1028 : S290.2 cab0 = aN (cy 0) 32 (fun _ => 0) := by rw [hS290]; exact (pup_n (fun z : cab0 = x => hq162 (by rw [z]; exact hL185))).trans hf1026
  have hL1029 : car1 ∈ S189.1 := by rw [hS189]; exact hL177
  have hf1030 : S189.2 car1 = .inr (7, [.ref cab1, .int (nI 0)]) := by rw [hS189]; exact (pup_n (fun z : car1 = x => hq163 (by rw [z]; exact hL185))).trans hf149
  have hL1031 : car1 ∈ S192.1 := by rw [hS192]; exact List.mem_append_left _ hL1029
  have hf1032 : S192.2 car1 = .inr (7, [.ref cab1, .int (nI 0)]) := by rw [hS192]; exact (pnew_n (fun z : car1 = su => hq_su (by rw [← z]; exact hL1029))).trans hf1030
  have hL1033 : car1 ∈ S195.1 := by rw [hS197]; exact List.mem_append_left _ hL1031
  have hf1034 : S195.2 car1 = .inr (7, [.ref cab1, .int (nI 0)]) := (hfr198 car1 hL1031 (fun z : car1 = su => hq_su (by rw [← z]; exact hL1029))).trans hf1032
  have hL1035 : car1 ∈ S245.1 := by rw [hS245]; exact hL1033
  have hf1036 : S245.2 car1 = .inr (7, [.ref cab1, .int (nI 0)]) := by rw [hS245]; exact (pup_n (fun z : car1 = x => hq163 (by rw [z]; exact hL185))).trans hf1034
  have hL1037 : car1 ∈ S248.1 := by rw [hS248]; exact List.mem_append_left _ hL1035
  have hf1038 : S248.2 car1 = .inr (7, [.ref cab1, .int (nI 0)]) := by rw [hS248]; exact (pnew_n (fun z : car1 = lt => hq_lt (by rw [← z]; exact hL1035))).trans hf1036
  have hL1039 : car1 ∈ S259.1 := by rw [hS259]; exact List.mem_append_left _ hL1037
  have hf1040 : S259.2 car1 = .inr (7, [.ref cab1, .int (nI 0)]) := by rw [hS259]; exact (pnew_n (fun z : car1 = lf => hp253 (by rw [← z]; exact hL1037))).trans hf1038
  have hL1041 : car1 ∈ S262.1 := by rw [hS262]; exact List.mem_append_left _ hL1039
  have hf1042 : S262.2 car1 = .inr (7, [.ref cab1, .int (nI 0)]) := by rw [hS262]; exact (pnew_n (fun z : car1 = lx => hq263 (by rw [← z]; exact hL1039))).trans hf1040
  have hL1043 : car1 ∈ S266.1 := by rw [hS266]; exact List.mem_append_left _ hL1041
  have hf1044 : S266.2 car1 = .inr (7, [.ref cab1, .int (nI 0)]) := by rw [hS266]; exact (pnew_n (fun z : car1 = lw => hq268 (by rw [← z]; exact hL1041))).trans hf1042
  have hL1045 : car1 ∈ S251.1 := by rw [hS277]; exact hL1043
  have hf1046 : S251.2 car1 = .inr (7, [.ref cab1, .int (nI 0)]) := by rw [hS277]; exact (pup_n (fun z : car1 = lt => hq_lt (by rw [← z]; exact hL1035))).trans hf1044
  have hL1047 : car1 ∈ S290.1 := by rw [hS290]; exact hL1045
  have hf1048 : S290.2 car1 = .inr (7, [.ref cab1, .int (nI 0)]) := by rw [hS290]; exact (pup_n (fun z : car1 = x => hq163 (by rw [z]; exact hL185))).trans hf1046
  have hL1049 : cab1 ∈ S189.1 := by rw [hS189]; exact hL178
  have hf1050 : S189.2 cab1 = aN (cy 0) 320 (fun _ => 0) := by rw [hS189]; exact (pup_n (fun z : cab1 = x => hq164 (by rw [z]; exact hL185))).trans hf150
  have hL1051 : cab1 ∈ S192.1 := by rw [hS192]; exact List.mem_append_left _ hL1049
  have hf1052 : S192.2 cab1 = aN (cy 0) 320 (fun _ => 0) := by rw [hS192]; exact (pnew_n (fun z : cab1 = su => hq_su (by rw [← z]; exact hL1049))).trans hf1050
  have hL1053 : cab1 ∈ S195.1 := by rw [hS197]; exact List.mem_append_left _ hL1051
  have hf1054 : S195.2 cab1 = aN (cy 0) 320 (fun _ => 0) := (hfr198 cab1 hL1051 (fun z : cab1 = su => hq_su (by rw [← z]; exact hL1049))).trans hf1052
  have hL1055 : cab1 ∈ S245.1 := by rw [hS245]; exact hL1053
  have hf1056 : S245.2 cab1 = aN (cy 0) 320 (fun _ => 0) := by rw [hS245]; exact (pup_n (fun z : cab1 = x => hq164 (by rw [z]; exact hL185))).trans hf1054
  have hL1057 : cab1 ∈ S248.1 := by rw [hS248]; exact List.mem_append_left _ hL1055
  have hf1058 : S248.2 cab1 = aN (cy 0) 320 (fun _ => 0) := by rw [hS248]; exact (pnew_n (fun z : cab1 = lt => hq_lt (by rw [← z]; exact hL1055))).trans hf1056
  have hL1059 : cab1 ∈ S259.1 := by rw [hS259]; exact List.mem_append_left _ hL1057
  have hf1060 : S259.2 cab1 = aN (cy 0) 320 (fun _ => 0) := by rw [hS259]; exact (pnew_n (fun z : cab1 = lf => hp253 (by rw [← z]; exact hL1057))).trans hf1058
  have hL1061 : cab1 ∈ S262.1 := by rw [hS262]; exact List.mem_append_left _ hL1059
  have hf1062 : S262.2 cab1 = aN (cy 0) 320 (fun _ => 0) := by rw [hS262]; exact (pnew_n (fun z : cab1 = lx => hq263 (by rw [← z]; exact hL1059))).trans hf1060
  have hL1063 : cab1 ∈ S266.1 := by rw [hS266]; exact List.mem_append_left _ hL1061
  have hf1064 : S266.2 cab1 = aN (cy 0) 320 (fun _ => 0) := by rw [hS266]; exact (pnew_n (fun z : cab1 = lw => hq268 (by rw [← z]; exact hL1061))).trans hf1062
  have hL1065 : cab1 ∈ S251.1 := by rw [hS277]; exact hL1063
  have hf1066 : S251.2 cab1 = aN (cy 0) 320 (fun _ => 0) := by rw [hS277]; exact (pup_n (fun z : cab1 = lt => hq_lt (by rw [← z]; exact hL1055))).trans hf1064
  have hL1067 : cab1 ∈ S290.1 := by rw [hS290]; exact hL1065
  have hf1068 : S290.2 cab1 = aN (cy 0) 320 (fun _ => 0) := by rw [hS290]; exact (pup_n (fun z : cab1 = x => hq164 (by rw [z]; exact hL185))).trans hf1066
  have hL1069 : car2 ∈ S189.1 := by rw [hS189]; exact hL179
  have hf1070 : S189.2 car2 = .inr (7, [.ref cab2, .int (nI 0)]) := by rw [hS189]; exact (pup_n (fun z : car2 = x => hq165 (by rw [z]; exact hL185))).trans hf151
  have hL1071 : car2 ∈ S192.1 := by rw [hS192]; exact List.mem_append_left _ hL1069
  have hf1072 : S192.2 car2 = .inr (7, [.ref cab2, .int (nI 0)]) := by rw [hS192]; exact (pnew_n (fun z : car2 = su => hq_su (by rw [← z]; exact hL1069))).trans hf1070
  have hL1073 : car2 ∈ S195.1 := by rw [hS197]; exact List.mem_append_left _ hL1071
  have hf1074 : S195.2 car2 = .inr (7, [.ref cab2, .int (nI 0)]) := (hfr198 car2 hL1071 (fun z : car2 = su => hq_su (by rw [← z]; exact hL1069))).trans hf1072
  have hL1075 : car2 ∈ S245.1 := by rw [hS245]; exact hL1073
  have hf1076 : S245.2 car2 = .inr (7, [.ref cab2, .int (nI 0)]) := by rw [hS245]; exact (pup_n (fun z : car2 = x => hq165 (by rw [z]; exact hL185))).trans hf1074
  have hL1077 : car2 ∈ S248.1 := by rw [hS248]; exact List.mem_append_left _ hL1075
  have hf1078 : S248.2 car2 = .inr (7, [.ref cab2, .int (nI 0)]) := by rw [hS248]; exact (pnew_n (fun z : car2 = lt => hq_lt (by rw [← z]; exact hL1075))).trans hf1076
  have hL1079 : car2 ∈ S259.1 := by rw [hS259]; exact List.mem_append_left _ hL1077
  have hf1080 : S259.2 car2 = .inr (7, [.ref cab2, .int (nI 0)]) := by rw [hS259]; exact (pnew_n (fun z : car2 = lf => hp253 (by rw [← z]; exact hL1077))).trans hf1078
  have hL1081 : car2 ∈ S262.1 := by rw [hS262]; exact List.mem_append_left _ hL1079
  have hf1082 : S262.2 car2 = .inr (7, [.ref cab2, .int (nI 0)]) := by rw [hS262]; exact (pnew_n (fun z : car2 = lx => hq263 (by rw [← z]; exact hL1079))).trans hf1080
  have hL1083 : car2 ∈ S266.1 := by rw [hS266]; exact List.mem_append_left _ hL1081
  have hf1084 : S266.2 car2 = .inr (7, [.ref cab2, .int (nI 0)]) := by rw [hS266]; exact (pnew_n (fun z : car2 = lw => hq268 (by rw [← z]; exact hL1081))).trans hf1082
  have hL1085 : car2 ∈ S251.1 := by rw [hS277]; exact hL1083
  have hf1086 : S251.2 car2 = .inr (7, [.ref cab2, .int (nI 0)]) := by rw [hS277]; exact (pup_n (fun z : car2 = lt => hq_lt (by rw [← z]; exact hL1075))).trans hf1084
  have hL1087 : car2 ∈ S290.1 := by rw [hS290]; exact hL1085
  have hf1088 : S290.2 car2 = .inr (7, [.ref cab2, .int (nI 0)]) := by rw [hS290]; exact (pup_n (fun z : car2 = x => hq165 (by rw [z]; exact hL185))).trans hf1086
  have hL1089 : cab2 ∈ S189.1 := by rw [hS189]; exact hL180
  have hf1090 : S189.2 cab2 = aN (cy 0) 320 (fun _ => 0) := by rw [hS189]; exact (pup_n (fun z : cab2 = x => hq166 (by rw [z]; exact hL185))).trans hf152
  have hL1091 : cab2 ∈ S192.1 := by rw [hS192]; exact List.mem_append_left _ hL1089
  have hf1092 : S192.2 cab2 = aN (cy 0) 320 (fun _ => 0) := by rw [hS192]; exact (pnew_n (fun z : cab2 = su => hq_su (by rw [← z]; exact hL1089))).trans hf1090
  have hL1093 : cab2 ∈ S195.1 := by rw [hS197]; exact List.mem_append_left _ hL1091
  have hf1094 : S195.2 cab2 = aN (cy 0) 320 (fun _ => 0) := (hfr198 cab2 hL1091 (fun z : cab2 = su => hq_su (by rw [← z]; exact hL1089))).trans hf1092
  have hL1095 : cab2 ∈ S245.1 := by rw [hS245]; exact hL1093
  have hf1096 : S245.2 cab2 = aN (cy 0) 320 (fun _ => 0) := by rw [hS245]; exact (pup_n (fun z : cab2 = x => hq166 (by rw [z]; exact hL185))).trans hf1094
  have hL1097 : cab2 ∈ S248.1 := by rw [hS248]; exact List.mem_append_left _ hL1095
  have hf1098 : S248.2 cab2 = aN (cy 0) 320 (fun _ => 0) := by rw [hS248]; exact (pnew_n (fun z : cab2 = lt => hq_lt (by rw [← z]; exact hL1095))).trans hf1096
  have hL1099 : cab2 ∈ S259.1 := by rw [hS259]; exact List.mem_append_left _ hL1097
  have hf1100 : S259.2 cab2 = aN (cy 0) 320 (fun _ => 0) := by rw [hS259]; exact (pnew_n (fun z : cab2 = lf => hp253 (by rw [← z]; exact hL1097))).trans hf1098
  have hL1101 : cab2 ∈ S262.1 := by rw [hS262]; exact List.mem_append_left _ hL1099
  have hf1102 : S262.2 cab2 = aN (cy 0) 320 (fun _ => 0) := by rw [hS262]; exact (pnew_n (fun z : cab2 = lx => hq263 (by rw [← z]; exact hL1099))).trans hf1100
  have hL1103 : cab2 ∈ S266.1 := by rw [hS266]; exact List.mem_append_left _ hL1101
  have hf1104 : S266.2 cab2 = aN (cy 0) 320 (fun _ => 0) := by rw [hS266]; exact (pnew_n (fun z : cab2 = lw => hq268 (by rw [← z]; exact hL1101))).trans hf1102
  have hL1105 : cab2 ∈ S251.1 := by rw [hS277]; exact hL1103
  have hf1106 : S251.2 cab2 = aN (cy 0) 320 (fun _ => 0) := by rw [hS277]; exact (pup_n (fun z : cab2 = lt => hq_lt (by rw [← z]; exact hL1095))).trans hf1104
  have hL1107 : cab2 ∈ S290.1 := by rw [hS290]; exact hL1105
  have hf1108 : S290.2 cab2 = aN (cy 0) 320 (fun _ => 0) := by rw [hS290]; exact (pup_n (fun z : cab2 = x => hq166 (by rw [z]; exact hL185))).trans hf1106
  have hL1109 : car3 ∈ S189.1 := by rw [hS189]; exact hL181
  have hf1110 : S189.2 car3 = .inr (7, [.ref cab3, .int (nI 0)]) := by rw [hS189]; exact (pup_n (fun z : car3 = x => hq167 (by rw [z]; exact hL185))).trans hf153
  have hL1111 : car3 ∈ S192.1 := by rw [hS192]; exact List.mem_append_left _ hL1109
  have hf1112 : S192.2 car3 = .inr (7, [.ref cab3, .int (nI 0)]) := by rw [hS192]; exact (pnew_n (fun z : car3 = su => hq_su (by rw [← z]; exact hL1109))).trans hf1110
  have hL1113 : car3 ∈ S195.1 := by rw [hS197]; exact List.mem_append_left _ hL1111
  have hf1114 : S195.2 car3 = .inr (7, [.ref cab3, .int (nI 0)]) := (hfr198 car3 hL1111 (fun z : car3 = su => hq_su (by rw [← z]; exact hL1109))).trans hf1112
  have hL1115 : car3 ∈ S245.1 := by rw [hS245]; exact hL1113
  have hf1116 : S245.2 car3 = .inr (7, [.ref cab3, .int (nI 0)]) := by rw [hS245]; exact (pup_n (fun z : car3 = x => hq167 (by rw [z]; exact hL185))).trans hf1114
  have hL1117 : car3 ∈ S248.1 := by rw [hS248]; exact List.mem_append_left _ hL1115
  have hf1118 : S248.2 car3 = .inr (7, [.ref cab3, .int (nI 0)]) := by rw [hS248]; exact (pnew_n (fun z : car3 = lt => hq_lt (by rw [← z]; exact hL1115))).trans hf1116
  have hL1119 : car3 ∈ S259.1 := by rw [hS259]; exact List.mem_append_left _ hL1117
  have hf1120 : S259.2 car3 = .inr (7, [.ref cab3, .int (nI 0)]) := by rw [hS259]; exact (pnew_n (fun z : car3 = lf => hp253 (by rw [← z]; exact hL1117))).trans hf1118
  have hL1121 : car3 ∈ S262.1 := by rw [hS262]; exact List.mem_append_left _ hL1119
  have hf1122 : S262.2 car3 = .inr (7, [.ref cab3, .int (nI 0)]) := by rw [hS262]; exact (pnew_n (fun z : car3 = lx => hq263 (by rw [← z]; exact hL1119))).trans hf1120
  have hL1123 : car3 ∈ S266.1 := by rw [hS266]; exact List.mem_append_left _ hL1121
  have hf1124 : S266.2 car3 = .inr (7, [.ref cab3, .int (nI 0)]) := by rw [hS266]; exact (pnew_n (fun z : car3 = lw => hq268 (by rw [← z]; exact hL1121))).trans hf1122
  have hL1125 : car3 ∈ S251.1 := by rw [hS277]; exact hL1123
  have hf1126 : S251.2 car3 = .inr (7, [.ref cab3, .int (nI 0)]) := by rw [hS277]; exact (pup_n (fun z : car3 = lt => hq_lt (by rw [← z]; exact hL1115))).trans hf1124
  have hL1127 : car3 ∈ S290.1 := by rw [hS290]; exact hL1125
  have hf1128 : S290.2 car3 = .inr (7, [.ref cab3, .int (nI 0)]) := by rw [hS290]; exact (pup_n (fun z : car3 = x => hq167 (by rw [z]; exact hL185))).trans hf1126
  have hL1129 : cab3 ∈ S189.1 := by rw [hS189]; exact hL182
  have hf1130 : S189.2 cab3 = aN (cy 0) 320 (fun _ => 0) := by rw [hS189]; exact (pup_n (fun z : cab3 = x => hq168 (by rw [z]; exact hL185))).trans hf154
  have hL1131 : cab3 ∈ S192.1 := by rw [hS192]; exact List.mem_append_left _ hL1129
  have hf1132 : S192.2 cab3 = aN (cy 0) 320 (fun _ => 0) := by rw [hS192]; exact (pnew_n (fun z : cab3 = su => hq_su (by rw [← z]; exact hL1129))).trans hf1130
  have hL1133 : cab3 ∈ S195.1 := by rw [hS197]; exact List.mem_append_left _ hL1131
  have hf1134 : S195.2 cab3 = aN (cy 0) 320 (fun _ => 0) := (hfr198 cab3 hL1131 (fun z : cab3 = su => hq_su (by rw [← z]; exact hL1129))).trans hf1132
  have hL1135 : cab3 ∈ S245.1 := by rw [hS245]; exact hL1133
  have hf1136 : S245.2 cab3 = aN (cy 0) 320 (fun _ => 0) := by rw [hS245]; exact (pup_n (fun z : cab3 = x => hq168 (by rw [z]; exact hL185))).trans hf1134
  have hL1137 : cab3 ∈ S248.1 := by rw [hS248]; exact List.mem_append_left _ hL1135
  have hf1138 : S248.2 cab3 = aN (cy 0) 320 (fun _ => 0) := by rw [hS248]; exact (pnew_n (fun z : cab3 = lt => hq_lt (by rw [← z]; exact hL1135))).trans hf1136
  have hL1139 : cab3 ∈ S259.1 := by rw [hS259]; exact List.mem_append_left _ hL1137
  have hf1140 : S259.2 cab3 = aN (cy 0) 320 (fun _ => 0) := by rw [hS259]; exact (pnew_n (fun z : cab3 = lf => hp253 (by rw [← z]; exact hL1137))).trans hf1138
  have hL1141 : cab3 ∈ S262.1 := by rw [hS262]; exact List.mem_append_left _ hL1139
  have hf1142 : S262.2 cab3 = aN (cy 0) 320 (fun _ => 0) := by rw [hS262]; exact (pnew_n (fun z : cab3 = lx => hq263 (by rw [← z]; exact hL1139))).trans hf1140
  have hL1143 : cab3 ∈ S266.1 := by rw [hS266]; exact List.mem_append_left _ hL1141
  have hf1144 : S266.2 cab3 = aN (cy 0) 320 (fun _ => 0) := by rw [hS266]; exact (pnew_n (fun z : cab3 = lw => hq268 (by rw [← z]; exact hL1141))).trans hf1142
  have hL1145 : cab3 ∈ S251.1 := by rw [hS277]; exact hL1143
  have hf1146 : S251.2 cab3 = aN (cy 0) 320 (fun _ => 0) := by rw [hS277]; exact (pup_n (fun z : cab3 = lt => hq_lt (by rw [← z]; exact hL1135))).trans hf1144
  have hL1147 : cab3 ∈ S290.1 := by rw [hS290]; exact hL1145
  have hf1148 : S290.2 cab3 = aN (cy 0) 320 (fun _ => 0) := by rw [hS290]; exact (pup_n (fun z : cab3 = x => hq168 (by rw [z]; exact hL185))).trans hf1146
  have hL1149 : car4 ∈ S189.1 := by rw [hS189]; exact hL183
  have hf1150 : S189.2 car4 = .inr (7, [.ref cab4, .int (nI 0)]) := by rw [hS189]; exact (pup_n (fun z : car4 = x => hq169 (by rw [z]; exact hL185))).trans hf155
  have hL1151 : car4 ∈ S192.1 := by rw [hS192]; exact List.mem_append_left _ hL1149
  have hf1152 : S192.2 car4 = .inr (7, [.ref cab4, .int (nI 0)]) := by rw [hS192]; exact (pnew_n (fun z : car4 = su => hq_su (by rw [← z]; exact hL1149))).trans hf1150
  have hL1153 : car4 ∈ S195.1 := by rw [hS197]; exact List.mem_append_left _ hL1151
  have hf1154 : S195.2 car4 = .inr (7, [.ref cab4, .int (nI 0)]) := (hfr198 car4 hL1151 (fun z : car4 = su => hq_su (by rw [← z]; exact hL1149))).trans hf1152
  have hL1155 : car4 ∈ S245.1 := by rw [hS245]; exact hL1153
  have hf1156 : S245.2 car4 = .inr (7, [.ref cab4, .int (nI 0)]) := by rw [hS245]; exact (pup_n (fun z : car4 = x => hq169 (by rw [z]; exact hL185))).trans hf1154
  have hL1157 : car4 ∈ S248.1 := by rw [hS248]; exact List.mem_append_left _ hL1155
  have hf1158 : S248.2 car4 = .inr (7, [.ref cab4, .int (nI 0)]) := by rw [hS248]; exact (pnew_n (fun z : car4 = lt => hq_lt (by rw [← z]; exact hL1155))).trans hf1156
  have hL1159 : car4 ∈ S259.1 := by rw [hS259]; exact List.mem_append_left _ hL1157
  have hf1160 : S259.2 car4 = .inr (7, [.ref cab4, .int (nI 0)]) := by rw [hS259]; exact (pnew_n (fun z : car4 = lf => hp253 (by rw [← z]; exact hL1157))).trans hf1158
  have hL1161 : car4 ∈ S262.1 := by rw [hS262]; exact List.mem_append_left _ hL1159
  have hf1162 : S262.2 car4 = .inr (7, [.ref cab4, .int (nI 0)]) := by rw [hS262]; exact (pnew_n (fun z : car4 = lx => hq263 (by rw [← z]; exact hL1159))).trans hf1160
  have hL1163 : car4 ∈ S266.1 := by rw [hS266]; exact List.mem_append_left _ hL1161
  have hf1164 : S266.2 car4 = .inr (7, [.ref cab4, .int (nI 0)]) := by rw [hS266]; exact (pnew_n (fun z : car4 = lw => hq268 (by rw [← z]; exact hL1161))).trans hf1162
  have hL1165 : car4 ∈ S251.1 := by rw [hS277]; exact hL1163
  have hf1166 : S251.2 car4 = .inr (7, [.ref cab4, .int (nI 0)]) := by rw [hS277]; exact (pup_n (fun z : car4 = lt => hq_lt (by rw [← z]; exact hL1155))).trans hf1164
  have hL1167 : car4 ∈ S290.1 := by rw [hS290]; exact hL1165
  have hf1168 : S290.2 car4 = .inr (7, [.ref cab4, .int (nI 0)]) := by rw [hS290]; exact (pup_n (fun z : car4 = x => hq169 (by rw [z]; exact hL185))).trans hf1166
  have hL1169 : cab4 ∈ S189.1 := by rw [hS189]; exact hL184
  have hf1170 : S189.2 cab4 = aN (cy 0) 320 (fun _ => 0) := by rw [hS189]; exact (pup_n (fun z : cab4 = x => hq170 (by rw [z]; exact hL185))).trans hf156
  have hL1171 : cab4 ∈ S192.1 := by rw [hS192]; exact List.mem_append_left _ hL1169
  have hf1172 : S192.2 cab4 = aN (cy 0) 320 (fun _ => 0) := by rw [hS192]; exact (pnew_n (fun z : cab4 = su => hq_su (by rw [← z]; exact hL1169))).trans hf1170
  have hL1173 : cab4 ∈ S195.1 := by rw [hS197]; exact List.mem_append_left _ hL1171
  have hf1174 : S195.2 cab4 = aN (cy 0) 320 (fun _ => 0) := (hfr198 cab4 hL1171 (fun z : cab4 = su => hq_su (by rw [← z]; exact hL1169))).trans hf1172
  have hL1175 : cab4 ∈ S245.1 := by rw [hS245]; exact hL1173
  have hf1176 : S245.2 cab4 = aN (cy 0) 320 (fun _ => 0) := by rw [hS245]; exact (pup_n (fun z : cab4 = x => hq170 (by rw [z]; exact hL185))).trans hf1174
  have hL1177 : cab4 ∈ S248.1 := by rw [hS248]; exact List.mem_append_left _ hL1175
  have hf1178 : S248.2 cab4 = aN (cy 0) 320 (fun _ => 0) := by rw [hS248]; exact (pnew_n (fun z : cab4 = lt => hq_lt (by rw [← z]; exact hL1175))).trans hf1176
  have hL1179 : cab4 ∈ S259.1 := by rw [hS259]; exact List.mem_append_left _ hL1177
  have hf1180 : S259.2 cab4 = aN (cy 0) 320 (fun _ => 0) := by rw [hS259]; exact (pnew_n (fun z : cab4 = lf => hp253 (by rw [← z]; exact hL1177))).trans hf1178
  have hL1181 : cab4 ∈ S262.1 := by rw [hS262]; exact List.mem_append_left _ hL1179
  have hf1182 : S262.2 cab4 = aN (cy 0) 320 (fun _ => 0) := by rw [hS262]; exact (pnew_n (fun z : cab4 = lx => hq263 (by rw [← z]; exact hL1179))).trans hf1180
  have hL1183 : cab4 ∈ S266.1 := by rw [hS266]; exact List.mem_append_left _ hL1181
  have hf1184 : S266.2 cab4 = aN (cy 0) 320 (fun _ => 0) := by rw [hS266]; exact (pnew_n (fun z : cab4 = lw => hq268 (by rw [← z]; exact hL1181))).trans hf1182
  have hL1185 : cab4 ∈ S251.1 := by rw [hS277]; exact hL1183
  have hf1186 : S251.2 cab4 = aN (cy 0) 320 (fun _ => 0) := by rw [hS277]; exact (pup_n (fun z : cab4 = lt => hq_lt (by rw [← z]; exact hL1175))).trans hf1184
  have hL1187 : cab4 ∈ S290.1 := by rw [hS290]; exact hL1185
  have hf1188 : S290.2 cab4 = aN (cy 0) 320 (fun _ => 0) := by rw [hS290]; exact (pup_n (fun z : cab4 = x => hq170 (by rw [z]; exact hL185))).trans hf1186
  have hL1189 : su ∈ S245.1 := by rw [hS245]; exact hL227
  have hf1190 : S245.2 su = .inr (4, [.ref sul, .ref sun]) := by rw [hS245]; exact (pup_n (fun z : su = x => hq_su (by rw [z]; exact hL190))).trans hf199
  have hL1191 : su ∈ S248.1 := by rw [hS248]; exact List.mem_append_left _ hL1189
  have hf1192 : S248.2 su = .inr (4, [.ref sul, .ref sun]) := by rw [hS248]; exact (pnew_n (fun z : su = lt => hq_lt (by rw [← z]; exact hL1189))).trans hf1190
  have hL1193 : su ∈ S259.1 := by rw [hS259]; exact List.mem_append_left _ hL1191
  have hf1194 : S259.2 su = .inr (4, [.ref sul, .ref sun]) := by rw [hS259]; exact (pnew_n (fun z : su = lf => hp253 (by rw [← z]; exact hL1191))).trans hf1192
  have hL1195 : su ∈ S262.1 := by rw [hS262]; exact List.mem_append_left _ hL1193
  have hf1196 : S262.2 su = .inr (4, [.ref sul, .ref sun]) := by rw [hS262]; exact (pnew_n (fun z : su = lx => hq263 (by rw [← z]; exact hL1193))).trans hf1194
  have hL1197 : su ∈ S266.1 := by rw [hS266]; exact List.mem_append_left _ hL1195
  have hf1198 : S266.2 su = .inr (4, [.ref sul, .ref sun]) := by rw [hS266]; exact (pnew_n (fun z : su = lw => hq268 (by rw [← z]; exact hL1195))).trans hf1196
  have hL1199 : su ∈ S251.1 := by rw [hS277]; exact hL1197
  have hf1200 : S251.2 su = .inr (4, [.ref sul, .ref sun]) := by rw [hS277]; exact (pup_n (fun z : su = lt => hq_lt (by rw [← z]; exact hL1189))).trans hf1198
  have hL1201 : su ∈ S290.1 := by rw [hS290]; exact hL1199
  have hf1202 : S290.2 su = .inr (4, [.ref sul, .ref sun]) := by rw [hS290]; exact (pup_n (fun z : su = x => hq_su (by rw [z]; exact hL190))).trans hf1200
  have hL1203 : sul ∈ S245.1 := by rw [hS245]; exact hL228
  have hf1204 : S245.2 sul = aQ (cy 2) 5 (va_up (va_up (va_up (va_up (va_up (fun _ => none) 0 (some sur0)) 1 (some sur1)) 2 (some sur2)) 3 (some sur3)) 4 (some sur4)) := by rw [hS245]; exact (pup_n (fun z : sul = x => hq214 (by rw [z]; exact hL241))).trans hf200
  have hL1205 : sul ∈ S248.1 := by rw [hS248]; exact List.mem_append_left _ hL1203
  have hf1206 : S248.2 sul = aQ (cy 2) 5 (va_up (va_up (va_up (va_up (va_up (fun _ => none) 0 (some sur0)) 1 (some sur1)) 2 (some sur2)) 3 (some sur3)) 4 (some sur4)) := by rw [hS248]; exact (pnew_n (fun z : sul = lt => hq_lt (by rw [← z]; exact hL1203))).trans hf1204
  have hL1207 : sul ∈ S259.1 := by rw [hS259]; exact List.mem_append_left _ hL1205
  have hf1208 : S259.2 sul = aQ (cy 2) 5 (va_up (va_up (va_up (va_up (va_up (fun _ => none) 0 (some sur0)) 1 (some sur1)) 2 (some sur2)) 3 (some sur3)) 4 (some sur4)) := by rw [hS259]; exact (pnew_n (fun z : sul = lf => hp253 (by rw [← z]; exact hL1205))).trans hf1206
  have hL1209 : sul ∈ S262.1 := by rw [hS262]; exact List.mem_append_left _ hL1207
  have hf1210 : S262.2 sul = aQ (cy 2) 5 (va_up (va_up (va_up (va_up (va_up (fun _ => none) 0 (some sur0)) 1 (some sur1)) 2 (some sur2)) 3 (some sur3)) 4 (some sur4)) := by rw [hS262]; exact (pnew_n (fun z : sul = lx => hq263 (by rw [← z]; exact hL1207))).trans hf1208
  have hL1211 : sul ∈ S266.1 := by rw [hS266]; exact List.mem_append_left _ hL1209
  have hf1212 : S266.2 sul = aQ (cy 2) 5 (va_up (va_up (va_up (va_up (va_up (fun _ => none) 0 (some sur0)) 1 (some sur1)) 2 (some sur2)) 3 (some sur3)) 4 (some sur4)) := by rw [hS266]; exact (pnew_n (fun z : sul = lw => hq268 (by rw [← z]; exact hL1209))).trans hf1210
  have hL1213 : sul ∈ S251.1 := by rw [hS277]; exact hL1211
  have hf1214 : S251.2 sul = aQ (cy 2) 5 (va_up (va_up (va_up (va_up (va_up (fun _ => none) 0 (some sur0)) 1 (some sur1)) 2 (some sur2)) 3 (some sur3)) 4 (some sur4)) := by rw [hS277]; exact (pup_n (fun z : sul = lt => hq_lt (by rw [← z]; exact hL1203))).trans hf1212
  have hL1215 : sul ∈ S290.1 := by rw [hS290]; exact hL1213
  have hf1216 : S290.2 sul = aQ (cy 2) 5 (va_up (va_up (va_up (va_up (va_up (fun _ => none) 0 (some sur0)) 1 (some sur1)) 2 (some sur2)) 3 (some sur3)) 4 (some sur4)) := by rw [hS290]; exact (pup_n (fun z : sul = x => hq214 (by rw [z]; exact hL241))).trans hf1214
  have hL1217 : sun ∈ S245.1 := by rw [hS245]; exact hL229
  have hf1218 : S245.2 sun = .inr (7, [.ref sum, .int (nI 0)]) := by rw [hS245]; exact (pup_n (fun z : sun = x => hq215 (by rw [z]; exact hL241))).trans hf201
  have hL1219 : sun ∈ S248.1 := by rw [hS248]; exact List.mem_append_left _ hL1217
  have hf1220 : S248.2 sun = .inr (7, [.ref sum, .int (nI 0)]) := by rw [hS248]; exact (pnew_n (fun z : sun = lt => hq_lt (by rw [← z]; exact hL1217))).trans hf1218
  have hL1221 : sun ∈ S259.1 := by rw [hS259]; exact List.mem_append_left _ hL1219
  have hf1222 : S259.2 sun = .inr (7, [.ref sum, .int (nI 0)]) := by rw [hS259]; exact (pnew_n (fun z : sun = lf => hp253 (by rw [← z]; exact hL1219))).trans hf1220
  have hL1223 : sun ∈ S262.1 := by rw [hS262]; exact List.mem_append_left _ hL1221
  have hf1224 : S262.2 sun = .inr (7, [.ref sum, .int (nI 0)]) := by rw [hS262]; exact (pnew_n (fun z : sun = lx => hq263 (by rw [← z]; exact hL1221))).trans hf1222
  have hL1225 : sun ∈ S266.1 := by rw [hS266]; exact List.mem_append_left _ hL1223
  have hf1226 : S266.2 sun = .inr (7, [.ref sum, .int (nI 0)]) := by rw [hS266]; exact (pnew_n (fun z : sun = lw => hq268 (by rw [← z]; exact hL1223))).trans hf1224
  have hL1227 : sun ∈ S251.1 := by rw [hS277]; exact hL1225
  have hf1228 : S251.2 sun = .inr (7, [.ref sum, .int (nI 0)]) := by rw [hS277]; exact (pup_n (fun z : sun = lt => hq_lt (by rw [← z]; exact hL1217))).trans hf1226
  have hL1229 : sun ∈ S290.1 := by rw [hS290]; exact hL1227
  have hf1230 : S290.2 sun = .inr (7, [.ref sum, .int (nI 0)]) := by rw [hS290]; exact (pup_n (fun z : sun = x => hq215 (by rw [z]; exact hL241))).trans hf1228
  have hL1231 : sum ∈ S245.1 := by rw [hS245]; exact hL230
  have hf1232 : S245.2 sum = aN (cy 0) 0 (fun _ => 0) := by rw [hS245]; exact (pup_n (fun z : sum = x => hq216 (by rw [z]; exact hL241))).trans hf202
  have hL1233 : sum ∈ S248.1 := by rw [hS248]; exact List.mem_append_left _ hL1231
  have hf1234 : S248.2 sum = aN (cy 0) 0 (fun _ => 0) := by rw [hS248]; exact (pnew_n (fun z : sum = lt => hq_lt (by rw [← z]; exact hL1231))).trans hf1232
  have hL1235 : sum ∈ S259.1 := by rw [hS259]; exact List.mem_append_left _ hL1233
  have hf1236 : S259.2 sum = aN (cy 0) 0 (fun _ => 0) := by rw [hS259]; exact (pnew_n (fun z : sum = lf => hp253 (by rw [← z]; exact hL1233))).trans hf1234
  have hL1237 : sum ∈ S262.1 := by rw [hS262]; exact List.mem_append_left _ hL1235
  have hf1238 : S262.2 sum = aN (cy 0) 0 (fun _ => 0) := by rw [hS262]; exact (pnew_n (fun z : sum = lx => hq263 (by rw [← z]; exact hL1235))).trans hf1236
  have hL1239 : sum ∈ S266.1 := by rw [hS266]; exact List.mem_append_left _ hL1237
  have hf1240 : S266.2 sum = aN (cy 0) 0 (fun _ => 0) := by rw [hS266]; exact (pnew_n (fun z : sum = lw => hq268 (by rw [← z]; exact hL1237))).trans hf1238
  have hL1241 : sum ∈ S251.1 := by rw [hS277]; exact hL1239
  have hf1242 : S251.2 sum = aN (cy 0) 0 (fun _ => 0) := by rw [hS277]; exact (pup_n (fun z : sum = lt => hq_lt (by rw [← z]; exact hL1231))).trans hf1240
  have hL1243 : sum ∈ S290.1 := by rw [hS290]; exact hL1241
  have hf1244 : S290.2 sum = aN (cy 0) 0 (fun _ => 0) := by rw [hS290]; exact (pup_n (fun z : sum = x => hq216 (by rw [z]; exact hL241))).trans hf1242
  have hL1245 : sur0 ∈ S245.1 := by rw [hS245]; exact hL231
  have hf1246 : S245.2 sur0 = .inr (7, [.ref sub0, .int (nI 0)]) := by rw [hS245]; exact (pup_n (fun z : sur0 = x => hq217 (by rw [z]; exact hL241))).trans hf203
  have hL1247 : sur0 ∈ S248.1 := by rw [hS248]; exact List.mem_append_left _ hL1245
  have hf1248 : S248.2 sur0 = .inr (7, [.ref sub0, .int (nI 0)]) := by rw [hS248]; exact (pnew_n (fun z : sur0 = lt => hq_lt (by rw [← z]; exact hL1245))).trans hf1246
  have hL1249 : sur0 ∈ S259.1 := by rw [hS259]; exact List.mem_append_left _ hL1247
  have hf1250 : S259.2 sur0 = .inr (7, [.ref sub0, .int (nI 0)]) := by rw [hS259]; exact (pnew_n (fun z : sur0 = lf => hp253 (by rw [← z]; exact hL1247))).trans hf1248
  have hL1251 : sur0 ∈ S262.1 := by rw [hS262]; exact List.mem_append_left _ hL1249
  have hf1252 : S262.2 sur0 = .inr (7, [.ref sub0, .int (nI 0)]) := by rw [hS262]; exact (pnew_n (fun z : sur0 = lx => hq263 (by rw [← z]; exact hL1249))).trans hf1250
  have hL1253 : sur0 ∈ S266.1 := by rw [hS266]; exact List.mem_append_left _ hL1251
  have hf1254 : S266.2 sur0 = .inr (7, [.ref sub0, .int (nI 0)]) := by rw [hS266]; exact (pnew_n (fun z : sur0 = lw => hq268 (by rw [← z]; exact hL1251))).trans hf1252
  have hL1255 : sur0 ∈ S251.1 := by rw [hS277]; exact hL1253
  have hf1256 : S251.2 sur0 = .inr (7, [.ref sub0, .int (nI 0)]) := by rw [hS277]; exact (pup_n (fun z : sur0 = lt => hq_lt (by rw [← z]; exact hL1245))).trans hf1254
  have hL1257 : sur0 ∈ S290.1 := by rw [hS290]; exact hL1255
  have hf1258 : S290.2 sur0 = .inr (7, [.ref sub0, .int (nI 0)]) := by rw [hS290]; exact (pup_n (fun z : sur0 = x => hq217 (by rw [z]; exact hL241))).trans hf1256
  have hL1259 : sub0 ∈ S245.1 := by rw [hS245]; exact hL232
  have hf1260 : S245.2 sub0 = aN (cy 0) 32 (fun _ => 0) := by rw [hS245]; exact (pup_n (fun z : sub0 = x => hq218 (by rw [z]; exact hL241))).trans hf204
  have hL1261 : sub0 ∈ S248.1 := by rw [hS248]; exact List.mem_append_left _ hL1259
  have hf1262 : S248.2 sub0 = aN (cy 0) 32 (fun _ => 0) := by rw [hS248]; exact (pnew_n (fun z : sub0 = lt => hq_lt (by rw [← z]; exact hL1259))).trans hf1260
  have hL1263 : sub0 ∈ S259.1 := by rw [hS259]; exact List.mem_append_left _ hL1261
  have hf1264 : S259.2 sub0 = aN (cy 0) 32 (fun _ => 0) := by rw [hS259]; exact (pnew_n (fun z : sub0 = lf => hp253 (by rw [← z]; exact hL1261))).trans hf1262
  have hL1265 : sub0 ∈ S262.1 := by rw [hS262]; exact List.mem_append_left _ hL1263
  have hf1266 : S262.2 sub0 = aN (cy 0) 32 (fun _ => 0) := by rw [hS262]; exact (pnew_n (fun z : sub0 = lx => hq263 (by rw [← z]; exact hL1263))).trans hf1264
  have hL1267 : sub0 ∈ S266.1 := by rw [hS266]; exact List.mem_append_left _ hL1265
  have hf1268 : S266.2 sub0 = aN (cy 0) 32 (fun _ => 0) := by rw [hS266]; exact (pnew_n (fun z : sub0 = lw => hq268 (by rw [← z]; exact hL1265))).trans hf1266
  have hL1269 : sub0 ∈ S251.1 := by rw [hS277]; exact hL1267
  have hf1270 : S251.2 sub0 = aN (cy 0) 32 (fun _ => 0) := by rw [hS277]; exact (pup_n (fun z : sub0 = lt => hq_lt (by rw [← z]; exact hL1259))).trans hf1268
  have hL1271 : sub0 ∈ S290.1 := by rw [hS290]; exact hL1269
  have hf1272 : S290.2 sub0 = aN (cy 0) 32 (fun _ => 0) := by rw [hS290]; exact (pup_n (fun z : sub0 = x => hq218 (by rw [z]; exact hL241))).trans hf1270
  have hL1273 : sur1 ∈ S245.1 := by rw [hS245]; exact hL233
  have hf1274 : S245.2 sur1 = .inr (7, [.ref sub1, .int (nI 0)]) := by rw [hS245]; exact (pup_n (fun z : sur1 = x => hq219 (by rw [z]; exact hL241))).trans hf205
  have hL1275 : sur1 ∈ S248.1 := by rw [hS248]; exact List.mem_append_left _ hL1273
  have hf1276 : S248.2 sur1 = .inr (7, [.ref sub1, .int (nI 0)]) := by rw [hS248]; exact (pnew_n (fun z : sur1 = lt => hq_lt (by rw [← z]; exact hL1273))).trans hf1274
  have hL1277 : sur1 ∈ S259.1 := by rw [hS259]; exact List.mem_append_left _ hL1275
  have hf1278 : S259.2 sur1 = .inr (7, [.ref sub1, .int (nI 0)]) := by rw [hS259]; exact (pnew_n (fun z : sur1 = lf => hp253 (by rw [← z]; exact hL1275))).trans hf1276
  have hL1279 : sur1 ∈ S262.1 := by rw [hS262]; exact List.mem_append_left _ hL1277
  have hf1280 : S262.2 sur1 = .inr (7, [.ref sub1, .int (nI 0)]) := by rw [hS262]; exact (pnew_n (fun z : sur1 = lx => hq263 (by rw [← z]; exact hL1277))).trans hf1278
  have hL1281 : sur1 ∈ S266.1 := by rw [hS266]; exact List.mem_append_left _ hL1279
  have hf1282 : S266.2 sur1 = .inr (7, [.ref sub1, .int (nI 0)]) := by rw [hS266]; exact (pnew_n (fun z : sur1 = lw => hq268 (by rw [← z]; exact hL1279))).trans hf1280
  have hL1283 : sur1 ∈ S251.1 := by rw [hS277]; exact hL1281
  have hf1284 : S251.2 sur1 = .inr (7, [.ref sub1, .int (nI 0)]) := by rw [hS277]; exact (pup_n (fun z : sur1 = lt => hq_lt (by rw [← z]; exact hL1273))).trans hf1282
  have hL1285 : sur1 ∈ S290.1 := by rw [hS290]; exact hL1283
  have hf1286 : S290.2 sur1 = .inr (7, [.ref sub1, .int (nI 0)]) := by rw [hS290]; exact (pup_n (fun z : sur1 = x => hq219 (by rw [z]; exact hL241))).trans hf1284
  have hL1287 : sub1 ∈ S245.1 := by rw [hS245]; exact hL234
  have hf1288 : S245.2 sub1 = aN (cy 0) 320 (fun _ => 0) := by rw [hS245]; exact (pup_n (fun z : sub1 = x => hq220 (by rw [z]; exact hL241))).trans hf206
  have hL1289 : sub1 ∈ S248.1 := by rw [hS248]; exact List.mem_append_left _ hL1287
  have hf1290 : S248.2 sub1 = aN (cy 0) 320 (fun _ => 0) := by rw [hS248]; exact (pnew_n (fun z : sub1 = lt => hq_lt (by rw [← z]; exact hL1287))).trans hf1288
  have hL1291 : sub1 ∈ S259.1 := by rw [hS259]; exact List.mem_append_left _ hL1289
  have hf1292 : S259.2 sub1 = aN (cy 0) 320 (fun _ => 0) := by rw [hS259]; exact (pnew_n (fun z : sub1 = lf => hp253 (by rw [← z]; exact hL1289))).trans hf1290
  have hL1293 : sub1 ∈ S262.1 := by rw [hS262]; exact List.mem_append_left _ hL1291
  have hf1294 : S262.2 sub1 = aN (cy 0) 320 (fun _ => 0) := by rw [hS262]; exact (pnew_n (fun z : sub1 = lx => hq263 (by rw [← z]; exact hL1291))).trans hf1292
  have hL1295 : sub1 ∈ S266.1 := by rw [hS266]; exact List.mem_append_left _ hL1293
  have hf1296 : S266.2 sub1 = aN (cy 0) 320 (fun _ => 0) := by rw [hS266]; exact (pnew_n (fun z : sub1 = lw => hq268 (by rw [← z]; exact hL1293))).trans hf1294
  have hL1297 : sub1 ∈ S251.1 := by rw [hS277]; exact hL1295
  have hf1298 : S251.2 sub1 = aN (cy 0) 320 (fun _ => 0) := by rw [hS277]; exact (pup_n (fun z : sub1 = lt => hq_lt (by rw [← z]; exact hL1287))).trans hf1296
  have hL1299 : sub1 ∈ S290.1 := by rw [hS290]; exact hL1297
  have hf1300 : S290.2 sub1 = aN (cy 0) 320 (fun _ => 0) := by rw [hS290]; exact (pup_n (fun z : sub1 = x => hq220 (by rw [z]; exact hL241))).trans hf1298
  have hL1301 : sur2 ∈ S245.1 := by rw [hS245]; exact hL235
  have hf1302 : S245.2 sur2 = .inr (7, [.ref sub2, .int (nI 0)]) := by rw [hS245]; exact (pup_n (fun z : sur2 = x => hq221 (by rw [z]; exact hL241))).trans hf207
  have hL1303 : sur2 ∈ S248.1 := by rw [hS248]; exact List.mem_append_left _ hL1301
  have hf1304 : S248.2 sur2 = .inr (7, [.ref sub2, .int (nI 0)]) := by rw [hS248]; exact (pnew_n (fun z : sur2 = lt => hq_lt (by rw [← z]; exact hL1301))).trans hf1302
  have hL1305 : sur2 ∈ S259.1 := by rw [hS259]; exact List.mem_append_left _ hL1303
  have hf1306 : S259.2 sur2 = .inr (7, [.ref sub2, .int (nI 0)]) := by rw [hS259]; exact (pnew_n (fun z : sur2 = lf => hp253 (by rw [← z]; exact hL1303))).trans hf1304
  have hL1307 : sur2 ∈ S262.1 := by rw [hS262]; exact List.mem_append_left _ hL1305
  have hf1308 : S262.2 sur2 = .inr (7, [.ref sub2, .int (nI 0)]) := by rw [hS262]; exact (pnew_n (fun z : sur2 = lx => hq263 (by rw [← z]; exact hL1305))).trans hf1306
  have hL1309 : sur2 ∈ S266.1 := by rw [hS266]; exact List.mem_append_left _ hL1307
  have hf1310 : S266.2 sur2 = .inr (7, [.ref sub2, .int (nI 0)]) := by rw [hS266]; exact (pnew_n (fun z : sur2 = lw => hq268 (by rw [← z]; exact hL1307))).trans hf1308
  have hL1311 : sur2 ∈ S251.1 := by rw [hS277]; exact hL1309
  have hf1312 : S251.2 sur2 = .inr (7, [.ref sub2, .int (nI 0)]) := by rw [hS277]; exact (pup_n (fun z : sur2 = lt => hq_lt (by rw [← z]; exact hL1301))).trans hf1310
  have hL1313 : sur2 ∈ S290.1 := by rw [hS290]; exact hL1311
  have hf1314 : S290.2 sur2 = .inr (7, [.ref sub2, .int (nI 0)]) := by rw [hS290]; exact (pup_n (fun z : sur2 = x => hq221 (by rw [z]; exact hL241))).trans hf1312
  have hL1315 : sub2 ∈ S245.1 := by rw [hS245]; exact hL236
  have hf1316 : S245.2 sub2 = aN (cy 0) 320 (fun _ => 0) := by rw [hS245]; exact (pup_n (fun z : sub2 = x => hq222 (by rw [z]; exact hL241))).trans hf208
  have hL1317 : sub2 ∈ S248.1 := by rw [hS248]; exact List.mem_append_left _ hL1315
  have hf1318 : S248.2 sub2 = aN (cy 0) 320 (fun _ => 0) := by rw [hS248]; exact (pnew_n (fun z : sub2 = lt => hq_lt (by rw [← z]; exact hL1315))).trans hf1316
  have hL1319 : sub2 ∈ S259.1 := by rw [hS259]; exact List.mem_append_left _ hL1317
  have hf1320 : S259.2 sub2 = aN (cy 0) 320 (fun _ => 0) := by rw [hS259]; exact (pnew_n (fun z : sub2 = lf => hp253 (by rw [← z]; exact hL1317))).trans hf1318
  have hL1321 : sub2 ∈ S262.1 := by rw [hS262]; exact List.mem_append_left _ hL1319
  have hf1322 : S262.2 sub2 = aN (cy 0) 320 (fun _ => 0) := by rw [hS262]; exact (pnew_n (fun z : sub2 = lx => hq263 (by rw [← z]; exact hL1319))).trans hf1320
  have hL1323 : sub2 ∈ S266.1 := by rw [hS266]; exact List.mem_append_left _ hL1321
  have hf1324 : S266.2 sub2 = aN (cy 0) 320 (fun _ => 0) := by rw [hS266]; exact (pnew_n (fun z : sub2 = lw => hq268 (by rw [← z]; exact hL1321))).trans hf1322
  have hL1325 : sub2 ∈ S251.1 := by rw [hS277]; exact hL1323
  have hf1326 : S251.2 sub2 = aN (cy 0) 320 (fun _ => 0) := by rw [hS277]; exact (pup_n (fun z : sub2 = lt => hq_lt (by rw [← z]; exact hL1315))).trans hf1324
  have hL1327 : sub2 ∈ S290.1 := by rw [hS290]; exact hL1325
  have hf1328 : S290.2 sub2 = aN (cy 0) 320 (fun _ => 0) := by rw [hS290]; exact (pup_n (fun z : sub2 = x => hq222 (by rw [z]; exact hL241))).trans hf1326
  have hL1329 : sur3 ∈ S245.1 := by rw [hS245]; exact hL237
  have hf1330 : S245.2 sur3 = .inr (7, [.ref sub3, .int (nI 0)]) := by rw [hS245]; exact (pup_n (fun z : sur3 = x => hq223 (by rw [z]; exact hL241))).trans hf209
  have hL1331 : sur3 ∈ S248.1 := by rw [hS248]; exact List.mem_append_left _ hL1329
  have hf1332 : S248.2 sur3 = .inr (7, [.ref sub3, .int (nI 0)]) := by rw [hS248]; exact (pnew_n (fun z : sur3 = lt => hq_lt (by rw [← z]; exact hL1329))).trans hf1330
  have hL1333 : sur3 ∈ S259.1 := by rw [hS259]; exact List.mem_append_left _ hL1331
  have hf1334 : S259.2 sur3 = .inr (7, [.ref sub3, .int (nI 0)]) := by rw [hS259]; exact (pnew_n (fun z : sur3 = lf => hp253 (by rw [← z]; exact hL1331))).trans hf1332
  have hL1335 : sur3 ∈ S262.1 := by rw [hS262]; exact List.mem_append_left _ hL1333
  have hf1336 : S262.2 sur3 = .inr (7, [.ref sub3, .int (nI 0)]) := by rw [hS262]; exact (pnew_n (fun z : sur3 = lx => hq263 (by rw [← z]; exact hL1333))).trans hf1334
  have hL1337 : sur3 ∈ S266.1 := by rw [hS266]; exact List.mem_append_left _ hL1335
  have hf1338 : S266.2 sur3 = .inr (7, [.ref sub3, .int (nI 0)]) := by rw [hS266]; exact (pnew_n (fun z : sur3 = lw => hq268 (by rw [← z]; exact hL1335))).trans hf1336
  have hL1339 : sur3 ∈ S251.1 := by rw [hS277]; exact hL1337
  have hf1340 : S251.2 sur3 = .inr (7, [.ref sub3, .int (nI 0)]) := by rw [hS277]; exact (pup_n (fun z : sur3 = lt => hq_lt (by rw [← z]; exact hL1329))).trans hf1338
  have hL1341 : sur3 ∈ S290.1 := by rw [hS290]; exact hL1339
  have hf1342 : S290.2 sur3 = .inr (7, [.ref sub3, .int (nI 0)]) := by rw [hS290]; exact (pup_n (fun z : sur3 = x => hq223 (by rw [z]; exact hL241))).trans hf1340
  have hL1343 : sub3 ∈ S245.1 := by rw [hS245]; exact hL238
  have hf1344 : S245.2 sub3 = aN (cy 0) 320 (fun _ => 0) := by rw [hS245]; exact (pup_n (fun z : sub3 = x => hq224 (by rw [z]; exact hL241))).trans hf210
  have hL1345 : sub3 ∈ S248.1 := by rw [hS248]; exact List.mem_append_left _ hL1343
  have hf1346 : S248.2 sub3 = aN (cy 0) 320 (fun _ => 0) := by rw [hS248]; exact (pnew_n (fun z : sub3 = lt => hq_lt (by rw [← z]; exact hL1343))).trans hf1344
  have hL1347 : sub3 ∈ S259.1 := by rw [hS259]; exact List.mem_append_left _ hL1345
  have hf1348 : S259.2 sub3 = aN (cy 0) 320 (fun _ => 0) := by rw [hS259]; exact (pnew_n (fun z : sub3 = lf => hp253 (by rw [← z]; exact hL1345))).trans hf1346
  have hL1349 : sub3 ∈ S262.1 := by rw [hS262]; exact List.mem_append_left _ hL1347
  have hf1350 : S262.2 sub3 = aN (cy 0) 320 (fun _ => 0) := by rw [hS262]; exact (pnew_n (fun z : sub3 = lx => hq263 (by rw [← z]; exact hL1347))).trans hf1348
  have hL1351 : sub3 ∈ S266.1 := by rw [hS266]; exact List.mem_append_left _ hL1349
  have hf1352 : S266.2 sub3 = aN (cy 0) 320 (fun _ => 0) := by rw [hS266]; exact (pnew_n (fun z : sub3 = lw => hq268 (by rw [← z]; exact hL1349))).trans hf1350
  have hL1353 : sub3 ∈ S251.1 := by rw [hS277]; exact hL1351
  have hf1354 : S251.2 sub3 = aN (cy 0) 320 (fun _ => 0) := by rw [hS277]; exact (pup_n (fun z : sub3 = lt => hq_lt (by rw [← z]; exact hL1343))).trans hf1352
  have hL1355 : sub3 ∈ S290.1 := by rw [hS290]; exact hL1353
  have hf1356 : S290.2 sub3 = aN (cy 0) 320 (fun _ => 0) := by rw [hS290]; exact (pup_n (fun z : sub3 = x => hq224 (by rw [z]; exact hL241))).trans hf1354
  have hL1357 : sur4 ∈ S245.1 := by rw [hS245]; exact hL239
  have hf1358 : S245.2 sur4 = .inr (7, [.ref sub4, .int (nI 0)]) := by rw [hS245]; exact (pup_n (fun z : sur4 = x => hq225 (by rw [z]; exact hL241))).trans hf211
  have hL1359 : sur4 ∈ S248.1 := by rw [hS248]; exact List.mem_append_left _ hL1357
  have hf1360 : S248.2 sur4 = .inr (7, [.ref sub4, .int (nI 0)]) := by rw [hS248]; exact (pnew_n (fun z : sur4 = lt => hq_lt (by rw [← z]; exact hL1357))).trans hf1358
  have hL1361 : sur4 ∈ S259.1 := by rw [hS259]; exact List.mem_append_left _ hL1359
  have hf1362 : S259.2 sur4 = .inr (7, [.ref sub4, .int (nI 0)]) := by rw [hS259]; exact (pnew_n (fun z : sur4 = lf => hp253 (by rw [← z]; exact hL1359))).trans hf1360
  have hL1363 : sur4 ∈ S262.1 := by rw [hS262]; exact List.mem_append_left _ hL1361
  have hf1364 : S262.2 sur4 = .inr (7, [.ref sub4, .int (nI 0)]) := by rw [hS262]; exact (pnew_n (fun z : sur4 = lx => hq263 (by rw [← z]; exact hL1361))).trans hf1362
  have hL1365 : sur4 ∈ S266.1 := by rw [hS266]; exact List.mem_append_left _ hL1363
  have hf1366 : S266.2 sur4 = .inr (7, [.ref sub4, .int (nI 0)]) := by rw [hS266]; exact (pnew_n (fun z : sur4 = lw => hq268 (by rw [← z]; exact hL1363))).trans hf1364
  have hL1367 : sur4 ∈ S251.1 := by rw [hS277]; exact hL1365
  have hf1368 : S251.2 sur4 = .inr (7, [.ref sub4, .int (nI 0)]) := by rw [hS277]; exact (pup_n (fun z : sur4 = lt => hq_lt (by rw [← z]; exact hL1357))).trans hf1366
  have hL1369 : sur4 ∈ S290.1 := by rw [hS290]; exact hL1367
  have hf1370 : S290.2 sur4 = .inr (7, [.ref sub4, .int (nI 0)]) := by rw [hS290]; exact (pup_n (fun z : sur4 = x => hq225 (by rw [z]; exact hL241))).trans hf1368
  have hL1371 : sub4 ∈ S245.1 := by rw [hS245]; exact hL240
  have hf1372 : S245.2 sub4 = aN (cy 0) 320 (fun _ => 0) := by rw [hS245]; exact (pup_n (fun z : sub4 = x => hq226 (by rw [z]; exact hL241))).trans hf212
  have hL1373 : sub4 ∈ S248.1 := by rw [hS248]; exact List.mem_append_left _ hL1371
  have hf1374 : S248.2 sub4 = aN (cy 0) 320 (fun _ => 0) := by rw [hS248]; exact (pnew_n (fun z : sub4 = lt => hq_lt (by rw [← z]; exact hL1371))).trans hf1372
  have hL1375 : sub4 ∈ S259.1 := by rw [hS259]; exact List.mem_append_left _ hL1373
  have hf1376 : S259.2 sub4 = aN (cy 0) 320 (fun _ => 0) := by rw [hS259]; exact (pnew_n (fun z : sub4 = lf => hp253 (by rw [← z]; exact hL1373))).trans hf1374
  have hL1377 : sub4 ∈ S262.1 := by rw [hS262]; exact List.mem_append_left _ hL1375
  have hf1378 : S262.2 sub4 = aN (cy 0) 320 (fun _ => 0) := by rw [hS262]; exact (pnew_n (fun z : sub4 = lx => hq263 (by rw [← z]; exact hL1375))).trans hf1376
  have hL1379 : sub4 ∈ S266.1 := by rw [hS266]; exact List.mem_append_left _ hL1377
  have hf1380 : S266.2 sub4 = aN (cy 0) 320 (fun _ => 0) := by rw [hS266]; exact (pnew_n (fun z : sub4 = lw => hq268 (by rw [← z]; exact hL1377))).trans hf1378
  have hL1381 : sub4 ∈ S251.1 := by rw [hS277]; exact hL1379
  have hf1382 : S251.2 sub4 = aN (cy 0) 320 (fun _ => 0) := by rw [hS277]; exact (pup_n (fun z : sub4 = lt => hq_lt (by rw [← z]; exact hL1371))).trans hf1380
  have hL1383 : sub4 ∈ S290.1 := by rw [hS290]; exact hL1381
  have hf1384 : S290.2 sub4 = aN (cy 0) 320 (fun _ => 0) := by rw [hS290]; exact (pup_n (fun z : sub4 = x => hq226 (by rw [z]; exact hL241))).trans hf1382
  have hL1385 : lt ∈ S290.1 := by rw [hS290]; exact hL278
  have hf1386 : S290.2 lt = .inr (3, [.ref lf, .ref lx, .ref lw]) := by rw [hS290]; exact (pup_n (fun z : lt = x => hq_lt (by rw [z]; exact hL246))).trans hf279
  have hL1387 : lf ∈ S262.1 := by rw [hS262]; exact List.mem_append_left _ hL260
  have hf1388 : S262.2 lf = aN (cy 0) 16 (fun _ => 0) := by rw [hS262]; exact (pnew_n (fun z : lf = lx => hq263 (by rw [← z]; exact hL260))).trans hf261
  have hL1389 : lf ∈ S266.1 := by rw [hS266]; exact List.mem_append_left _ hL1387
  have hf1390 : S266.2 lf = aN (cy 0) 16 (fun _ => 0) := by rw [hS266]; exact (pnew_n (fun z : lf = lw => hq268 (by rw [← z]; exact hL1387))).trans hf1388
  have hL1391 : lf ∈ S251.1 := by rw [hS277]; exact hL1389
  have hf1392 : S251.2 lf = aN (cy 0) 16 (fun _ => 0) := by rw [hS277]; exact (pup_n (fun z : lf = lt => hp253 (by rw [z]; exact hL249))).trans hf1390
  have hL1393 : lf ∈ S290.1 := by rw [hS290]; exact hL1391
  have hf1394 : S290.2 lf = aN (cy 0) 16 (fun _ => 0) := by rw [hS290]; exact (pup_n (fun z : lf = x => hp253 (by rw [z]; exact hL280))).trans hf1392
  have hL1395 : lx ∈ S266.1 := by rw [hS266]; exact List.mem_append_left _ hL264
  have hf1396 : S266.2 lx = aN (cy 0) 16 (fun _ => 0) := by rw [hS266]; exact (pnew_n (fun z : lx = lw => hq268 (by rw [← z]; exact hL264))).trans hf265
  have hL1397 : lx ∈ S251.1 := by rw [hS277]; exact hL1395
  have hf1398 : S251.2 lx = aN (cy 0) 16 (fun _ => 0) := by rw [hS277]; exact (pup_n (fun z : lx = lt => hq263 (by rw [z]; exact hL271))).trans hf1396
  have hL1399 : lx ∈ S290.1 := by rw [hS290]; exact hL1397
  have hf1400 : S290.2 lx = aN (cy 0) 16 (fun _ => 0) := by rw [hS290]; exact (pup_n (fun z : lx = x => hq263 (by rw [z]; exact hL282))).trans hf1398
  have hL1401 : lw ∈ S251.1 := by rw [hS277]; exact hL269
  have hf1402 : S251.2 lw = aN (cy 0) 320 (fun _ => 0) := by rw [hS277]; exact (pup_n (fun z : lw = lt => hq268 (by rw [z]; exact hL273))).trans hf270
  have hL1403 : lw ∈ S290.1 := by rw [hS290]; exact hL1401
  have hf1404 : S290.2 lw = aN (cy 0) 320 (fun _ => 0) := by rw [hS290]; exact (pup_n (fun z : lw = x => hq268 (by rw [z]; exact hL284))).trans hf1402
  exact (p_vret C hw (⟨ch, lk, ln, sl, mk, mb, co, col, con, com, cor0, cob0, cor1, cob1, cor2, cob2, cor3, cob3, cor4, cob4, ca, cal, can, cam, car0, cab0, car1, cab1, car2, cab2, car3, cab3, car4, cab4, su, sul, sun, sum, sur0, sub0, sur1, sub1, sur2, sub2, sur3, sub3, sur4, sub4, lt, lf, lx, lw, (by simp only [hS290, hS277, hS266, hS262, hS259, hS248, hS245, hS197, hS192, hS189, hS141, hS136, hS133, hS83, hS78, hS75, hS64, hS55, hS50, hS44, hS41, hS34, hS31, hS24, hS21, hS12, hS7, hS1, pup, pnew, List.append_nil, List.append_assoc, List.cons_append, List.nil_append]), (fun a_ ha_ hn_0 => ((show S290.2 a_ = S251.2 a_ from by rw [hS290]; exact pup_n hn_0).trans ((show S251.2 a_ = S266.2 a_ from by rw [hS277]; exact pup_n (fun z : a_ = lt => hq_lt (by rw [← z]; exact (show a_ ∈ S245.1 from by rw [hS245]; exact (show a_ ∈ S195.1 from by rw [hS197]; exact List.mem_append_left _ (show a_ ∈ S192.1 from by rw [hS192]; exact List.mem_append_left _ (show a_ ∈ S189.1 from by rw [hS189]; exact (show a_ ∈ S139.1 from by rw [hS141]; exact List.mem_append_left _ (show a_ ∈ S136.1 from by rw [hS136]; exact List.mem_append_left _ (show a_ ∈ S133.1 from by rw [hS133]; exact (show a_ ∈ S81.1 from by rw [hS83]; exact List.mem_append_left _ (show a_ ∈ S78.1 from by rw [hS78]; exact List.mem_append_left _ (show a_ ∈ S73.1 from by rw [hS75]; exact (show a_ ∈ S64.1 from by rw [hS64]; exact (show a_ ∈ S47.1 from by rw [hS55]; exact (show a_ ∈ S50.1 from by rw [hS50]; exact List.mem_append_left _ (show a_ ∈ S44.1 from by rw [hS44]; exact List.mem_append_left _ (show a_ ∈ S41.1 from by rw [hS41]; exact (show a_ ∈ S34.1 from by rw [hS34]; exact List.mem_append_left _ (show a_ ∈ S31.1 from by rw [hS31]; exact (show a_ ∈ S24.1 from by rw [hS24]; exact List.mem_append_left _ (show a_ ∈ S21.1 from by rw [hS21]; exact (show a_ ∈ S4.1 from by rw [hS12]; exact (show a_ ∈ S7.1 from by rw [hS7]; exact List.mem_append_left _ (show a_ ∈ S1.1 from by rw [hS1]; exact List.mem_append_left _ ha_))))))))))))))))))))))))).trans ((show S266.2 a_ = S262.2 a_ from by rw [hS266]; exact pnew_n (fun z : a_ = lw => hq268 (by rw [← z]; exact (show a_ ∈ S262.1 from by rw [hS262]; exact List.mem_append_left _ (show a_ ∈ S259.1 from by rw [hS259]; exact List.mem_append_left _ (show a_ ∈ S248.1 from by rw [hS248]; exact List.mem_append_left _ (show a_ ∈ S245.1 from by rw [hS245]; exact (show a_ ∈ S195.1 from by rw [hS197]; exact List.mem_append_left _ (show a_ ∈ S192.1 from by rw [hS192]; exact List.mem_append_left _ (show a_ ∈ S189.1 from by rw [hS189]; exact (show a_ ∈ S139.1 from by rw [hS141]; exact List.mem_append_left _ (show a_ ∈ S136.1 from by rw [hS136]; exact List.mem_append_left _ (show a_ ∈ S133.1 from by rw [hS133]; exact (show a_ ∈ S81.1 from by rw [hS83]; exact List.mem_append_left _ (show a_ ∈ S78.1 from by rw [hS78]; exact List.mem_append_left _ (show a_ ∈ S73.1 from by rw [hS75]; exact (show a_ ∈ S64.1 from by rw [hS64]; exact (show a_ ∈ S47.1 from by rw [hS55]; exact (show a_ ∈ S50.1 from by rw [hS50]; exact List.mem_append_left _ (show a_ ∈ S44.1 from by rw [hS44]; exact List.mem_append_left _ (show a_ ∈ S41.1 from by rw [hS41]; exact (show a_ ∈ S34.1 from by rw [hS34]; exact List.mem_append_left _ (show a_ ∈ S31.1 from by rw [hS31]; exact (show a_ ∈ S24.1 from by rw [hS24]; exact List.mem_append_left _ (show a_ ∈ S21.1 from by rw [hS21]; exact (show a_ ∈ S4.1 from by rw [hS12]; exact (show a_ ∈ S7.1 from by rw [hS7]; exact List.mem_append_left _ (show a_ ∈ S1.1 from by rw [hS1]; exact List.mem_append_left _ ha_)))))))))))))))))))))))))))).trans ((show S262.2 a_ = S259.2 a_ from by rw [hS262]; exact pnew_n (fun z : a_ = lx => hq263 (by rw [← z]; exact (show a_ ∈ S259.1 from by rw [hS259]; exact List.mem_append_left _ (show a_ ∈ S248.1 from by rw [hS248]; exact List.mem_append_left _ (show a_ ∈ S245.1 from by rw [hS245]; exact (show a_ ∈ S195.1 from by rw [hS197]; exact List.mem_append_left _ (show a_ ∈ S192.1 from by rw [hS192]; exact List.mem_append_left _ (show a_ ∈ S189.1 from by rw [hS189]; exact (show a_ ∈ S139.1 from by rw [hS141]; exact List.mem_append_left _ (show a_ ∈ S136.1 from by rw [hS136]; exact List.mem_append_left _ (show a_ ∈ S133.1 from by rw [hS133]; exact (show a_ ∈ S81.1 from by rw [hS83]; exact List.mem_append_left _ (show a_ ∈ S78.1 from by rw [hS78]; exact List.mem_append_left _ (show a_ ∈ S73.1 from by rw [hS75]; exact (show a_ ∈ S64.1 from by rw [hS64]; exact (show a_ ∈ S47.1 from by rw [hS55]; exact (show a_ ∈ S50.1 from by rw [hS50]; exact List.mem_append_left _ (show a_ ∈ S44.1 from by rw [hS44]; exact List.mem_append_left _ (show a_ ∈ S41.1 from by rw [hS41]; exact (show a_ ∈ S34.1 from by rw [hS34]; exact List.mem_append_left _ (show a_ ∈ S31.1 from by rw [hS31]; exact (show a_ ∈ S24.1 from by rw [hS24]; exact List.mem_append_left _ (show a_ ∈ S21.1 from by rw [hS21]; exact (show a_ ∈ S4.1 from by rw [hS12]; exact (show a_ ∈ S7.1 from by rw [hS7]; exact List.mem_append_left _ (show a_ ∈ S1.1 from by rw [hS1]; exact List.mem_append_left _ ha_))))))))))))))))))))))))))).trans ((show S259.2 a_ = S248.2 a_ from by rw [hS259]; exact pnew_n (fun z : a_ = lf => hp253 (by rw [← z]; exact (show a_ ∈ S248.1 from by rw [hS248]; exact List.mem_append_left _ (show a_ ∈ S245.1 from by rw [hS245]; exact (show a_ ∈ S195.1 from by rw [hS197]; exact List.mem_append_left _ (show a_ ∈ S192.1 from by rw [hS192]; exact List.mem_append_left _ (show a_ ∈ S189.1 from by rw [hS189]; exact (show a_ ∈ S139.1 from by rw [hS141]; exact List.mem_append_left _ (show a_ ∈ S136.1 from by rw [hS136]; exact List.mem_append_left _ (show a_ ∈ S133.1 from by rw [hS133]; exact (show a_ ∈ S81.1 from by rw [hS83]; exact List.mem_append_left _ (show a_ ∈ S78.1 from by rw [hS78]; exact List.mem_append_left _ (show a_ ∈ S73.1 from by rw [hS75]; exact (show a_ ∈ S64.1 from by rw [hS64]; exact (show a_ ∈ S47.1 from by rw [hS55]; exact (show a_ ∈ S50.1 from by rw [hS50]; exact List.mem_append_left _ (show a_ ∈ S44.1 from by rw [hS44]; exact List.mem_append_left _ (show a_ ∈ S41.1 from by rw [hS41]; exact (show a_ ∈ S34.1 from by rw [hS34]; exact List.mem_append_left _ (show a_ ∈ S31.1 from by rw [hS31]; exact (show a_ ∈ S24.1 from by rw [hS24]; exact List.mem_append_left _ (show a_ ∈ S21.1 from by rw [hS21]; exact (show a_ ∈ S4.1 from by rw [hS12]; exact (show a_ ∈ S7.1 from by rw [hS7]; exact List.mem_append_left _ (show a_ ∈ S1.1 from by rw [hS1]; exact List.mem_append_left _ ha_)))))))))))))))))))))))))).trans ((show S248.2 a_ = S245.2 a_ from by rw [hS248]; exact pnew_n (fun z : a_ = lt => hq_lt (by rw [← z]; exact (show a_ ∈ S245.1 from by rw [hS245]; exact (show a_ ∈ S195.1 from by rw [hS197]; exact List.mem_append_left _ (show a_ ∈ S192.1 from by rw [hS192]; exact List.mem_append_left _ (show a_ ∈ S189.1 from by rw [hS189]; exact (show a_ ∈ S139.1 from by rw [hS141]; exact List.mem_append_left _ (show a_ ∈ S136.1 from by rw [hS136]; exact List.mem_append_left _ (show a_ ∈ S133.1 from by rw [hS133]; exact (show a_ ∈ S81.1 from by rw [hS83]; exact List.mem_append_left _ (show a_ ∈ S78.1 from by rw [hS78]; exact List.mem_append_left _ (show a_ ∈ S73.1 from by rw [hS75]; exact (show a_ ∈ S64.1 from by rw [hS64]; exact (show a_ ∈ S47.1 from by rw [hS55]; exact (show a_ ∈ S50.1 from by rw [hS50]; exact List.mem_append_left _ (show a_ ∈ S44.1 from by rw [hS44]; exact List.mem_append_left _ (show a_ ∈ S41.1 from by rw [hS41]; exact (show a_ ∈ S34.1 from by rw [hS34]; exact List.mem_append_left _ (show a_ ∈ S31.1 from by rw [hS31]; exact (show a_ ∈ S24.1 from by rw [hS24]; exact List.mem_append_left _ (show a_ ∈ S21.1 from by rw [hS21]; exact (show a_ ∈ S4.1 from by rw [hS12]; exact (show a_ ∈ S7.1 from by rw [hS7]; exact List.mem_append_left _ (show a_ ∈ S1.1 from by rw [hS1]; exact List.mem_append_left _ ha_))))))))))))))))))))))))).trans ((show S245.2 a_ = S195.2 a_ from by rw [hS245]; exact pup_n hn_0).trans ((hfr198 a_ (show a_ ∈ S192.1 from by rw [hS192]; exact List.mem_append_left _ (show a_ ∈ S189.1 from by rw [hS189]; exact (show a_ ∈ S139.1 from by rw [hS141]; exact List.mem_append_left _ (show a_ ∈ S136.1 from by rw [hS136]; exact List.mem_append_left _ (show a_ ∈ S133.1 from by rw [hS133]; exact (show a_ ∈ S81.1 from by rw [hS83]; exact List.mem_append_left _ (show a_ ∈ S78.1 from by rw [hS78]; exact List.mem_append_left _ (show a_ ∈ S73.1 from by rw [hS75]; exact (show a_ ∈ S64.1 from by rw [hS64]; exact (show a_ ∈ S47.1 from by rw [hS55]; exact (show a_ ∈ S50.1 from by rw [hS50]; exact List.mem_append_left _ (show a_ ∈ S44.1 from by rw [hS44]; exact List.mem_append_left _ (show a_ ∈ S41.1 from by rw [hS41]; exact (show a_ ∈ S34.1 from by rw [hS34]; exact List.mem_append_left _ (show a_ ∈ S31.1 from by rw [hS31]; exact (show a_ ∈ S24.1 from by rw [hS24]; exact List.mem_append_left _ (show a_ ∈ S21.1 from by rw [hS21]; exact (show a_ ∈ S4.1 from by rw [hS12]; exact (show a_ ∈ S7.1 from by rw [hS7]; exact List.mem_append_left _ (show a_ ∈ S1.1 from by rw [hS1]; exact List.mem_append_left _ ha_)))))))))))))))))))) (fun z : a_ = su => hq_su (by rw [← z]; exact (show a_ ∈ S189.1 from by rw [hS189]; exact (show a_ ∈ S139.1 from by rw [hS141]; exact List.mem_append_left _ (show a_ ∈ S136.1 from by rw [hS136]; exact List.mem_append_left _ (show a_ ∈ S133.1 from by rw [hS133]; exact (show a_ ∈ S81.1 from by rw [hS83]; exact List.mem_append_left _ (show a_ ∈ S78.1 from by rw [hS78]; exact List.mem_append_left _ (show a_ ∈ S73.1 from by rw [hS75]; exact (show a_ ∈ S64.1 from by rw [hS64]; exact (show a_ ∈ S47.1 from by rw [hS55]; exact (show a_ ∈ S50.1 from by rw [hS50]; exact List.mem_append_left _ (show a_ ∈ S44.1 from by rw [hS44]; exact List.mem_append_left _ (show a_ ∈ S41.1 from by rw [hS41]; exact (show a_ ∈ S34.1 from by rw [hS34]; exact List.mem_append_left _ (show a_ ∈ S31.1 from by rw [hS31]; exact (show a_ ∈ S24.1 from by rw [hS24]; exact List.mem_append_left _ (show a_ ∈ S21.1 from by rw [hS21]; exact (show a_ ∈ S4.1 from by rw [hS12]; exact (show a_ ∈ S7.1 from by rw [hS7]; exact List.mem_append_left _ (show a_ ∈ S1.1 from by rw [hS1]; exact List.mem_append_left _ ha_)))))))))))))))))))))).trans ((show S192.2 a_ = S189.2 a_ from by rw [hS192]; exact pnew_n (fun z : a_ = su => hq_su (by rw [← z]; exact (show a_ ∈ S189.1 from by rw [hS189]; exact (show a_ ∈ S139.1 from by rw [hS141]; exact List.mem_append_left _ (show a_ ∈ S136.1 from by rw [hS136]; exact List.mem_append_left _ (show a_ ∈ S133.1 from by rw [hS133]; exact (show a_ ∈ S81.1 from by rw [hS83]; exact List.mem_append_left _ (show a_ ∈ S78.1 from by rw [hS78]; exact List.mem_append_left _ (show a_ ∈ S73.1 from by rw [hS75]; exact (show a_ ∈ S64.1 from by rw [hS64]; exact (show a_ ∈ S47.1 from by rw [hS55]; exact (show a_ ∈ S50.1 from by rw [hS50]; exact List.mem_append_left _ (show a_ ∈ S44.1 from by rw [hS44]; exact List.mem_append_left _ (show a_ ∈ S41.1 from by rw [hS41]; exact (show a_ ∈ S34.1 from by rw [hS34]; exact List.mem_append_left _ (show a_ ∈ S31.1 from by rw [hS31]; exact (show a_ ∈ S24.1 from by rw [hS24]; exact List.mem_append_left _ (show a_ ∈ S21.1 from by rw [hS21]; exact (show a_ ∈ S4.1 from by rw [hS12]; exact (show a_ ∈ S7.1 from by rw [hS7]; exact List.mem_append_left _ (show a_ ∈ S1.1 from by rw [hS1]; exact List.mem_append_left _ ha_)))))))))))))))))))))).trans ((show S189.2 a_ = S139.2 a_ from by rw [hS189]; exact pup_n hn_0).trans ((hfr142 a_ (show a_ ∈ S136.1 from by rw [hS136]; exact List.mem_append_left _ (show a_ ∈ S133.1 from by rw [hS133]; exact (show a_ ∈ S81.1 from by rw [hS83]; exact List.mem_append_left _ (show a_ ∈ S78.1 from by rw [hS78]; exact List.mem_append_left _ (show a_ ∈ S73.1 from by rw [hS75]; exact (show a_ ∈ S64.1 from by rw [hS64]; exact (show a_ ∈ S47.1 from by rw [hS55]; exact (show a_ ∈ S50.1 from by rw [hS50]; exact List.mem_append_left _ (show a_ ∈ S44.1 from by rw [hS44]; exact List.mem_append_left _ (show a_ ∈ S41.1 from by rw [hS41]; exact (show a_ ∈ S34.1 from by rw [hS34]; exact List.mem_append_left _ (show a_ ∈ S31.1 from by rw [hS31]; exact (show a_ ∈ S24.1 from by rw [hS24]; exact List.mem_append_left _ (show a_ ∈ S21.1 from by rw [hS21]; exact (show a_ ∈ S4.1 from by rw [hS12]; exact (show a_ ∈ S7.1 from by rw [hS7]; exact List.mem_append_left _ (show a_ ∈ S1.1 from by rw [hS1]; exact List.mem_append_left _ ha_))))))))))))))))) (fun z : a_ = ca => hq_ca (by rw [← z]; exact (show a_ ∈ S133.1 from by rw [hS133]; exact (show a_ ∈ S81.1 from by rw [hS83]; exact List.mem_append_left _ (show a_ ∈ S78.1 from by rw [hS78]; exact List.mem_append_left _ (show a_ ∈ S73.1 from by rw [hS75]; exact (show a_ ∈ S64.1 from by rw [hS64]; exact (show a_ ∈ S47.1 from by rw [hS55]; exact (show a_ ∈ S50.1 from by rw [hS50]; exact List.mem_append_left _ (show a_ ∈ S44.1 from by rw [hS44]; exact List.mem_append_left _ (show a_ ∈ S41.1 from by rw [hS41]; exact (show a_ ∈ S34.1 from by rw [hS34]; exact List.mem_append_left _ (show a_ ∈ S31.1 from by rw [hS31]; exact (show a_ ∈ S24.1 from by rw [hS24]; exact List.mem_append_left _ (show a_ ∈ S21.1 from by rw [hS21]; exact (show a_ ∈ S4.1 from by rw [hS12]; exact (show a_ ∈ S7.1 from by rw [hS7]; exact List.mem_append_left _ (show a_ ∈ S1.1 from by rw [hS1]; exact List.mem_append_left _ ha_))))))))))))))))))).trans ((show S136.2 a_ = S133.2 a_ from by rw [hS136]; exact pnew_n (fun z : a_ = ca => hq_ca (by rw [← z]; exact (show a_ ∈ S133.1 from by rw [hS133]; exact (show a_ ∈ S81.1 from by rw [hS83]; exact List.mem_append_left _ (show a_ ∈ S78.1 from by rw [hS78]; exact List.mem_append_left _ (show a_ ∈ S73.1 from by rw [hS75]; exact (show a_ ∈ S64.1 from by rw [hS64]; exact (show a_ ∈ S47.1 from by rw [hS55]; exact (show a_ ∈ S50.1 from by rw [hS50]; exact List.mem_append_left _ (show a_ ∈ S44.1 from by rw [hS44]; exact List.mem_append_left _ (show a_ ∈ S41.1 from by rw [hS41]; exact (show a_ ∈ S34.1 from by rw [hS34]; exact List.mem_append_left _ (show a_ ∈ S31.1 from by rw [hS31]; exact (show a_ ∈ S24.1 from by rw [hS24]; exact List.mem_append_left _ (show a_ ∈ S21.1 from by rw [hS21]; exact (show a_ ∈ S4.1 from by rw [hS12]; exact (show a_ ∈ S7.1 from by rw [hS7]; exact List.mem_append_left _ (show a_ ∈ S1.1 from by rw [hS1]; exact List.mem_append_left _ ha_))))))))))))))))))).trans ((show S133.2 a_ = S81.2 a_ from by rw [hS133]; exact pup_n hn_0).trans ((hfr84 a_ (show a_ ∈ S78.1 from by rw [hS78]; exact List.mem_append_left _ (show a_ ∈ S73.1 from by rw [hS75]; exact (show a_ ∈ S64.1 from by rw [hS64]; exact (show a_ ∈ S47.1 from by rw [hS55]; exact (show a_ ∈ S50.1 from by rw [hS50]; exact List.mem_append_left _ (show a_ ∈ S44.1 from by rw [hS44]; exact List.mem_append_left _ (show a_ ∈ S41.1 from by rw [hS41]; exact (show a_ ∈ S34.1 from by rw [hS34]; exact List.mem_append_left _ (show a_ ∈ S31.1 from by rw [hS31]; exact (show a_ ∈ S24.1 from by rw [hS24]; exact List.mem_append_left _ (show a_ ∈ S21.1 from by rw [hS21]; exact (show a_ ∈ S4.1 from by rw [hS12]; exact (show a_ ∈ S7.1 from by rw [hS7]; exact List.mem_append_left _ (show a_ ∈ S1.1 from by rw [hS1]; exact List.mem_append_left _ ha_)))))))))))))) (fun z : a_ = co => hq_co (by rw [← z]; exact (show a_ ∈ S73.1 from by rw [hS75]; exact (show a_ ∈ S64.1 from by rw [hS64]; exact (show a_ ∈ S47.1 from by rw [hS55]; exact (show a_ ∈ S50.1 from by rw [hS50]; exact List.mem_append_left _ (show a_ ∈ S44.1 from by rw [hS44]; exact List.mem_append_left _ (show a_ ∈ S41.1 from by rw [hS41]; exact (show a_ ∈ S34.1 from by rw [hS34]; exact List.mem_append_left _ (show a_ ∈ S31.1 from by rw [hS31]; exact (show a_ ∈ S24.1 from by rw [hS24]; exact List.mem_append_left _ (show a_ ∈ S21.1 from by rw [hS21]; exact (show a_ ∈ S4.1 from by rw [hS12]; exact (show a_ ∈ S7.1 from by rw [hS7]; exact List.mem_append_left _ (show a_ ∈ S1.1 from by rw [hS1]; exact List.mem_append_left _ ha_)))))))))))))))).trans ((show S78.2 a_ = S73.2 a_ from by rw [hS78]; exact pnew_n (fun z : a_ = co => hq_co (by rw [← z]; exact (show a_ ∈ S73.1 from by rw [hS75]; exact (show a_ ∈ S64.1 from by rw [hS64]; exact (show a_ ∈ S47.1 from by rw [hS55]; exact (show a_ ∈ S50.1 from by rw [hS50]; exact List.mem_append_left _ (show a_ ∈ S44.1 from by rw [hS44]; exact List.mem_append_left _ (show a_ ∈ S41.1 from by rw [hS41]; exact (show a_ ∈ S34.1 from by rw [hS34]; exact List.mem_append_left _ (show a_ ∈ S31.1 from by rw [hS31]; exact (show a_ ∈ S24.1 from by rw [hS24]; exact List.mem_append_left _ (show a_ ∈ S21.1 from by rw [hS21]; exact (show a_ ∈ S4.1 from by rw [hS12]; exact (show a_ ∈ S7.1 from by rw [hS7]; exact List.mem_append_left _ (show a_ ∈ S1.1 from by rw [hS1]; exact List.mem_append_left _ ha_)))))))))))))))).trans ((show S73.2 a_ = S64.2 a_ from by rw [hS75]; exact pup_n (fun z : a_ = mk => hq_mk (by rw [← z]; exact (show a_ ∈ S41.1 from by rw [hS41]; exact (show a_ ∈ S34.1 from by rw [hS34]; exact List.mem_append_left _ (show a_ ∈ S31.1 from by rw [hS31]; exact (show a_ ∈ S24.1 from by rw [hS24]; exact List.mem_append_left _ (show a_ ∈ S21.1 from by rw [hS21]; exact (show a_ ∈ S4.1 from by rw [hS12]; exact (show a_ ∈ S7.1 from by rw [hS7]; exact List.mem_append_left _ (show a_ ∈ S1.1 from by rw [hS1]; exact List.mem_append_left _ ha_))))))))))).trans ((show S64.2 a_ = S47.2 a_ from by rw [hS64]; exact pup_n hn_0).trans ((show S47.2 a_ = S50.2 a_ from by rw [hS55]; exact pup_n (fun z : a_ = mk => hq_mk (by rw [← z]; exact (show a_ ∈ S41.1 from by rw [hS41]; exact (show a_ ∈ S34.1 from by rw [hS34]; exact List.mem_append_left _ (show a_ ∈ S31.1 from by rw [hS31]; exact (show a_ ∈ S24.1 from by rw [hS24]; exact List.mem_append_left _ (show a_ ∈ S21.1 from by rw [hS21]; exact (show a_ ∈ S4.1 from by rw [hS12]; exact (show a_ ∈ S7.1 from by rw [hS7]; exact List.mem_append_left _ (show a_ ∈ S1.1 from by rw [hS1]; exact List.mem_append_left _ ha_))))))))))).trans ((show S50.2 a_ = S44.2 a_ from by rw [hS50]; exact pnew_n (fun z : a_ = mb => hp49 (by rw [← z]; exact (show a_ ∈ S44.1 from by rw [hS44]; exact List.mem_append_left _ (show a_ ∈ S41.1 from by rw [hS41]; exact (show a_ ∈ S34.1 from by rw [hS34]; exact List.mem_append_left _ (show a_ ∈ S31.1 from by rw [hS31]; exact (show a_ ∈ S24.1 from by rw [hS24]; exact List.mem_append_left _ (show a_ ∈ S21.1 from by rw [hS21]; exact (show a_ ∈ S4.1 from by rw [hS12]; exact (show a_ ∈ S7.1 from by rw [hS7]; exact List.mem_append_left _ (show a_ ∈ S1.1 from by rw [hS1]; exact List.mem_append_left _ ha_)))))))))))).trans ((show S44.2 a_ = S41.2 a_ from by rw [hS44]; exact pnew_n (fun z : a_ = mk => hq_mk (by rw [← z]; exact (show a_ ∈ S41.1 from by rw [hS41]; exact (show a_ ∈ S34.1 from by rw [hS34]; exact List.mem_append_left _ (show a_ ∈ S31.1 from by rw [hS31]; exact (show a_ ∈ S24.1 from by rw [hS24]; exact List.mem_append_left _ (show a_ ∈ S21.1 from by rw [hS21]; exact (show a_ ∈ S4.1 from by rw [hS12]; exact (show a_ ∈ S7.1 from by rw [hS7]; exact List.mem_append_left _ (show a_ ∈ S1.1 from by rw [hS1]; exact List.mem_append_left _ ha_))))))))))).trans ((show S41.2 a_ = S34.2 a_ from by rw [hS41]; exact pup_n hn_0).trans ((show S34.2 a_ = S31.2 a_ from by rw [hS34]; exact pnew_n (fun z : a_ = sl => hq_sl (by rw [← z]; exact (show a_ ∈ S31.1 from by rw [hS31]; exact (show a_ ∈ S24.1 from by rw [hS24]; exact List.mem_append_left _ (show a_ ∈ S21.1 from by rw [hS21]; exact (show a_ ∈ S4.1 from by rw [hS12]; exact (show a_ ∈ S7.1 from by rw [hS7]; exact List.mem_append_left _ (show a_ ∈ S1.1 from by rw [hS1]; exact List.mem_append_left _ ha_))))))))).trans ((show S31.2 a_ = S24.2 a_ from by rw [hS31]; exact pup_n hn_0).trans ((show S24.2 a_ = S21.2 a_ from by rw [hS24]; exact pnew_n (fun z : a_ = ln => hq_ln (by rw [← z]; exact (show a_ ∈ S21.1 from by rw [hS21]; exact (show a_ ∈ S4.1 from by rw [hS12]; exact (show a_ ∈ S7.1 from by rw [hS7]; exact List.mem_append_left _ (show a_ ∈ S1.1 from by rw [hS1]; exact List.mem_append_left _ ha_))))))).trans ((show S21.2 a_ = S4.2 a_ from by rw [hS21]; exact pup_n hn_0).trans ((show S4.2 a_ = S7.2 a_ from by rw [hS12]; exact pup_n (fun z : a_ = ch => hq_ch (by rw [← z]; exact ha_))).trans ((show S7.2 a_ = S1.2 a_ from by rw [hS7]; exact pnew_n (fun z : a_ = lk => hp6 (by rw [← z]; exact (show a_ ∈ S1.1 from by rw [hS1]; exact List.mem_append_left _ ha_)))).trans (show S1.2 a_ = S.2 a_ from by rw [hS1]; exact pnew_n (fun z : a_ = ch => hq_ch (by rw [← z]; exact ha_))))))))))))))))))))))))))))))), hf292, hf342, hf394, hf440, hf482, hf512, hf544, hf570, hf596, hf622, hf648, hf674, hf700, hf726, hf752, hf778, hf804, hf830, hf856, hf882, hf908, hf928, hf948, hf968, hf988, hf1008, hf1028, hf1048, hf1068, hf1088, hf1108, hf1128, hf1148, hf1168, hf1188, hf1202, hf1216, hf1230, hf1244, hf1258, hf1272, hf1286, hf1300, hf1314, hf1328, hf1342, hf1356, hf1370, hf1384, hf1386, hf1394, hf1400, hf1404⟩) hr hlocks dX11_init_105)
def gpi : List Nat := [0, 1, 2, 3, 4, 49, 50, 51, 52, 7, 21, 35, 8, 22, 36, 9, 23, 37, 10, 24, 38, 11, 13, 15, 17, 19, 25, 27, 29, 31, 33, 39, 41, 43, 45, 47, 5, 12, 14, 16, 18, 20, 26, 28, 30, 32, 34, 40, 42, 44, 46, 48, 6]
theorem gpi_inj : ∀ i j, i < 53 → j < 53 → gpi.getD i 0 = gpi.getD j 0 → i = j := by
  have : ∀ i, i < 53 → ∀ j, j < 53 → gpi.getD i 0 = gpi.getD j 0 → i = j := by decide +kernel
  exact fun i j hi hj => this i hi j hj
theorem gpi_lt : ∀ i, i < 53 → gpi.getD i 0 < 53 := by decide +kernel
theorem pInj.getD {L : List Nat} (h : pInj L) {i j : Nat} (hi : i < L.length) (hj : j < L.length) (e : L.getD i 0 = L.getD j 0) : i = j := by
  have a : L[i]? = some (L.getD i 0) := by rw [List.getD_eq_getElem?_getD, List.getElem?_eq_getElem hi]; rfl
  have b : L[j]? = some (L.getD j 0) := by rw [List.getD_eq_getElem?_getD, List.getElem?_eq_getElem hj]; rfl
  exact h i j _ a (by rw [e]; exact b)
set_option maxRecDepth 100000 in
set_option maxHeartbeats 4000000 in
/-- a new laboratory's picture -/
theorem pic_new {cy : Nat → ClassId} {S S' : pS} {x ch lk ln sl mk mb co col con com cor0 cob0 cor1 cob1 cor2 cob2 cor3 cob3 cor4 cob4 ca cal can cam car0 cab0 car1 cab1 car2 cab2 car3 cab3 car4 cab4 su sul sun sum sur0 sub0 sur1 sub1 sur2 sub2 sur3 sub3 sur4 sub4 lt lf lx lw : Nat} (hx : x ∈ S.1) (hS : S'.1 = S.1 ++ [ch, lk, ln, sl, mk, mb, co, col, con, com, cor0, cob0, cor1, cob1, cor2, cob2, cor3, cob3, cor4, cob4, ca, cal, can, cam, car0, cab0, car1, cab1, car2, cab2, car3, cab3, car4, cab4, su, sul, sun, sum, sur0, sub0, sur1, sub1, sur2, sub2, sur3, sub3, sur4, sub4, lt, lf, lx, lw]) (hinj : pInj S'.1) (f_x : S'.2 x = .inr (10, [.ref ch, .ref ln, .ref sl, .ref mk, .ref co, .ref ca, .ref su, .ref lt])) (f_ch : S'.2 ch = .inr (1, [.ref lk, .int (nI 0)])) (f_lk : S'.2 lk = aQ (cy 3) 4 (fun _ => none)) (f_ln : S'.2 ln = .inr (5, [.int (nI 0), .int (nI 0), .int (nI 0), .int (nI 0)])) (f_sl : S'.2 sl = .inr (5, [.int (nI 0), .int (nI 0), .int (nI 0), .int (nI 0)])) (f_mk : S'.2 mk = .inr (7, [.ref mb, .int (nI 320)])) (f_mb : S'.2 mb = aN (cy 0) 320 (fun _ => 0)) (f_co : S'.2 co = .inr (4, [.ref col, .ref con])) (f_col : S'.2 col = aQ (cy 2) 5 (va_up (va_up (va_up (va_up (va_up (fun _ => none) 0 (some cor0)) 1 (some cor1)) 2 (some cor2)) 3 (some cor3)) 4 (some cor4))) (f_con : S'.2 con = .inr (7, [.ref com, .int (nI 0)])) (f_com : S'.2 com = aN (cy 0) 0 (fun _ => 0)) (f_cor0 : S'.2 cor0 = .inr (7, [.ref cob0, .int (nI 0)])) (f_cob0 : S'.2 cob0 = aN (cy 0) 32 (fun _ => 0)) (f_cor1 : S'.2 cor1 = .inr (7, [.ref cob1, .int (nI 0)])) (f_cob1 : S'.2 cob1 = aN (cy 0) 320 (fun _ => 0)) (f_cor2 : S'.2 cor2 = .inr (7, [.ref cob2, .int (nI 0)])) (f_cob2 : S'.2 cob2 = aN (cy 0) 320 (fun _ => 0)) (f_cor3 : S'.2 cor3 = .inr (7, [.ref cob3, .int (nI 0)])) (f_cob3 : S'.2 cob3 = aN (cy 0) 320 (fun _ => 0)) (f_cor4 : S'.2 cor4 = .inr (7, [.ref cob4, .int (nI 0)])) (f_cob4 : S'.2 cob4 = aN (cy 0) 320 (fun _ => 0)) (f_ca : S'.2 ca = .inr (4, [.ref cal, .ref can])) (f_cal : S'.2 cal = aQ (cy 2) 5 (va_up (va_up (va_up (va_up (va_up (fun _ => none) 0 (some car0)) 1 (some car1)) 2 (some car2)) 3 (some car3)) 4 (some car4))) (f_can : S'.2 can = .inr (7, [.ref cam, .int (nI 0)])) (f_cam : S'.2 cam = aN (cy 0) 0 (fun _ => 0)) (f_car0 : S'.2 car0 = .inr (7, [.ref cab0, .int (nI 0)])) (f_cab0 : S'.2 cab0 = aN (cy 0) 32 (fun _ => 0)) (f_car1 : S'.2 car1 = .inr (7, [.ref cab1, .int (nI 0)])) (f_cab1 : S'.2 cab1 = aN (cy 0) 320 (fun _ => 0)) (f_car2 : S'.2 car2 = .inr (7, [.ref cab2, .int (nI 0)])) (f_cab2 : S'.2 cab2 = aN (cy 0) 320 (fun _ => 0)) (f_car3 : S'.2 car3 = .inr (7, [.ref cab3, .int (nI 0)])) (f_cab3 : S'.2 cab3 = aN (cy 0) 320 (fun _ => 0)) (f_car4 : S'.2 car4 = .inr (7, [.ref cab4, .int (nI 0)])) (f_cab4 : S'.2 cab4 = aN (cy 0) 320 (fun _ => 0)) (f_su : S'.2 su = .inr (4, [.ref sul, .ref sun])) (f_sul : S'.2 sul = aQ (cy 2) 5 (va_up (va_up (va_up (va_up (va_up (fun _ => none) 0 (some sur0)) 1 (some sur1)) 2 (some sur2)) 3 (some sur3)) 4 (some sur4))) (f_sun : S'.2 sun = .inr (7, [.ref sum, .int (nI 0)])) (f_sum : S'.2 sum = aN (cy 0) 0 (fun _ => 0)) (f_sur0 : S'.2 sur0 = .inr (7, [.ref sub0, .int (nI 0)])) (f_sub0 : S'.2 sub0 = aN (cy 0) 32 (fun _ => 0)) (f_sur1 : S'.2 sur1 = .inr (7, [.ref sub1, .int (nI 0)])) (f_sub1 : S'.2 sub1 = aN (cy 0) 320 (fun _ => 0)) (f_sur2 : S'.2 sur2 = .inr (7, [.ref sub2, .int (nI 0)])) (f_sub2 : S'.2 sub2 = aN (cy 0) 320 (fun _ => 0)) (f_sur3 : S'.2 sur3 = .inr (7, [.ref sub3, .int (nI 0)])) (f_sub3 : S'.2 sub3 = aN (cy 0) 320 (fun _ => 0)) (f_sur4 : S'.2 sur4 = .inr (7, [.ref sub4, .int (nI 0)])) (f_sub4 : S'.2 sub4 = aN (cy 0) 320 (fun _ => 0)) (f_lt : S'.2 lt = .inr (3, [.ref lf, .ref lx, .ref lw])) (f_lf : S'.2 lf = aN (cy 0) 16 (fun _ => 0)) (f_lx : S'.2 lx = aN (cy 0) 16 (fun _ => 0)) (f_lw : S'.2 lw = aN (cy 0) 320 (fun _ => 0)) (ws : Nat → WV) :
    ∃ G : Nat → Nat, G 0 = x ∧ Pic cy S' G (fun _ => x) 0 ws (.inr (5, [.int (nI 0), .int (nI 0), .int (nI 0), .int (nI 0)])) (.inr (5, [.int (nI 0), .int (nI 0), .int (nI 0), .int (nI 0)])) (fun r => if r = 15 then 320 else 0, fun _ _ => 0) ∧ ∀ k, k < 53 → G k = x ∨ G k ∉ S.1 := by
  have hO : pInj [ch, lk, ln, sl, mk, mb, co, col, con, com, cor0, cob0, cor1, cob1, cor2, cob2, cor3, cob3, cor4, cob4, ca, cal, can, cam, car0, cab0, car1, cab1, car2, cab2, car3, cab3, car4, cab4, su, sul, sun, sum, sur0, sub0, sur1, sub1, sur2, sub2, sur3, sub3, sur4, sub4, lt, lf, lx, lw] := by
    rw [hS] at hinj
    intro i j q hi hj
    have := hinj (S.1.length + i) (S.1.length + j) q (by rw [List.getElem?_append_right (Nat.le_add_right _ _), Nat.add_sub_cancel_left]; exact hi) (by rw [List.getElem?_append_right (Nat.le_add_right _ _), Nat.add_sub_cancel_left]; exact hj)
    omega
  have hnew : ∀ (j : Nat) (q : Nat), [ch, lk, ln, sl, mk, mb, co, col, con, com, cor0, cob0, cor1, cob1, cor2, cob2, cor3, cob3, cor4, cob4, ca, cal, can, cam, car0, cab0, car1, cab1, car2, cab2, car3, cab3, car4, cab4, su, sul, sun, sum, sur0, sub0, sur1, sub1, sur2, sub2, sur3, sub3, sur4, sub4, lt, lf, lx, lw][j]? = some q → q ∉ S.1 := fun j q hj hq => by
    rw [hS] at hinj
    obtain ⟨i, hi, he⟩ := List.getElem_of_mem hq
    have := hinj i (S.1.length + j) q (by rw [List.getElem?_append_left hi, List.getElem?_eq_getElem hi, he]) (by rw [List.getElem?_append_right (Nat.le_add_right _ _), Nat.add_sub_cancel_left]; exact hj)
    omega
  have hL : pInj [x, ch, lk, ln, sl, mk, mb, co, col, con, com, cor0, cob0, cor1, cob1, cor2, cob2, cor3, cob3, cor4, cob4, ca, cal, can, cam, car0, cab0, car1, cab1, car2, cab2, car3, cab3, car4, cab4, su, sul, sun, sum, sur0, sub0, sur1, sub1, sur2, sub2, sur3, sub3, sur4, sub4, lt, lf, lx, lw] := by
    intro i j q hi hj
    cases i with
    | zero =>
      cases j with
      | zero => rfl
      | succ j => injection hi with hi; subst hi; exact absurd hx (hnew j _ hj)
    | succ i =>
      cases j with
      | zero => injection hj with hj; subst hj; exact absurd hx (hnew i _ hi)
      | succ j => rw [hO i j q hi hj]
  have hmem : ∀ i, i < 53 → [x, ch, lk, ln, sl, mk, mb, co, col, con, com, cor0, cob0, cor1, cob1, cor2, cob2, cor3, cob3, cor4, cob4, ca, cal, can, cam, car0, cab0, car1, cab1, car2, cab2, car3, cab3, car4, cab4, su, sul, sun, sum, sur0, sub0, sur1, sub1, sur2, sub2, sur3, sub3, sur4, sub4, lt, lf, lx, lw].getD i 0 = x ∨ [ch, lk, ln, sl, mk, mb, co, col, con, com, cor0, cob0, cor1, cob1, cor2, cob2, cor3, cob3, cor4, cob4, ca, cal, can, cam, car0, cab0, car1, cab1, car2, cab2, car3, cab3, car4, cab4, su, sul, sun, sum, sur0, sub0, sur1, sub1, sur2, sub2, sur3, sub3, sur4, sub4, lt, lf, lx, lw][i - 1]? = some ([x, ch, lk, ln, sl, mk, mb, co, col, con, com, cor0, cob0, cor1, cob1, cor2, cob2, cor3, cob3, cor4, cob4, ca, cal, can, cam, car0, cab0, car1, cab1, car2, cab2, car3, cab3, car4, cab4, su, sul, sun, sum, sur0, sub0, sur1, sub1, sur2, sub2, sur3, sub3, sur4, sub4, lt, lf, lx, lw].getD i 0) := by
    intro i hi
    cases i with
    | zero => exact Or.inl rfl
    | succ i =>
      refine Or.inr ?_
      show [ch, lk, ln, sl, mk, mb, co, col, con, com, cor0, cob0, cor1, cob1, cor2, cob2, cor3, cob3, cor4, cob4, ca, cal, can, cam, car0, cab0, car1, cab1, car2, cab2, car3, cab3, car4, cab4, su, sul, sun, sum, sur0, sub0, sur1, sub1, sur2, sub2, sur3, sub3, sur4, sub4, lt, lf, lx, lw][i]? = some ([ch, lk, ln, sl, mk, mb, co, col, con, com, cor0, cob0, cor1, cob1, cor2, cob2, cor3, cob3, cor4, cob4, ca, cal, can, cam, car0, cab0, car1, cab1, car2, cab2, car3, cab3, car4, cab4, su, sul, sun, sum, sur0, sub0, sur1, sub1, sur2, sub2, sur3, sub3, sur4, sub4, lt, lf, lx, lw].getD i 0)
      rw [List.getD_eq_getElem?_getD, List.getElem?_eq_getElem (show i < [ch, lk, ln, sl, mk, mb, co, col, con, com, cor0, cob0, cor1, cob1, cor2, cob2, cor3, cob3, cor4, cob4, ca, cal, can, cam, car0, cab0, car1, cab1, car2, cab2, car3, cab3, car4, cab4, su, sul, sun, sum, sur0, sub0, sur1, sub1, sur2, sub2, sur3, sub3, sur4, sub4, lt, lf, lx, lw].length from by show i < 52; omega)]; rfl
  have hin : ∀ i, i < 53 → [x, ch, lk, ln, sl, mk, mb, co, col, con, com, cor0, cob0, cor1, cob1, cor2, cob2, cor3, cob3, cor4, cob4, ca, cal, can, cam, car0, cab0, car1, cab1, car2, cab2, car3, cab3, car4, cab4, su, sul, sun, sum, sur0, sub0, sur1, sub1, sur2, sub2, sur3, sub3, sur4, sub4, lt, lf, lx, lw].getD i 0 ∈ S'.1 := fun i hi => by
    rw [hS]
    rcases hmem i hi with h | h
    · rw [h]; exact List.mem_append_left _ hx
    · exact List.mem_append_right _ (List.mem_of_getElem? h)
  have hne : ∀ j, j < 53 → True := fun _ _ => trivial
  refine ⟨fun k => [x, ch, lk, ln, sl, mk, mb, co, col, con, com, cor0, cob0, cor1, cob1, cor2, cob2, cor3, cob3, cor4, cob4, ca, cal, can, cam, car0, cab0, car1, cab1, car2, cab2, car3, cab3, car4, cab4, su, sul, sun, sum, sur0, sub0, sur1, sub1, sur2, sub2, sur3, sub3, sur4, sub4, lt, lf, lx, lw].getD (gpi.getD k 0) 0, rfl, ⟨fun k hk => hin _ (gpi_lt k hk), ⟨fun i j hi hj e => gpi_inj i j hi hj (hL.getD (gpi_lt i hi) (gpi_lt j hj) e), fun i j hi hj => absurd hj (Nat.not_lt_zero _)⟩, by decide, f_x, f_ch, ⟨_, f_lk, fun j hj => absurd hj (Nat.not_lt_zero _)⟩, f_ln, f_sl, f_lt, ⟨fun _ => 0, fun _ => 0, fun _ => 0, f_lf, f_lx, f_lw, fun _ => Nat.zero_le _, fun _ => Nat.lt_of_lt_of_le (Nat.succ_pos 0) (by decide)⟩, fun Lv hLv => ?_, fun r hr => ?_, rfl, fun j hj => absurd hj (Nat.not_lt_zero _)⟩, fun k hk => ?_⟩
  · match Lv, hLv with
    | 0, _ => exact ⟨f_co, _, f_col, fun j hj => by match j, hj with | 0, _ => rfl | 1, _ => rfl | 2, _ => rfl | 3, _ => rfl | 4, _ => rfl⟩
    | 1, _ => exact ⟨f_ca, _, f_cal, fun j hj => by match j, hj with | 0, _ => rfl | 1, _ => rfl | 2, _ => rfl | 3, _ => rfl | 4, _ => rfl⟩
    | 2, _ => exact ⟨f_su, _, f_sul, fun j hj => by match j, hj with | 0, _ => rfl | 1, _ => rfl | 2, _ => rfl | 3, _ => rfl | 4, _ => rfl⟩
  · match r, hr with
    | 0, _ => exact ⟨f_cor0, f_cob0, by decide, fun _ => Nat.zero_le _⟩
    | 1, _ => exact ⟨f_cor1, f_cob1, by decide, fun _ => Nat.zero_le _⟩
    | 2, _ => exact ⟨f_cor2, f_cob2, by decide, fun _ => Nat.zero_le _⟩
    | 3, _ => exact ⟨f_cor3, f_cob3, by decide, fun _ => Nat.zero_le _⟩
    | 4, _ => exact ⟨f_cor4, f_cob4, by decide, fun _ => Nat.zero_le _⟩
    | 5, _ => exact ⟨f_car0, f_cab0, by decide, fun _ => Nat.zero_le _⟩
    | 6, _ => exact ⟨f_car1, f_cab1, by decide, fun _ => Nat.zero_le _⟩
    | 7, _ => exact ⟨f_car2, f_cab2, by decide, fun _ => Nat.zero_le _⟩
    | 8, _ => exact ⟨f_car3, f_cab3, by decide, fun _ => Nat.zero_le _⟩
    | 9, _ => exact ⟨f_car4, f_cab4, by decide, fun _ => Nat.zero_le _⟩
    | 10, _ => exact ⟨f_sur0, f_sub0, by decide, fun _ => Nat.zero_le _⟩
    | 11, _ => exact ⟨f_sur1, f_sub1, by decide, fun _ => Nat.zero_le _⟩
    | 12, _ => exact ⟨f_sur2, f_sub2, by decide, fun _ => Nat.zero_le _⟩
    | 13, _ => exact ⟨f_sur3, f_sub3, by decide, fun _ => Nat.zero_le _⟩
    | 14, _ => exact ⟨f_sur4, f_sub4, by decide, fun _ => Nat.zero_le _⟩
    | 15, _ => exact ⟨f_mk, f_mb, by decide, fun _ => Nat.zero_le _⟩
    | r + 16, h => exact absurd h (by omega)
  · rcases hmem _ (gpi_lt k hk) with h | h
    · exact Or.inl h
    · exact Or.inr (hnew _ _ h)
