theorem hde_X11_repeat_V_0 : yX11_putBehind.cls = RX11 ∧ yX11_putBehind.cls ≠ "java/lang/invoke/MethodHandle" ∧ yX11_putBehind.cls ≠ "java/lang/invoke/VarHandle" ∧ (parseMethodDescriptor yX11_putBehind.desc).map (fun d => d.parameters.length) = some 1 := by decide +kernel
set_option maxHeartbeats 4000000 in
set_option maxRecDepth 100000 in
/-- repeat -/
theorem e_X11_repeat (l : Launch) (hflags : l.stackTraces = false) (D : va_G) (cy : Nat → ClassId) (ed : Nat) (S : pS) (sz : Nat) (x : Nat) (ch : Nat) (ln : Nat) (sl : Nat) (mk : Nat) (co : Nat) (ca : Nat) (su : Nat) (lt : Nat) (lk : Nat) (mb : Nat) (col : Nat) (con : Nat) (cor0 : Nat) (cor1 : Nat) (cor2 : Nat) (cor3 : Nat) (cor4 : Nat) (cob0 : Nat) (cob1 : Nat) (cal : Nat) (can : Nat) (car0 : Nat) (car1 : Nat) (car2 : Nat) (car3 : Nat) (car4 : Nat) (cab0 : Nat) (cab1 : Nat) (n : Int32) (hL_x : x ∈ S.1) (hf_x : S.2 x = .inr (11, [.ref ch, .ref ln, .ref sl, .ref mk, .ref co, .ref ca, .ref su, .ref lt])) (hL_ch : ch ∈ S.1) (hf_ch : S.2 ch = .inr (2, [.ref lk, .int (nI 0)])) (hL_lk : lk ∈ S.1) (hf_lk : S.2 lk = aQ (cy 3) 4 (fun _ => none)) (hL_ln : ln ∈ S.1) (hf_ln : S.2 ln = .inr (6, [.int (nI 0), .int (nI 0), .int (nI 0), .int (nI 0)])) (hL_mk : mk ∈ S.1) (hf_mk : S.2 mk = .inr (8, [.ref mb, .int (nI 320)])) (hL_mb : mb ∈ S.1) (hf_mb : S.2 mb = aN (cy 0) 320 (fun _ => 0)) (hL_co : co ∈ S.1) (hf_co : S.2 co = .inr (5, [.ref col, .ref con])) (hL_col : col ∈ S.1) (hf_col : S.2 col = aQ (cy 2) 5 (va_up (va_up (va_up (va_up (va_up (fun _ => none) 0 (some cor0)) 1 (some cor1)) 2 (some cor2)) 3 (some cor3)) 4 (some cor4))) (hL_cor0 : cor0 ∈ S.1) (hf_cor0 : S.2 cor0 = .inr (8, [.ref cob0, .int (nI 0)])) (hL_cor1 : cor1 ∈ S.1) (hf_cor1 : S.2 cor1 = .inr (8, [.ref cob1, .int (nI 0)])) (hL_cob1 : cob1 ∈ S.1) (hf_cob1 : S.2 cob1 = aN (cy 0) 320 (fun _ => 0)) (hL_ca : ca ∈ S.1) (hf_ca : S.2 ca = .inr (5, [.ref cal, .ref can])) (hL_cal : cal ∈ S.1) (hf_cal : S.2 cal = aQ (cy 2) 5 (va_up (va_up (va_up (va_up (va_up (fun _ => none) 0 (some car0)) 1 (some car1)) 2 (some car2)) 3 (some car3)) 4 (some car4))) (hL_car0 : car0 ∈ S.1) (hf_car0 : S.2 car0 = .inr (8, [.ref cab0, .int (nI 0)])) (hL_cab0 : cab0 ∈ S.1) (hf_cab0 : S.2 cab0 = aN (cy 0) 32 (fun _ => 0)) (hL_car1 : car1 ∈ S.1) (hf_car1 : S.2 car1 = .inr (8, [.ref cab1, .int (nI 0)])) (hL_cab1 : cab1 ∈ S.1) (hf_cab1 : S.2 cab1 = aN (cy 0) 320 (fun _ => 0)) (hne_col_lk : col ≠ lk) (hne_cal_lk : cal ≠ lk) (hne_cor0_cor1 : cor0 ≠ cor1) (hne_mk_cor1 : mk ≠ cor1) (hne_car1_cor1 : car1 ≠ cor1) (hne_cob1_cab1 : cob1 ≠ cab1) (hne_mk_car1 : mk ≠ car1) (hne_mb_cab1 : mb ≠ cab1) (hne_cor0_car1 : cor0 ≠ car1) (hne_car0_cor1 : car0 ≠ cor1) (hne_car0_car1 : car0 ≠ car1) (hne_cab0_cab1 : cab0 ≠ cab1) : vx_Met l yX11_repeat (Cond.code yX11_repeat cX11_repeat 2 (some .int) :: lwU) ({ frames := 7, cells := 1, slots := 6, locals := 152 }) (ePc D cy ed S sz [.ref x, .int n]) (pQi D cy S sz (fun r S' => ∃ (st : Nat), (okR n) ∧ r = (nI 0) ∧ S'.1 = S.1 ++ [st] ∧ (∀ a_, a_ ∈ S.1 → a_ ≠ lk → a_ ≠ ch → a_ ≠ cor1 → a_ ≠ car1 → a_ ≠ cab1 → a_ ≠ car0 → S'.2 a_ = S.2 a_))) (pX D S sz (fun E S' => (E = "java/lang/IllegalArgumentException" ∧ (¬ okR n) ∧ S = S'))) 1 6 (pA S sz) := by
  refine vx_ofW (cc := cX11_repeat) (maxL := 2) (ret := (some .int)) (by decide) rfl ?_
  intro p e s m args below meth c s₁ B hml htab hv
  obtain ⟨rfl, rfl, C, hw, hA, hr, hlocks, hE⟩ := e_start B hml hv
  have hx := C.1
  have hb := C.2.1
  have hl := lv_entry ([.ref x, .int n]) (n := 2) (Nat.le_of_ble_eq_true rfl)
  rw [lg_entry_eq]
  generalize (lg_sl ([.ref x, .int n]) ++ List.replicate (2 - (lg_sl ([.ref x, .int n])).length) Slot.unset).toArray = ls at hl ⊢
  have hl : lv_has ls 2 [(0, .ref x), (1, .int n)] := hl
  have hin_RX6 : ∀ w ∈ u_ws RX6 TX6 1, w ∈ (Cond.code yX11_repeat cX11_repeat 2 (some .int) :: lwU) := fun w h => mU (sub_RX6 w h)
  refine lv_iload_n hx hb dX11_repeat_0 rfl (lv_at hl 1 rfl) ?_
  refine lv_iconst (v := nI 2) hx hb dX11_repeat_1 (by decide) ?_
  refine z_icmp_lt (tgt := 10) hx hb rfl (nI_toInt (by first | decide | omega)) dX11_repeat_2 (by decide) (fun h_2 => ?_) (fun h_2 => ?_)
  · skip
    exact x_throw (y := yX11_repeat) C hflags hw hE (kS := 4) (kT := 0) mw_119 mw_120 tIA_x rfl rfl (by decide) tIA_n tIA_g hl.1.symm dX11_repeat_10 dX11_repeat_13 dX11_repeat_14 dX11_repeat_16 dX11_repeat_19 htab (Nat.le_of_ble_eq_true rfl) (Nat.le_of_ble_eq_true rfl) (Nat.le_of_ble_eq_true rfl) (Nat.le_of_ble_eq_true rfl) hlocks (⟨rfl, (fun h => by unfold okR at h; omega), rfl⟩) (Nat.le_of_ble_eq_true rfl) (Nat.le_of_ble_eq_true rfl)
  · skip
    refine lv_iload_n hx hb dX11_repeat_5 rfl (lv_at hl 1 rfl) ?_
    refine lv_iconst (v := nI 5) hx hb dX11_repeat_6 (by decide) ?_
    refine z_icmp_le (tgt := 20) hx hb rfl (nI_toInt (by first | decide | omega)) dX11_repeat_7 (by decide) (fun h_7 => ?_) (fun h_7 => ?_)
    · skip
      obtain ⟨nN, hn31, rfl, hni⟩ := z_nat (x := n) (by omega)
      refine lv_aload_n hx hb dX11_repeat_20 rfl (lv_at hl 0 rfl) ?_
      refine p_new C hw hA (ci := 7) (Cn := RX6) (T := TX6) (N := 1) (fs := [.int (nI 0)]) tyX6 tyX6_ok rfl hin_RX6 (mU mw_567) (mU mw_568) (mU mw_160) (fun j hj => by rcases (show j = 0 by omega) with rfl <;> rfl) (Nat.le_of_ble_eq_true rfl) (Nat.le_of_ble_eq_true rfl) dX11_repeat_21 (fun st H hq_st hw => ?_)
      obtain ⟨S1, hS1⟩ : ∃ z, z = pnew S st (.inr (7, [.int (nI 0)])) := ⟨_, rfl⟩
      replace hw : pW D (pA S s.heap.size) s.heap S1 H [] := by rw [hS1]; exact hw
      have hL2 : st ∈ S1.1 := by rw [hS1]; exact List.mem_append_right _ List.mem_cons_self
      have hf3 : S1.2 st = .inr (7, [.int (nI 0)]) := by rw [hS1]; exact pnew_s
      refine lv_dup hx hb dX11_repeat_24 rfl ?_
      refine lv_iload_n hx hb dX11_repeat_25 rfl (lv_at hl 1 rfl) ?_
      refine p_callv (va_runI (As := [.int (nI nN)]) (rest := [.ref st, .ref x]) C.fix (c_X6_init l D cy S1 H.size st 0 nN hL2 hf3) (cwI 1 C.2.2.2.2.1 (gU_sub sub_X6_init) rfl rfl rfl (C.2.2.2.2.1 (.initialized RX6) (mU mw_160)) (C.2.2.2.2.1 (.methodLink RX11 101 yX6_init) (mU mw_569)) (C.2.2.2.2.1 (.instanceMethod yX6_init) (mU mw_570)) rfl (by decide +kernel) ⟨Nat.le_of_ble_eq_true rfl, Nat.le_of_ble_eq_true rfl⟩) (p_preS C hw) rfl rfl hl.1 rfl (lv_room (Nat.le_of_ble_eq_true rfl)) dX11_repeat_26 ⟨Nat.le_of_ble_eq_true rfl, Nat.le_of_ble_eq_true rfl⟩) hw hA (fun S4 H locs hpost hw => ?_)
      have hS_ := hpost
      have hS6 := hS_
      have hL7 : st ∈ S4.1 := by rw [hS6]; exact hL2
      have hf8 : S4.2 st = .inr (7, [.int (nI nN)]) := by rw [hS6]; exact pup_s
      have hL9 : x ∈ S1.1 := by rw [hS1]; exact List.mem_append_left _ hL_x
      have hf10 : S1.2 x = .inr (11, [.ref ch, .ref ln, .ref sl, .ref mk, .ref co, .ref ca, .ref su, .ref lt]) := by rw [hS1]; exact (pnew_n (fun z : x = st => hq_st (by rw [← z]; exact hL_x))).trans hf_x
      have hL11 : x ∈ S4.1 := by rw [hS6]; exact hL9
      have hf12 : S4.2 x = .inr (11, [.ref ch, .ref ln, .ref sl, .ref mk, .ref co, .ref ca, .ref su, .ref lt]) := by rw [hS6]; exact (pup_n (fun z : x = st => hq_st (by rw [← z]; exact hL_x))).trans hf10
      have hL13 : ch ∈ S1.1 := by rw [hS1]; exact List.mem_append_left _ hL_ch
      have hf14 : S1.2 ch = .inr (2, [.ref lk, .int (nI 0)]) := by rw [hS1]; exact (pnew_n (fun z : ch = st => hq_st (by rw [← z]; exact hL_ch))).trans hf_ch
      have hL15 : ch ∈ S4.1 := by rw [hS6]; exact hL13
      have hf16 : S4.2 ch = .inr (2, [.ref lk, .int (nI 0)]) := by rw [hS6]; exact (pup_n (fun z : ch = st => hq_st (by rw [← z]; exact hL_ch))).trans hf14
      have hL17 : lk ∈ S1.1 := by rw [hS1]; exact List.mem_append_left _ hL_lk
      have hf18 : S1.2 lk = aQ (cy 3) 4 (fun _ => none) := by rw [hS1]; exact (pnew_n (fun z : lk = st => hq_st (by rw [← z]; exact hL_lk))).trans hf_lk
      have hL19 : lk ∈ S4.1 := by rw [hS6]; exact hL17
      have hf20 : S4.2 lk = aQ (cy 3) 4 (fun _ => none) := by rw [hS6]; exact (pup_n (fun z : lk = st => hq_st (by rw [← z]; exact hL_lk))).trans hf18
      have hL21 : ln ∈ S1.1 := by rw [hS1]; exact List.mem_append_left _ hL_ln
      have hf22 : S1.2 ln = .inr (6, [.int (nI 0), .int (nI 0), .int (nI 0), .int (nI 0)]) := by rw [hS1]; exact (pnew_n (fun z : ln = st => hq_st (by rw [← z]; exact hL_ln))).trans hf_ln
      have hL23 : ln ∈ S4.1 := by rw [hS6]; exact hL21
      have hf24 : S4.2 ln = .inr (6, [.int (nI 0), .int (nI 0), .int (nI 0), .int (nI 0)]) := by rw [hS6]; exact (pup_n (fun z : ln = st => hq_st (by rw [← z]; exact hL_ln))).trans hf22
      have hL25 : mk ∈ S1.1 := by rw [hS1]; exact List.mem_append_left _ hL_mk
      have hf26 : S1.2 mk = .inr (8, [.ref mb, .int (nI 320)]) := by rw [hS1]; exact (pnew_n (fun z : mk = st => hq_st (by rw [← z]; exact hL_mk))).trans hf_mk
      have hL27 : mk ∈ S4.1 := by rw [hS6]; exact hL25
      have hf28 : S4.2 mk = .inr (8, [.ref mb, .int (nI 320)]) := by rw [hS6]; exact (pup_n (fun z : mk = st => hq_st (by rw [← z]; exact hL_mk))).trans hf26
      have hL29 : mb ∈ S1.1 := by rw [hS1]; exact List.mem_append_left _ hL_mb
      have hf30 : S1.2 mb = aN (cy 0) 320 (fun _ => 0) := by rw [hS1]; exact (pnew_n (fun z : mb = st => hq_st (by rw [← z]; exact hL_mb))).trans hf_mb
      have hL31 : mb ∈ S4.1 := by rw [hS6]; exact hL29
      have hf32 : S4.2 mb = aN (cy 0) 320 (fun _ => 0) := by rw [hS6]; exact (pup_n (fun z : mb = st => hq_st (by rw [← z]; exact hL_mb))).trans hf30
      have hL33 : co ∈ S1.1 := by rw [hS1]; exact List.mem_append_left _ hL_co
      have hf34 : S1.2 co = .inr (5, [.ref col, .ref con]) := by rw [hS1]; exact (pnew_n (fun z : co = st => hq_st (by rw [← z]; exact hL_co))).trans hf_co
      have hL35 : co ∈ S4.1 := by rw [hS6]; exact hL33
      have hf36 : S4.2 co = .inr (5, [.ref col, .ref con]) := by rw [hS6]; exact (pup_n (fun z : co = st => hq_st (by rw [← z]; exact hL_co))).trans hf34
      have hL37 : col ∈ S1.1 := by rw [hS1]; exact List.mem_append_left _ hL_col
      have hf38 : S1.2 col = aQ (cy 2) 5 (va_up (va_up (va_up (va_up (va_up (fun _ => none) 0 (some cor0)) 1 (some cor1)) 2 (some cor2)) 3 (some cor3)) 4 (some cor4)) := by rw [hS1]; exact (pnew_n (fun z : col = st => hq_st (by rw [← z]; exact hL_col))).trans hf_col
      have hL39 : col ∈ S4.1 := by rw [hS6]; exact hL37
      have hf40 : S4.2 col = aQ (cy 2) 5 (va_up (va_up (va_up (va_up (va_up (fun _ => none) 0 (some cor0)) 1 (some cor1)) 2 (some cor2)) 3 (some cor3)) 4 (some cor4)) := by rw [hS6]; exact (pup_n (fun z : col = st => hq_st (by rw [← z]; exact hL_col))).trans hf38
      have hL41 : cor0 ∈ S1.1 := by rw [hS1]; exact List.mem_append_left _ hL_cor0
      have hf42 : S1.2 cor0 = .inr (8, [.ref cob0, .int (nI 0)]) := by rw [hS1]; exact (pnew_n (fun z : cor0 = st => hq_st (by rw [← z]; exact hL_cor0))).trans hf_cor0
      have hL43 : cor0 ∈ S4.1 := by rw [hS6]; exact hL41
      have hf44 : S4.2 cor0 = .inr (8, [.ref cob0, .int (nI 0)]) := by rw [hS6]; exact (pup_n (fun z : cor0 = st => hq_st (by rw [← z]; exact hL_cor0))).trans hf42
      have hL45 : cor1 ∈ S1.1 := by rw [hS1]; exact List.mem_append_left _ hL_cor1
      have hf46 : S1.2 cor1 = .inr (8, [.ref cob1, .int (nI 0)]) := by rw [hS1]; exact (pnew_n (fun z : cor1 = st => hq_st (by rw [← z]; exact hL_cor1))).trans hf_cor1
      have hL47 : cor1 ∈ S4.1 := by rw [hS6]; exact hL45
      have hf48 : S4.2 cor1 = .inr (8, [.ref cob1, .int (nI 0)]) := by rw [hS6]; exact (pup_n (fun z : cor1 = st => hq_st (by rw [← z]; exact hL_cor1))).trans hf46
      have hL49 : cob1 ∈ S1.1 := by rw [hS1]; exact List.mem_append_left _ hL_cob1
      have hf50 : S1.2 cob1 = aN (cy 0) 320 (fun _ => 0) := by rw [hS1]; exact (pnew_n (fun z : cob1 = st => hq_st (by rw [← z]; exact hL_cob1))).trans hf_cob1
      have hL51 : cob1 ∈ S4.1 := by rw [hS6]; exact hL49
      have hf52 : S4.2 cob1 = aN (cy 0) 320 (fun _ => 0) := by rw [hS6]; exact (pup_n (fun z : cob1 = st => hq_st (by rw [← z]; exact hL_cob1))).trans hf50
      have hL53 : ca ∈ S1.1 := by rw [hS1]; exact List.mem_append_left _ hL_ca
      have hf54 : S1.2 ca = .inr (5, [.ref cal, .ref can]) := by rw [hS1]; exact (pnew_n (fun z : ca = st => hq_st (by rw [← z]; exact hL_ca))).trans hf_ca
      have hL55 : ca ∈ S4.1 := by rw [hS6]; exact hL53
      have hf56 : S4.2 ca = .inr (5, [.ref cal, .ref can]) := by rw [hS6]; exact (pup_n (fun z : ca = st => hq_st (by rw [← z]; exact hL_ca))).trans hf54
      have hL57 : cal ∈ S1.1 := by rw [hS1]; exact List.mem_append_left _ hL_cal
      have hf58 : S1.2 cal = aQ (cy 2) 5 (va_up (va_up (va_up (va_up (va_up (fun _ => none) 0 (some car0)) 1 (some car1)) 2 (some car2)) 3 (some car3)) 4 (some car4)) := by rw [hS1]; exact (pnew_n (fun z : cal = st => hq_st (by rw [← z]; exact hL_cal))).trans hf_cal
      have hL59 : cal ∈ S4.1 := by rw [hS6]; exact hL57
      have hf60 : S4.2 cal = aQ (cy 2) 5 (va_up (va_up (va_up (va_up (va_up (fun _ => none) 0 (some car0)) 1 (some car1)) 2 (some car2)) 3 (some car3)) 4 (some car4)) := by rw [hS6]; exact (pup_n (fun z : cal = st => hq_st (by rw [← z]; exact hL_cal))).trans hf58
      have hL61 : car0 ∈ S1.1 := by rw [hS1]; exact List.mem_append_left _ hL_car0
      have hf62 : S1.2 car0 = .inr (8, [.ref cab0, .int (nI 0)]) := by rw [hS1]; exact (pnew_n (fun z : car0 = st => hq_st (by rw [← z]; exact hL_car0))).trans hf_car0
      have hL63 : car0 ∈ S4.1 := by rw [hS6]; exact hL61
      have hf64 : S4.2 car0 = .inr (8, [.ref cab0, .int (nI 0)]) := by rw [hS6]; exact (pup_n (fun z : car0 = st => hq_st (by rw [← z]; exact hL_car0))).trans hf62
      have hL65 : cab0 ∈ S1.1 := by rw [hS1]; exact List.mem_append_left _ hL_cab0
      have hf66 : S1.2 cab0 = aN (cy 0) 32 (fun _ => 0) := by rw [hS1]; exact (pnew_n (fun z : cab0 = st => hq_st (by rw [← z]; exact hL_cab0))).trans hf_cab0
      have hL67 : cab0 ∈ S4.1 := by rw [hS6]; exact hL65
      have hf68 : S4.2 cab0 = aN (cy 0) 32 (fun _ => 0) := by rw [hS6]; exact (pup_n (fun z : cab0 = st => hq_st (by rw [← z]; exact hL_cab0))).trans hf66
      have hL69 : car1 ∈ S1.1 := by rw [hS1]; exact List.mem_append_left _ hL_car1
      have hf70 : S1.2 car1 = .inr (8, [.ref cab1, .int (nI 0)]) := by rw [hS1]; exact (pnew_n (fun z : car1 = st => hq_st (by rw [← z]; exact hL_car1))).trans hf_car1
      have hL71 : car1 ∈ S4.1 := by rw [hS6]; exact hL69
      have hf72 : S4.2 car1 = .inr (8, [.ref cab1, .int (nI 0)]) := by rw [hS6]; exact (pup_n (fun z : car1 = st => hq_st (by rw [← z]; exact hL_car1))).trans hf70
      have hL73 : cab1 ∈ S1.1 := by rw [hS1]; exact List.mem_append_left _ hL_cab1
      have hf74 : S1.2 cab1 = aN (cy 0) 320 (fun _ => 0) := by rw [hS1]; exact (pnew_n (fun z : cab1 = st => hq_st (by rw [← z]; exact hL_cab1))).trans hf_cab1
      have hL75 : cab1 ∈ S4.1 := by rw [hS6]; exact hL73
      have hf76 : S4.2 cab1 = aN (cy 0) 320 (fun _ => 0) := by rw [hS6]; exact (pup_n (fun z : cab1 = st => hq_st (by rw [← z]; exact hL_cab1))).trans hf74
      refine p_calli (va_runV (As := [.ref st]) (rest := []) C.fix (e_X11_putBehindrep l D cy S4 H.size x st ch ln sl mk co ca su lt lk mb col con cor0 cor1 cor2 cor3 cor4 cob0 cob1 cal can car0 car1 car2 car3 car4 cab0 cab1 nN hL11 hf12 hL15 hf16 hL19 hf20 hL23 hf24 hL27 hf28 hL31 hf32 hL35 hf36 hL39 hf40 hL43 hf44 hL47 hf48 hL51 hf52 hL55 hf56 hL59 hf60 hL63 hf64 hL67 hf68 hL71 hf72 hL75 hf76 hL7 hf8 hne_col_lk hne_cal_lk hne_cor0_cor1 hne_mk_cor1 hne_car1_cor1 hne_cob1_cab1 hne_mk_car1 hne_mb_cab1 hne_cor0_car1 hne_car0_cor1 hne_car0_car1 hne_cab0_cab1) (cwV 1 C.2.2.2.2.1 (gU_V mw_576 mw_577 mw_578 mw_2 (subU mw_579)) rfl rfl rfl hde_X11_repeat_V_0 ⟨Nat.le_of_ble_eq_true rfl, Nat.le_of_ble_eq_true rfl⟩) (p_preV C hw hL11 hf12 rfl) rfl rfl hl.1 rfl (lv_room (Nat.le_of_ble_eq_true rfl)) dX11_repeat_29 ⟨Nat.le_of_ble_eq_true rfl, Nat.le_of_ble_eq_true rfl⟩) hw hA (fun r78 S77 H locs hpost hw => ?_)
      obtain ⟨hr_, hS79, hfr80⟩ := hpost
      subst hr_
      refine vx_ret ?_
      refine W.widen (k := 1) (n := 6) (Nat.le_of_ble_eq_true rfl) (Nat.le_of_ble_eq_true rfl) ?_
      exact (p_iret C hw (⟨st, (by unfold okR; omega), rfl, (by simp only [hS79, hS6, hS1, pup, pnew, List.append_nil, List.append_assoc, List.cons_append, List.nil_append]), (fun a_ ha_ hn_0 hn_1 hn_2 hn_3 hn_4 hn_5 => ((hfr80 a_ (show a_ ∈ S4.1 from by rw [hS6]; exact (show a_ ∈ S1.1 from by rw [hS1]; exact List.mem_append_left _ ha_)) hn_0 hn_1 hn_2 hn_3 hn_4 hn_5).trans ((show S4.2 a_ = S1.2 a_ from by rw [hS6]; exact pup_n (fun z : a_ = st => hq_st (by rw [← z]; exact ha_))).trans (show S1.2 a_ = S.2 a_ from by rw [hS1]; exact pnew_n (fun z : a_ = st => hq_st (by rw [← z]; exact ha_))))))⟩) hr hlocks dX11_repeat_32)
    · skip
      exact x_throw (y := yX11_repeat) C hflags hw hE (kS := 4) (kT := 0) mw_119 mw_120 tIA_x rfl rfl (by decide) tIA_n tIA_g hl.1.symm dX11_repeat_10 dX11_repeat_13 dX11_repeat_14 dX11_repeat_16 dX11_repeat_19 htab (Nat.le_of_ble_eq_true rfl) (Nat.le_of_ble_eq_true rfl) (Nat.le_of_ble_eq_true rfl) (Nat.le_of_ble_eq_true rfl) hlocks (⟨rfl, (fun h => by unfold okR at h; omega), rfl⟩) (Nat.le_of_ble_eq_true rfl) (Nat.le_of_ble_eq_true rfl)

theorem hde_X11_check_V_0 : yX11_putBehind.cls = RX11 ∧ yX11_putBehind.cls ≠ "java/lang/invoke/MethodHandle" ∧ yX11_putBehind.cls ≠ "java/lang/invoke/VarHandle" ∧ (parseMethodDescriptor yX11_putBehind.desc).map (fun d => d.parameters.length) = some 1 := by decide +kernel
set_option maxHeartbeats 4000000 in
set_option maxRecDepth 100000 in
/-- check -/
theorem e_X11_check (l : Launch) (hflags : l.stackTraces = false) (D : va_G) (cy : Nat → ClassId) (ed : Nat) (S : pS) (sz : Nat) (x : Nat) (ch : Nat) (ln : Nat) (sl : Nat) (mk : Nat) (co : Nat) (ca : Nat) (su : Nat) (lt : Nat) (lk : Nat) (mb : Nat) (col : Nat) (con : Nat) (cor0 : Nat) (cor1 : Nat) (cor2 : Nat) (cor3 : Nat) (cor4 : Nat) (cob0 : Nat) (cob1 : Nat) (cal : Nat) (can : Nat) (car0 : Nat) (car1 : Nat) (car2 : Nat) (car3 : Nat) (car4 : Nat) (cab0 : Nat) (cab1 : Nat) (dv : Int32) (n : Int32) (hL_x : x ∈ S.1) (hf_x : S.2 x = .inr (11, [.ref ch, .ref ln, .ref sl, .ref mk, .ref co, .ref ca, .ref su, .ref lt])) (hL_ch : ch ∈ S.1) (hf_ch : S.2 ch = .inr (2, [.ref lk, .int (nI 0)])) (hL_lk : lk ∈ S.1) (hf_lk : S.2 lk = aQ (cy 3) 4 (fun _ => none)) (hL_ln : ln ∈ S.1) (hf_ln : S.2 ln = .inr (6, [.int (nI 0), .int (nI 0), .int (nI 0), .int (nI 0)])) (hL_mk : mk ∈ S.1) (hf_mk : S.2 mk = .inr (8, [.ref mb, .int (nI 320)])) (hL_mb : mb ∈ S.1) (hf_mb : S.2 mb = aN (cy 0) 320 (fun _ => 0)) (hL_co : co ∈ S.1) (hf_co : S.2 co = .inr (5, [.ref col, .ref con])) (hL_col : col ∈ S.1) (hf_col : S.2 col = aQ (cy 2) 5 (va_up (va_up (va_up (va_up (va_up (fun _ => none) 0 (some cor0)) 1 (some cor1)) 2 (some cor2)) 3 (some cor3)) 4 (some cor4))) (hL_cor0 : cor0 ∈ S.1) (hf_cor0 : S.2 cor0 = .inr (8, [.ref cob0, .int (nI 0)])) (hL_cor1 : cor1 ∈ S.1) (hf_cor1 : S.2 cor1 = .inr (8, [.ref cob1, .int (nI 0)])) (hL_cob1 : cob1 ∈ S.1) (hf_cob1 : S.2 cob1 = aN (cy 0) 320 (fun _ => 0)) (hL_ca : ca ∈ S.1) (hf_ca : S.2 ca = .inr (5, [.ref cal, .ref can])) (hL_cal : cal ∈ S.1) (hf_cal : S.2 cal = aQ (cy 2) 5 (va_up (va_up (va_up (va_up (va_up (fun _ => none) 0 (some car0)) 1 (some car1)) 2 (some car2)) 3 (some car3)) 4 (some car4))) (hL_car0 : car0 ∈ S.1) (hf_car0 : S.2 car0 = .inr (8, [.ref cab0, .int (nI 0)])) (hL_cab0 : cab0 ∈ S.1) (hf_cab0 : S.2 cab0 = aN (cy 0) 32 (fun _ => 0)) (hL_car1 : car1 ∈ S.1) (hf_car1 : S.2 car1 = .inr (8, [.ref cab1, .int (nI 0)])) (hL_cab1 : cab1 ∈ S.1) (hf_cab1 : S.2 cab1 = aN (cy 0) 320 (fun _ => 0)) (hne_col_lk : col ≠ lk) (hne_cal_lk : cal ≠ lk) (hne_cor0_cor1 : cor0 ≠ cor1) (hne_mk_cor1 : mk ≠ cor1) (hne_car1_cor1 : car1 ≠ cor1) (hne_cob1_cab1 : cob1 ≠ cab1) (hne_mk_car1 : mk ≠ car1) (hne_mb_cab1 : mb ≠ cab1) (hne_cor0_car1 : cor0 ≠ car1) (hne_car0_cor1 : car0 ≠ cor1) (hne_car0_car1 : car0 ≠ car1) (hne_cab0_cab1 : cab0 ≠ cab1) : vx_Met l yX11_check (Cond.code yX11_check cX11_check 3 (some .int) :: lwU) ({ frames := 7, cells := 1, slots := 6, locals := 152 }) (ePc D cy ed S sz [.ref x, .int dv, .int n]) (pQi D cy S sz (fun r S' => ∃ (st : Nat), (okK dv n) ∧ r = (nI 0) ∧ S'.1 = S.1 ++ [st] ∧ (∀ a_, a_ ∈ S.1 → a_ ≠ lk → a_ ≠ ch → a_ ≠ cor1 → a_ ≠ car1 → a_ ≠ cab1 → a_ ≠ car0 → S'.2 a_ = S.2 a_))) (pX D S sz (fun E S' => (E = "java/lang/IllegalArgumentException" ∧ (¬ okK dv n) ∧ S = S'))) 1 6 (pA S sz) := by
  refine vx_ofW (cc := cX11_check) (maxL := 3) (ret := (some .int)) (by decide) rfl ?_
  intro p e s m args below meth c s₁ B hml htab hv
  obtain ⟨rfl, rfl, C, hw, hA, hr, hlocks, hE⟩ := e_start B hml hv
  have hx := C.1
  have hb := C.2.1
  have hl := lv_entry ([.ref x, .int dv, .int n]) (n := 3) (Nat.le_of_ble_eq_true rfl)
  rw [lg_entry_eq]
  generalize (lg_sl ([.ref x, .int dv, .int n]) ++ List.replicate (3 - (lg_sl ([.ref x, .int dv, .int n])).length) Slot.unset).toArray = ls at hl ⊢
  have hl : lv_has ls 3 [(0, .ref x), (1, .int dv), (2, .int n)] := hl
  have hin_RX2 : ∀ w ∈ u_ws RX2 TX2 3, w ∈ (Cond.code yX11_check cX11_check 3 (some .int) :: lwU) := fun w h => mU (sub_RX2 w h)
  refine lv_iload_n hx hb dX11_check_0 rfl (lv_at hl 1 rfl) ?_
  refine lv_iconst (v := nI 2) hx hb dX11_check_1 (by decide) ?_
  refine z_icmp_lt (tgt := 12) hx hb rfl (nI_toInt (by first | decide | omega)) dX11_check_2 (by decide) (fun h_2 => ?_) (fun h_2 => ?_)
  · skip
    exact x_throw (y := yX11_check) C hflags hw hE (kS := 8) (kT := 0) mw_119 mw_120 tIA_x rfl rfl (by decide) tIA_n tIA_g hl.1.symm dX11_check_12 dX11_check_15 dX11_check_16 dX11_check_18 dX11_check_21 htab (Nat.le_of_ble_eq_true rfl) (Nat.le_of_ble_eq_true rfl) (Nat.le_of_ble_eq_true rfl) (Nat.le_of_ble_eq_true rfl) hlocks (⟨rfl, (fun h => by unfold okK at h; omega), rfl⟩) (Nat.le_of_ble_eq_true rfl) (Nat.le_of_ble_eq_true rfl)
  · skip
    refine lv_iload_n hx hb dX11_check_5 rfl (lv_at hl 1 rfl) ?_
    refine lv_sipush (v := nI 511) hx hb dX11_check_6 (by decide) ?_
    refine z_icmp_le (tgt := 22) hx hb rfl (nI_toInt (by first | decide | omega)) dX11_check_9 (by decide) (fun h_9 => ?_) (fun h_9 => ?_)
    · skip
      refine lv_iload_n hx hb dX11_check_22 rfl (lv_at hl 2 rfl) ?_
      refine lv_iconst (v := nI 1) hx hb dX11_check_23 (by decide) ?_
      refine z_icmp_lt (tgt := 33) hx hb rfl (nI_toInt (by first | decide | omega)) dX11_check_24 (by decide) (fun h_24 => ?_) (fun h_24 => ?_)
      · skip
        exact x_throw (y := yX11_check) C hflags hw hE (kS := 9) (kT := 0) mw_119 mw_120 tIA_x rfl rfl (by decide) tIA_n tIA_g hl.1.symm dX11_check_33 dX11_check_36 dX11_check_37 dX11_check_39 dX11_check_42 htab (Nat.le_of_ble_eq_true rfl) (Nat.le_of_ble_eq_true rfl) (Nat.le_of_ble_eq_true rfl) (Nat.le_of_ble_eq_true rfl) hlocks (⟨rfl, (fun h => by unfold okK at h; omega), rfl⟩) (Nat.le_of_ble_eq_true rfl) (Nat.le_of_ble_eq_true rfl)
      · skip
        refine lv_iload_n hx hb dX11_check_27 rfl (lv_at hl 2 rfl) ?_
        refine lv_bipush (v := nI 32) hx hb dX11_check_28 (by decide) ?_
        refine z_icmp_le (tgt := 43) hx hb rfl (nI_toInt (by first | decide | omega)) dX11_check_30 (by decide) (fun h_30 => ?_) (fun h_30 => ?_)
        · skip
          obtain ⟨dN, hd31, rfl, hdi⟩ := z_nat (x := dv) (by omega)
          obtain ⟨nN, hn31, rfl, hni⟩ := z_nat (x := n) (by omega)
          refine lv_aload_n hx hb dX11_check_43 rfl (lv_at hl 0 rfl) ?_
          refine p_new C hw hA (ci := 3) (Cn := RX2) (T := TX2) (N := 3) (fs := [.int (nI 0), .int (nI 0), .int (nI 0)]) tyX2 tyX2_ok rfl hin_RX2 (mU mw_638) (mU mw_639) (mU mw_154) (fun j hj => by rcases (show j = 0 ∨ j = 1 ∨ j = 2 by omega) with rfl | rfl | rfl <;> rfl) (Nat.le_of_ble_eq_true rfl) (Nat.le_of_ble_eq_true rfl) dX11_check_44 (fun st H hq_st hw => ?_)
          obtain ⟨S1, hS1⟩ : ∃ z, z = pnew S st (.inr (3, [.int (nI 0), .int (nI 0), .int (nI 0)])) := ⟨_, rfl⟩
          replace hw : pW D (pA S s.heap.size) s.heap S1 H [] := by rw [hS1]; exact hw
          have hL2 : st ∈ S1.1 := by rw [hS1]; exact List.mem_append_right _ List.mem_cons_self
          have hf3 : S1.2 st = .inr (3, [.int (nI 0), .int (nI 0), .int (nI 0)]) := by rw [hS1]; exact pnew_s
          refine lv_dup hx hb dX11_check_47 rfl ?_
          refine lv_iload_n hx hb dX11_check_48 rfl (lv_at hl 1 rfl) ?_
          refine lv_iload_n hx hb dX11_check_49 rfl (lv_at hl 2 rfl) ?_
          refine p_callv (va_runI (As := [.int (nI dN), .int (nI nN)]) (rest := [.ref st, .ref x]) C.fix (c_X2_init l D cy S1 H.size st 0 0 0 dN nN hL2 hf3 (by first | assumption | decide | omega)) (cwI 2 C.2.2.2.2.1 (gU_sub sub_X2_init) rfl rfl rfl (C.2.2.2.2.1 (.initialized RX2) (mU mw_154)) (C.2.2.2.2.1 (.methodLink RX11 123 yX2_init) (mU mw_640)) (C.2.2.2.2.1 (.instanceMethod yX2_init) (mU mw_641)) rfl (by decide +kernel) ⟨Nat.le_of_ble_eq_true rfl, Nat.le_of_ble_eq_true rfl⟩) (p_preS C hw) rfl rfl hl.1 rfl (lv_room (Nat.le_of_ble_eq_true rfl)) dX11_check_50 ⟨Nat.le_of_ble_eq_true rfl, Nat.le_of_ble_eq_true rfl⟩) hw hA (fun S4 H locs hpost hw => ?_)
          have hS_ := hpost
          have hS6 := hS_
          have hL7 : st ∈ S4.1 := by rw [hS6]; exact hL2
          have hf8 : S4.2 st = .inr (3, [.int (nI dN), .int (nI nN), .int (nI (degN dN 9))]) := by rw [hS6]; exact pup_s
          have hL9 : x ∈ S1.1 := by rw [hS1]; exact List.mem_append_left _ hL_x
          have hf10 : S1.2 x = .inr (11, [.ref ch, .ref ln, .ref sl, .ref mk, .ref co, .ref ca, .ref su, .ref lt]) := by rw [hS1]; exact (pnew_n (fun z : x = st => hq_st (by rw [← z]; exact hL_x))).trans hf_x
          have hL11 : x ∈ S4.1 := by rw [hS6]; exact hL9
          have hf12 : S4.2 x = .inr (11, [.ref ch, .ref ln, .ref sl, .ref mk, .ref co, .ref ca, .ref su, .ref lt]) := by rw [hS6]; exact (pup_n (fun z : x = st => hq_st (by rw [← z]; exact hL_x))).trans hf10
          have hL13 : ch ∈ S1.1 := by rw [hS1]; exact List.mem_append_left _ hL_ch
          have hf14 : S1.2 ch = .inr (2, [.ref lk, .int (nI 0)]) := by rw [hS1]; exact (pnew_n (fun z : ch = st => hq_st (by rw [← z]; exact hL_ch))).trans hf_ch
          have hL15 : ch ∈ S4.1 := by rw [hS6]; exact hL13
          have hf16 : S4.2 ch = .inr (2, [.ref lk, .int (nI 0)]) := by rw [hS6]; exact (pup_n (fun z : ch = st => hq_st (by rw [← z]; exact hL_ch))).trans hf14
          have hL17 : lk ∈ S1.1 := by rw [hS1]; exact List.mem_append_left _ hL_lk
          have hf18 : S1.2 lk = aQ (cy 3) 4 (fun _ => none) := by rw [hS1]; exact (pnew_n (fun z : lk = st => hq_st (by rw [← z]; exact hL_lk))).trans hf_lk
          have hL19 : lk ∈ S4.1 := by rw [hS6]; exact hL17
          have hf20 : S4.2 lk = aQ (cy 3) 4 (fun _ => none) := by rw [hS6]; exact (pup_n (fun z : lk = st => hq_st (by rw [← z]; exact hL_lk))).trans hf18
          have hL21 : ln ∈ S1.1 := by rw [hS1]; exact List.mem_append_left _ hL_ln
          have hf22 : S1.2 ln = .inr (6, [.int (nI 0), .int (nI 0), .int (nI 0), .int (nI 0)]) := by rw [hS1]; exact (pnew_n (fun z : ln = st => hq_st (by rw [← z]; exact hL_ln))).trans hf_ln
          have hL23 : ln ∈ S4.1 := by rw [hS6]; exact hL21
          have hf24 : S4.2 ln = .inr (6, [.int (nI 0), .int (nI 0), .int (nI 0), .int (nI 0)]) := by rw [hS6]; exact (pup_n (fun z : ln = st => hq_st (by rw [← z]; exact hL_ln))).trans hf22
          have hL25 : mk ∈ S1.1 := by rw [hS1]; exact List.mem_append_left _ hL_mk
          have hf26 : S1.2 mk = .inr (8, [.ref mb, .int (nI 320)]) := by rw [hS1]; exact (pnew_n (fun z : mk = st => hq_st (by rw [← z]; exact hL_mk))).trans hf_mk
          have hL27 : mk ∈ S4.1 := by rw [hS6]; exact hL25
          have hf28 : S4.2 mk = .inr (8, [.ref mb, .int (nI 320)]) := by rw [hS6]; exact (pup_n (fun z : mk = st => hq_st (by rw [← z]; exact hL_mk))).trans hf26
          have hL29 : mb ∈ S1.1 := by rw [hS1]; exact List.mem_append_left _ hL_mb
          have hf30 : S1.2 mb = aN (cy 0) 320 (fun _ => 0) := by rw [hS1]; exact (pnew_n (fun z : mb = st => hq_st (by rw [← z]; exact hL_mb))).trans hf_mb
          have hL31 : mb ∈ S4.1 := by rw [hS6]; exact hL29
          have hf32 : S4.2 mb = aN (cy 0) 320 (fun _ => 0) := by rw [hS6]; exact (pup_n (fun z : mb = st => hq_st (by rw [← z]; exact hL_mb))).trans hf30
          have hL33 : co ∈ S1.1 := by rw [hS1]; exact List.mem_append_left _ hL_co
          have hf34 : S1.2 co = .inr (5, [.ref col, .ref con]) := by rw [hS1]; exact (pnew_n (fun z : co = st => hq_st (by rw [← z]; exact hL_co))).trans hf_co
          have hL35 : co ∈ S4.1 := by rw [hS6]; exact hL33
          have hf36 : S4.2 co = .inr (5, [.ref col, .ref con]) := by rw [hS6]; exact (pup_n (fun z : co = st => hq_st (by rw [← z]; exact hL_co))).trans hf34
          have hL37 : col ∈ S1.1 := by rw [hS1]; exact List.mem_append_left _ hL_col
          have hf38 : S1.2 col = aQ (cy 2) 5 (va_up (va_up (va_up (va_up (va_up (fun _ => none) 0 (some cor0)) 1 (some cor1)) 2 (some cor2)) 3 (some cor3)) 4 (some cor4)) := by rw [hS1]; exact (pnew_n (fun z : col = st => hq_st (by rw [← z]; exact hL_col))).trans hf_col
          have hL39 : col ∈ S4.1 := by rw [hS6]; exact hL37
          have hf40 : S4.2 col = aQ (cy 2) 5 (va_up (va_up (va_up (va_up (va_up (fun _ => none) 0 (some cor0)) 1 (some cor1)) 2 (some cor2)) 3 (some cor3)) 4 (some cor4)) := by rw [hS6]; exact (pup_n (fun z : col = st => hq_st (by rw [← z]; exact hL_col))).trans hf38
          have hL41 : cor0 ∈ S1.1 := by rw [hS1]; exact List.mem_append_left _ hL_cor0
          have hf42 : S1.2 cor0 = .inr (8, [.ref cob0, .int (nI 0)]) := by rw [hS1]; exact (pnew_n (fun z : cor0 = st => hq_st (by rw [← z]; exact hL_cor0))).trans hf_cor0
          have hL43 : cor0 ∈ S4.1 := by rw [hS6]; exact hL41
          have hf44 : S4.2 cor0 = .inr (8, [.ref cob0, .int (nI 0)]) := by rw [hS6]; exact (pup_n (fun z : cor0 = st => hq_st (by rw [← z]; exact hL_cor0))).trans hf42
          have hL45 : cor1 ∈ S1.1 := by rw [hS1]; exact List.mem_append_left _ hL_cor1
          have hf46 : S1.2 cor1 = .inr (8, [.ref cob1, .int (nI 0)]) := by rw [hS1]; exact (pnew_n (fun z : cor1 = st => hq_st (by rw [← z]; exact hL_cor1))).trans hf_cor1
          have hL47 : cor1 ∈ S4.1 := by rw [hS6]; exact hL45
          have hf48 : S4.2 cor1 = .inr (8, [.ref cob1, .int (nI 0)]) := by rw [hS6]; exact (pup_n (fun z : cor1 = st => hq_st (by rw [← z]; exact hL_cor1))).trans hf46
          have hL49 : cob1 ∈ S1.1 := by rw [hS1]; exact List.mem_append_left _ hL_cob1
          have hf50 : S1.2 cob1 = aN (cy 0) 320 (fun _ => 0) := by rw [hS1]; exact (pnew_n (fun z : cob1 = st => hq_st (by rw [← z]; exact hL_cob1))).trans hf_cob1
          have hL51 : cob1 ∈ S4.1 := by rw [hS6]; exact hL49
          have hf52 : S4.2 cob1 = aN (cy 0) 320 (fun _ => 0) := by rw [hS6]; exact (pup_n (fun z : cob1 = st => hq_st (by rw [← z]; exact hL_cob1))).trans hf50
          have hL53 : ca ∈ S1.1 := by rw [hS1]; exact List.mem_append_left _ hL_ca
          have hf54 : S1.2 ca = .inr (5, [.ref cal, .ref can]) := by rw [hS1]; exact (pnew_n (fun z : ca = st => hq_st (by rw [← z]; exact hL_ca))).trans hf_ca
          have hL55 : ca ∈ S4.1 := by rw [hS6]; exact hL53
          have hf56 : S4.2 ca = .inr (5, [.ref cal, .ref can]) := by rw [hS6]; exact (pup_n (fun z : ca = st => hq_st (by rw [← z]; exact hL_ca))).trans hf54
          have hL57 : cal ∈ S1.1 := by rw [hS1]; exact List.mem_append_left _ hL_cal
          have hf58 : S1.2 cal = aQ (cy 2) 5 (va_up (va_up (va_up (va_up (va_up (fun _ => none) 0 (some car0)) 1 (some car1)) 2 (some car2)) 3 (some car3)) 4 (some car4)) := by rw [hS1]; exact (pnew_n (fun z : cal = st => hq_st (by rw [← z]; exact hL_cal))).trans hf_cal
          have hL59 : cal ∈ S4.1 := by rw [hS6]; exact hL57
          have hf60 : S4.2 cal = aQ (cy 2) 5 (va_up (va_up (va_up (va_up (va_up (fun _ => none) 0 (some car0)) 1 (some car1)) 2 (some car2)) 3 (some car3)) 4 (some car4)) := by rw [hS6]; exact (pup_n (fun z : cal = st => hq_st (by rw [← z]; exact hL_cal))).trans hf58
          have hL61 : car0 ∈ S1.1 := by rw [hS1]; exact List.mem_append_left _ hL_car0
          have hf62 : S1.2 car0 = .inr (8, [.ref cab0, .int (nI 0)]) := by rw [hS1]; exact (pnew_n (fun z : car0 = st => hq_st (by rw [← z]; exact hL_car0))).trans hf_car0
          have hL63 : car0 ∈ S4.1 := by rw [hS6]; exact hL61
          have hf64 : S4.2 car0 = .inr (8, [.ref cab0, .int (nI 0)]) := by rw [hS6]; exact (pup_n (fun z : car0 = st => hq_st (by rw [← z]; exact hL_car0))).trans hf62
          have hL65 : cab0 ∈ S1.1 := by rw [hS1]; exact List.mem_append_left _ hL_cab0
          have hf66 : S1.2 cab0 = aN (cy 0) 32 (fun _ => 0) := by rw [hS1]; exact (pnew_n (fun z : cab0 = st => hq_st (by rw [← z]; exact hL_cab0))).trans hf_cab0
          have hL67 : cab0 ∈ S4.1 := by rw [hS6]; exact hL65
          have hf68 : S4.2 cab0 = aN (cy 0) 32 (fun _ => 0) := by rw [hS6]; exact (pup_n (fun z : cab0 = st => hq_st (by rw [← z]; exact hL_cab0))).trans hf66
          have hL69 : car1 ∈ S1.1 := by rw [hS1]; exact List.mem_append_left _ hL_car1
          have hf70 : S1.2 car1 = .inr (8, [.ref cab1, .int (nI 0)]) := by rw [hS1]; exact (pnew_n (fun z : car1 = st => hq_st (by rw [← z]; exact hL_car1))).trans hf_car1
          have hL71 : car1 ∈ S4.1 := by rw [hS6]; exact hL69
          have hf72 : S4.2 car1 = .inr (8, [.ref cab1, .int (nI 0)]) := by rw [hS6]; exact (pup_n (fun z : car1 = st => hq_st (by rw [← z]; exact hL_car1))).trans hf70
          have hL73 : cab1 ∈ S1.1 := by rw [hS1]; exact List.mem_append_left _ hL_cab1
          have hf74 : S1.2 cab1 = aN (cy 0) 320 (fun _ => 0) := by rw [hS1]; exact (pnew_n (fun z : cab1 = st => hq_st (by rw [← z]; exact hL_cab1))).trans hf_cab1
          have hL75 : cab1 ∈ S4.1 := by rw [hS6]; exact hL73
          have hf76 : S4.2 cab1 = aN (cy 0) 320 (fun _ => 0) := by rw [hS6]; exact (pup_n (fun z : cab1 = st => hq_st (by rw [← z]; exact hL_cab1))).trans hf74
          refine p_calli (va_runV (As := [.ref st]) (rest := []) C.fix (e_X11_putBehindchk l D cy S4 H.size x st ch ln sl mk co ca su lt lk mb col con cor0 cor1 cor2 cor3 cor4 cob0 cob1 cal can car0 car1 car2 car3 car4 cab0 cab1 dN nN (degN dN 9) hL11 hf12 hL15 hf16 hL19 hf20 hL23 hf24 hL27 hf28 hL31 hf32 hL35 hf36 hL39 hf40 hL43 hf44 hL47 hf48 hL51 hf52 hL55 hf56 hL59 hf60 hL63 hf64 hL67 hf68 hL71 hf72 hL75 hf76 hL7 hf8 hne_col_lk hne_cal_lk hne_cor0_cor1 hne_mk_cor1 hne_car1_cor1 hne_cob1_cab1 hne_mk_car1 hne_mb_cab1 hne_cor0_car1 hne_car0_cor1 hne_car0_car1 hne_cab0_cab1 (by first | assumption | decide | omega)) (cwV 1 C.2.2.2.2.1 (gU_V mw_576 mw_577 mw_578 mw_2 (subU mw_579)) rfl rfl rfl hde_X11_check_V_0 ⟨Nat.le_of_ble_eq_true rfl, Nat.le_of_ble_eq_true rfl⟩) (p_preV C hw hL11 hf12 rfl) rfl rfl hl.1 rfl (lv_room (Nat.le_of_ble_eq_true rfl)) dX11_check_53 ⟨Nat.le_of_ble_eq_true rfl, Nat.le_of_ble_eq_true rfl⟩) hw hA (fun r78 S77 H locs hpost hw => ?_)
          obtain ⟨hr_, hS79, hfr80⟩ := hpost
          subst hr_
          refine vx_ret ?_
          refine W.widen (k := 1) (n := 6) (Nat.le_of_ble_eq_true rfl) (Nat.le_of_ble_eq_true rfl) ?_
          exact (p_iret C hw (⟨st, (by unfold okK; omega), rfl, (by simp only [hS79, hS6, hS1, pup, pnew, List.append_nil, List.append_assoc, List.cons_append, List.nil_append]), (fun a_ ha_ hn_0 hn_1 hn_2 hn_3 hn_4 hn_5 => ((hfr80 a_ (show a_ ∈ S4.1 from by rw [hS6]; exact (show a_ ∈ S1.1 from by rw [hS1]; exact List.mem_append_left _ ha_)) hn_0 hn_1 hn_2 hn_3 hn_4 hn_5).trans ((show S4.2 a_ = S1.2 a_ from by rw [hS6]; exact pup_n (fun z : a_ = st => hq_st (by rw [← z]; exact ha_))).trans (show S1.2 a_ = S.2 a_ from by rw [hS1]; exact pnew_n (fun z : a_ = st => hq_st (by rw [← z]; exact ha_))))))⟩) hr hlocks dX11_check_56)
        · skip
          exact x_throw (y := yX11_check) C hflags hw hE (kS := 9) (kT := 0) mw_119 mw_120 tIA_x rfl rfl (by decide) tIA_n tIA_g hl.1.symm dX11_check_33 dX11_check_36 dX11_check_37 dX11_check_39 dX11_check_42 htab (Nat.le_of_ble_eq_true rfl) (Nat.le_of_ble_eq_true rfl) (Nat.le_of_ble_eq_true rfl) (Nat.le_of_ble_eq_true rfl) hlocks (⟨rfl, (fun h => by unfold okK at h; omega), rfl⟩) (Nat.le_of_ble_eq_true rfl) (Nat.le_of_ble_eq_true rfl)
    · skip
      exact x_throw (y := yX11_check) C hflags hw hE (kS := 8) (kT := 0) mw_119 mw_120 tIA_x rfl rfl (by decide) tIA_n tIA_g hl.1.symm dX11_check_12 dX11_check_15 dX11_check_16 dX11_check_18 dX11_check_21 htab (Nat.le_of_ble_eq_true rfl) (Nat.le_of_ble_eq_true rfl) (Nat.le_of_ble_eq_true rfl) (Nat.le_of_ble_eq_true rfl) hlocks (⟨rfl, (fun h => by unfold okK at h; omega), rfl⟩) (Nat.le_of_ble_eq_true rfl) (Nat.le_of_ble_eq_true rfl)

theorem hde_X11_weave_V_0 : yX11_putBehind.cls = RX11 ∧ yX11_putBehind.cls ≠ "java/lang/invoke/MethodHandle" ∧ yX11_putBehind.cls ≠ "java/lang/invoke/VarHandle" ∧ (parseMethodDescriptor yX11_putBehind.desc).map (fun d => d.parameters.length) = some 1 := by decide +kernel
set_option maxHeartbeats 4000000 in
set_option maxRecDepth 100000 in
/-- weave -/
theorem e_X11_weave (l : Launch) (hflags : l.stackTraces = false) (D : va_G) (cy : Nat → ClassId) (ed : Nat) (S : pS) (sz : Nat) (x : Nat) (ch : Nat) (ln : Nat) (sl : Nat) (mk : Nat) (co : Nat) (ca : Nat) (su : Nat) (lt : Nat) (lk : Nat) (mb : Nat) (col : Nat) (con : Nat) (cor0 : Nat) (cor1 : Nat) (cor2 : Nat) (cor3 : Nat) (cor4 : Nat) (cob0 : Nat) (cob1 : Nat) (cal : Nat) (can : Nat) (car0 : Nat) (car1 : Nat) (car2 : Nat) (car3 : Nat) (car4 : Nat) (cab0 : Nat) (cab1 : Nat) (r9 : Int32) (c9 : Int32) (hL_x : x ∈ S.1) (hf_x : S.2 x = .inr (11, [.ref ch, .ref ln, .ref sl, .ref mk, .ref co, .ref ca, .ref su, .ref lt])) (hL_ch : ch ∈ S.1) (hf_ch : S.2 ch = .inr (2, [.ref lk, .int (nI 0)])) (hL_lk : lk ∈ S.1) (hf_lk : S.2 lk = aQ (cy 3) 4 (fun _ => none)) (hL_ln : ln ∈ S.1) (hf_ln : S.2 ln = .inr (6, [.int (nI 0), .int (nI 0), .int (nI 0), .int (nI 0)])) (hL_mk : mk ∈ S.1) (hf_mk : S.2 mk = .inr (8, [.ref mb, .int (nI 320)])) (hL_mb : mb ∈ S.1) (hf_mb : S.2 mb = aN (cy 0) 320 (fun _ => 0)) (hL_co : co ∈ S.1) (hf_co : S.2 co = .inr (5, [.ref col, .ref con])) (hL_col : col ∈ S.1) (hf_col : S.2 col = aQ (cy 2) 5 (va_up (va_up (va_up (va_up (va_up (fun _ => none) 0 (some cor0)) 1 (some cor1)) 2 (some cor2)) 3 (some cor3)) 4 (some cor4))) (hL_cor0 : cor0 ∈ S.1) (hf_cor0 : S.2 cor0 = .inr (8, [.ref cob0, .int (nI 0)])) (hL_cor1 : cor1 ∈ S.1) (hf_cor1 : S.2 cor1 = .inr (8, [.ref cob1, .int (nI 0)])) (hL_cob1 : cob1 ∈ S.1) (hf_cob1 : S.2 cob1 = aN (cy 0) 320 (fun _ => 0)) (hL_ca : ca ∈ S.1) (hf_ca : S.2 ca = .inr (5, [.ref cal, .ref can])) (hL_cal : cal ∈ S.1) (hf_cal : S.2 cal = aQ (cy 2) 5 (va_up (va_up (va_up (va_up (va_up (fun _ => none) 0 (some car0)) 1 (some car1)) 2 (some car2)) 3 (some car3)) 4 (some car4))) (hL_car0 : car0 ∈ S.1) (hf_car0 : S.2 car0 = .inr (8, [.ref cab0, .int (nI 0)])) (hL_cab0 : cab0 ∈ S.1) (hf_cab0 : S.2 cab0 = aN (cy 0) 32 (fun _ => 0)) (hL_car1 : car1 ∈ S.1) (hf_car1 : S.2 car1 = .inr (8, [.ref cab1, .int (nI 0)])) (hL_cab1 : cab1 ∈ S.1) (hf_cab1 : S.2 cab1 = aN (cy 0) 320 (fun _ => 0)) (hne_col_lk : col ≠ lk) (hne_cal_lk : cal ≠ lk) (hne_mk_cor1 : mk ≠ cor1) (hne_car1_cor1 : car1 ≠ cor1) (hne_cob1_cab1 : cob1 ≠ cab1) (hne_mk_car1 : mk ≠ car1) (hne_mb_cab1 : mb ≠ cab1) (hne_cor0_cor1 : cor0 ≠ cor1) (hne_cor0_car1 : cor0 ≠ car1) (hne_car0_cor1 : car0 ≠ cor1) (hne_car0_car1 : car0 ≠ car1) (hne_cab0_cab1 : cab0 ≠ cab1) : vx_Met l yX11_weave (Cond.code yX11_weave cX11_weave 3 (some .int) :: lwU) ({ frames := 7, cells := 1, slots := 6, locals := 152 }) (ePc D cy ed S sz [.ref x, .int r9, .int c9]) (pQi D cy S sz (fun r S' => ∃ (st : Nat), (okV r9 c9) ∧ r = (nI 0) ∧ S'.1 = S.1 ++ [st] ∧ (∀ a_, a_ ∈ S.1 → a_ ≠ lk → a_ ≠ ch → a_ ≠ cor1 → a_ ≠ car1 → a_ ≠ cab1 → a_ ≠ car0 → S'.2 a_ = S.2 a_))) (pX D S sz (fun E S' => (E = "java/lang/IllegalArgumentException" ∧ (¬ okV r9 c9) ∧ S = S'))) 1 6 (pA S sz) := by
  refine vx_ofW (cc := cX11_weave) (maxL := 3) (ret := (some .int)) (by decide) rfl ?_
  intro p e s m args below meth c s₁ B hml htab hv
  obtain ⟨rfl, rfl, C, hw, hA, hr, hlocks, hE⟩ := e_start B hml hv
  have hx := C.1
  have hb := C.2.1
  have hl := lv_entry ([.ref x, .int r9, .int c9]) (n := 3) (Nat.le_of_ble_eq_true rfl)
  rw [lg_entry_eq]
  generalize (lg_sl ([.ref x, .int r9, .int c9]) ++ List.replicate (3 - (lg_sl ([.ref x, .int r9, .int c9])).length) Slot.unset).toArray = ls at hl ⊢
  have hl : lv_has ls 3 [(0, .ref x), (1, .int r9), (2, .int c9)] := hl
  have hin_RX10 : ∀ w ∈ u_ws RX10 TX10 2, w ∈ (Cond.code yX11_weave cX11_weave 3 (some .int) :: lwU) := fun w h => mU (sub_RX10 w h)
  refine lv_iload_n hx hb dX11_weave_0 rfl (lv_at hl 1 rfl) ?_
  refine lv_iconst (v := nI 1) hx hb dX11_weave_1 (by decide) ?_
  refine z_icmp_lt (tgt := 22) hx hb rfl (nI_toInt (by first | decide | omega)) dX11_weave_2 (by decide) (fun h_2 => ?_) (fun h_2 => ?_)
  · skip
    exact x_throw (y := yX11_weave) C hflags hw hE (kS := 13) (kT := 0) mw_119 mw_120 tIA_x rfl rfl (by decide) tIA_n tIA_g hl.1.symm dX11_weave_22 dX11_weave_25 dX11_weave_26 dX11_weave_28 dX11_weave_31 htab (Nat.le_of_ble_eq_true rfl) (Nat.le_of_ble_eq_true rfl) (Nat.le_of_ble_eq_true rfl) (Nat.le_of_ble_eq_true rfl) hlocks (⟨rfl, (fun h => by unfold okV at h; omega), rfl⟩) (Nat.le_of_ble_eq_true rfl) (Nat.le_of_ble_eq_true rfl)
  · skip
    refine lv_iload_n hx hb dX11_weave_5 rfl (lv_at hl 1 rfl) ?_
    refine lv_bipush (v := nI 10) hx hb dX11_weave_6 (by decide) ?_
    refine z_icmp_gt (tgt := 22) hx hb rfl (nI_toInt (by first | decide | omega)) dX11_weave_8 (by decide) (fun h_8 => ?_) (fun h_8 => ?_)
    · skip
      exact x_throw (y := yX11_weave) C hflags hw hE (kS := 13) (kT := 0) mw_119 mw_120 tIA_x rfl rfl (by decide) tIA_n tIA_g hl.1.symm dX11_weave_22 dX11_weave_25 dX11_weave_26 dX11_weave_28 dX11_weave_31 htab (Nat.le_of_ble_eq_true rfl) (Nat.le_of_ble_eq_true rfl) (Nat.le_of_ble_eq_true rfl) (Nat.le_of_ble_eq_true rfl) hlocks (⟨rfl, (fun h => by unfold okV at h; omega), rfl⟩) (Nat.le_of_ble_eq_true rfl) (Nat.le_of_ble_eq_true rfl)
    · skip
      refine lv_iload_n hx hb dX11_weave_11 rfl (lv_at hl 2 rfl) ?_
      refine lv_iconst (v := nI 1) hx hb dX11_weave_12 (by decide) ?_
      refine z_icmp_lt (tgt := 22) hx hb rfl (nI_toInt (by first | decide | omega)) dX11_weave_13 (by decide) (fun h_13 => ?_) (fun h_13 => ?_)
      · skip
        exact x_throw (y := yX11_weave) C hflags hw hE (kS := 13) (kT := 0) mw_119 mw_120 tIA_x rfl rfl (by decide) tIA_n tIA_g hl.1.symm dX11_weave_22 dX11_weave_25 dX11_weave_26 dX11_weave_28 dX11_weave_31 htab (Nat.le_of_ble_eq_true rfl) (Nat.le_of_ble_eq_true rfl) (Nat.le_of_ble_eq_true rfl) (Nat.le_of_ble_eq_true rfl) hlocks (⟨rfl, (fun h => by unfold okV at h; omega), rfl⟩) (Nat.le_of_ble_eq_true rfl) (Nat.le_of_ble_eq_true rfl)
      · skip
        refine lv_iload_n hx hb dX11_weave_16 rfl (lv_at hl 2 rfl) ?_
        refine lv_bipush (v := nI 10) hx hb dX11_weave_17 (by decide) ?_
        refine z_icmp_le (tgt := 32) hx hb rfl (nI_toInt (by first | decide | omega)) dX11_weave_19 (by decide) (fun h_19 => ?_) (fun h_19 => ?_)
        · skip
          obtain ⟨rN, hr931, rfl, hr9i⟩ := z_nat (x := r9) (by omega)
          obtain ⟨cN, hc931, rfl, hc9i⟩ := z_nat (x := c9) (by omega)
          have hrc : rN * cN < 2 ^ 31 := Nat.lt_of_le_of_lt (Nat.mul_le_mul (show rN ≤ 10 by omega) (show cN ≤ 10 by omega)) (by decide)
          refine lv_aload_n hx hb dX11_weave_32 rfl (lv_at hl 0 rfl) ?_
          refine p_new C hw hA (ci := 10) (Cn := RX10) (T := TX10) (N := 2) (fs := [.int (nI 0), .int (nI 0)]) tyX10 tyX10_ok rfl hin_RX10 (mU mw_676) (mU mw_677) (mU mw_175) (fun j hj => by rcases (show j = 0 ∨ j = 1 by omega) with rfl | rfl <;> rfl) (Nat.le_of_ble_eq_true rfl) (Nat.le_of_ble_eq_true rfl) dX11_weave_33 (fun st H hq_st hw => ?_)
          obtain ⟨S1, hS1⟩ : ∃ z, z = pnew S st (.inr (10, [.int (nI 0), .int (nI 0)])) := ⟨_, rfl⟩
          replace hw : pW D (pA S s.heap.size) s.heap S1 H [] := by rw [hS1]; exact hw
          have hL2 : st ∈ S1.1 := by rw [hS1]; exact List.mem_append_right _ List.mem_cons_self
          have hf3 : S1.2 st = .inr (10, [.int (nI 0), .int (nI 0)]) := by rw [hS1]; exact pnew_s
          refine lv_dup hx hb dX11_weave_36 rfl ?_
          refine lv_iload_n hx hb dX11_weave_37 rfl (lv_at hl 1 rfl) ?_
          refine lv_iload_n hx hb dX11_weave_38 rfl (lv_at hl 2 rfl) ?_
          refine p_callv (va_runI (As := [.int (nI rN), .int (nI cN)]) (rest := [.ref st, .ref x]) C.fix (c_X10_init l D cy S1 H.size st 0 0 rN cN hL2 hf3) (cwI 2 C.2.2.2.2.1 (gU_sub sub_X10_init) rfl rfl rfl (C.2.2.2.2.1 (.initialized RX10) (mU mw_175)) (C.2.2.2.2.1 (.methodLink RX11 141 yX10_init) (mU mw_678)) (C.2.2.2.2.1 (.instanceMethod yX10_init) (mU mw_679)) rfl (by decide +kernel) ⟨Nat.le_of_ble_eq_true rfl, Nat.le_of_ble_eq_true rfl⟩) (p_preS C hw) rfl rfl hl.1 rfl (lv_room (Nat.le_of_ble_eq_true rfl)) dX11_weave_39 ⟨Nat.le_of_ble_eq_true rfl, Nat.le_of_ble_eq_true rfl⟩) hw hA (fun S4 H locs hpost hw => ?_)
          have hS_ := hpost
          have hS6 := hS_
          have hL7 : st ∈ S4.1 := by rw [hS6]; exact hL2
          have hf8 : S4.2 st = .inr (10, [.int (nI rN), .int (nI cN)]) := by rw [hS6]; exact pup_s
          have hL9 : x ∈ S1.1 := by rw [hS1]; exact List.mem_append_left _ hL_x
          have hf10 : S1.2 x = .inr (11, [.ref ch, .ref ln, .ref sl, .ref mk, .ref co, .ref ca, .ref su, .ref lt]) := by rw [hS1]; exact (pnew_n (fun z : x = st => hq_st (by rw [← z]; exact hL_x))).trans hf_x
          have hL11 : x ∈ S4.1 := by rw [hS6]; exact hL9
          have hf12 : S4.2 x = .inr (11, [.ref ch, .ref ln, .ref sl, .ref mk, .ref co, .ref ca, .ref su, .ref lt]) := by rw [hS6]; exact (pup_n (fun z : x = st => hq_st (by rw [← z]; exact hL_x))).trans hf10
          have hL13 : ch ∈ S1.1 := by rw [hS1]; exact List.mem_append_left _ hL_ch
          have hf14 : S1.2 ch = .inr (2, [.ref lk, .int (nI 0)]) := by rw [hS1]; exact (pnew_n (fun z : ch = st => hq_st (by rw [← z]; exact hL_ch))).trans hf_ch
          have hL15 : ch ∈ S4.1 := by rw [hS6]; exact hL13
          have hf16 : S4.2 ch = .inr (2, [.ref lk, .int (nI 0)]) := by rw [hS6]; exact (pup_n (fun z : ch = st => hq_st (by rw [← z]; exact hL_ch))).trans hf14
          have hL17 : lk ∈ S1.1 := by rw [hS1]; exact List.mem_append_left _ hL_lk
          have hf18 : S1.2 lk = aQ (cy 3) 4 (fun _ => none) := by rw [hS1]; exact (pnew_n (fun z : lk = st => hq_st (by rw [← z]; exact hL_lk))).trans hf_lk
          have hL19 : lk ∈ S4.1 := by rw [hS6]; exact hL17
          have hf20 : S4.2 lk = aQ (cy 3) 4 (fun _ => none) := by rw [hS6]; exact (pup_n (fun z : lk = st => hq_st (by rw [← z]; exact hL_lk))).trans hf18
          have hL21 : ln ∈ S1.1 := by rw [hS1]; exact List.mem_append_left _ hL_ln
          have hf22 : S1.2 ln = .inr (6, [.int (nI 0), .int (nI 0), .int (nI 0), .int (nI 0)]) := by rw [hS1]; exact (pnew_n (fun z : ln = st => hq_st (by rw [← z]; exact hL_ln))).trans hf_ln
          have hL23 : ln ∈ S4.1 := by rw [hS6]; exact hL21
          have hf24 : S4.2 ln = .inr (6, [.int (nI 0), .int (nI 0), .int (nI 0), .int (nI 0)]) := by rw [hS6]; exact (pup_n (fun z : ln = st => hq_st (by rw [← z]; exact hL_ln))).trans hf22
          have hL25 : mk ∈ S1.1 := by rw [hS1]; exact List.mem_append_left _ hL_mk
          have hf26 : S1.2 mk = .inr (8, [.ref mb, .int (nI 320)]) := by rw [hS1]; exact (pnew_n (fun z : mk = st => hq_st (by rw [← z]; exact hL_mk))).trans hf_mk
          have hL27 : mk ∈ S4.1 := by rw [hS6]; exact hL25
          have hf28 : S4.2 mk = .inr (8, [.ref mb, .int (nI 320)]) := by rw [hS6]; exact (pup_n (fun z : mk = st => hq_st (by rw [← z]; exact hL_mk))).trans hf26
          have hL29 : mb ∈ S1.1 := by rw [hS1]; exact List.mem_append_left _ hL_mb
          have hf30 : S1.2 mb = aN (cy 0) 320 (fun _ => 0) := by rw [hS1]; exact (pnew_n (fun z : mb = st => hq_st (by rw [← z]; exact hL_mb))).trans hf_mb
          have hL31 : mb ∈ S4.1 := by rw [hS6]; exact hL29
          have hf32 : S4.2 mb = aN (cy 0) 320 (fun _ => 0) := by rw [hS6]; exact (pup_n (fun z : mb = st => hq_st (by rw [← z]; exact hL_mb))).trans hf30
          have hL33 : co ∈ S1.1 := by rw [hS1]; exact List.mem_append_left _ hL_co
          have hf34 : S1.2 co = .inr (5, [.ref col, .ref con]) := by rw [hS1]; exact (pnew_n (fun z : co = st => hq_st (by rw [← z]; exact hL_co))).trans hf_co
          have hL35 : co ∈ S4.1 := by rw [hS6]; exact hL33
          have hf36 : S4.2 co = .inr (5, [.ref col, .ref con]) := by rw [hS6]; exact (pup_n (fun z : co = st => hq_st (by rw [← z]; exact hL_co))).trans hf34
          have hL37 : col ∈ S1.1 := by rw [hS1]; exact List.mem_append_left _ hL_col
          have hf38 : S1.2 col = aQ (cy 2) 5 (va_up (va_up (va_up (va_up (va_up (fun _ => none) 0 (some cor0)) 1 (some cor1)) 2 (some cor2)) 3 (some cor3)) 4 (some cor4)) := by rw [hS1]; exact (pnew_n (fun z : col = st => hq_st (by rw [← z]; exact hL_col))).trans hf_col
          have hL39 : col ∈ S4.1 := by rw [hS6]; exact hL37
          have hf40 : S4.2 col = aQ (cy 2) 5 (va_up (va_up (va_up (va_up (va_up (fun _ => none) 0 (some cor0)) 1 (some cor1)) 2 (some cor2)) 3 (some cor3)) 4 (some cor4)) := by rw [hS6]; exact (pup_n (fun z : col = st => hq_st (by rw [← z]; exact hL_col))).trans hf38
          have hL41 : cor0 ∈ S1.1 := by rw [hS1]; exact List.mem_append_left _ hL_cor0
          have hf42 : S1.2 cor0 = .inr (8, [.ref cob0, .int (nI 0)]) := by rw [hS1]; exact (pnew_n (fun z : cor0 = st => hq_st (by rw [← z]; exact hL_cor0))).trans hf_cor0
          have hL43 : cor0 ∈ S4.1 := by rw [hS6]; exact hL41
          have hf44 : S4.2 cor0 = .inr (8, [.ref cob0, .int (nI 0)]) := by rw [hS6]; exact (pup_n (fun z : cor0 = st => hq_st (by rw [← z]; exact hL_cor0))).trans hf42
          have hL45 : cor1 ∈ S1.1 := by rw [hS1]; exact List.mem_append_left _ hL_cor1
          have hf46 : S1.2 cor1 = .inr (8, [.ref cob1, .int (nI 0)]) := by rw [hS1]; exact (pnew_n (fun z : cor1 = st => hq_st (by rw [← z]; exact hL_cor1))).trans hf_cor1
          have hL47 : cor1 ∈ S4.1 := by rw [hS6]; exact hL45
          have hf48 : S4.2 cor1 = .inr (8, [.ref cob1, .int (nI 0)]) := by rw [hS6]; exact (pup_n (fun z : cor1 = st => hq_st (by rw [← z]; exact hL_cor1))).trans hf46
          have hL49 : cob1 ∈ S1.1 := by rw [hS1]; exact List.mem_append_left _ hL_cob1
          have hf50 : S1.2 cob1 = aN (cy 0) 320 (fun _ => 0) := by rw [hS1]; exact (pnew_n (fun z : cob1 = st => hq_st (by rw [← z]; exact hL_cob1))).trans hf_cob1
          have hL51 : cob1 ∈ S4.1 := by rw [hS6]; exact hL49
          have hf52 : S4.2 cob1 = aN (cy 0) 320 (fun _ => 0) := by rw [hS6]; exact (pup_n (fun z : cob1 = st => hq_st (by rw [← z]; exact hL_cob1))).trans hf50
          have hL53 : ca ∈ S1.1 := by rw [hS1]; exact List.mem_append_left _ hL_ca
          have hf54 : S1.2 ca = .inr (5, [.ref cal, .ref can]) := by rw [hS1]; exact (pnew_n (fun z : ca = st => hq_st (by rw [← z]; exact hL_ca))).trans hf_ca
          have hL55 : ca ∈ S4.1 := by rw [hS6]; exact hL53
          have hf56 : S4.2 ca = .inr (5, [.ref cal, .ref can]) := by rw [hS6]; exact (pup_n (fun z : ca = st => hq_st (by rw [← z]; exact hL_ca))).trans hf54
          have hL57 : cal ∈ S1.1 := by rw [hS1]; exact List.mem_append_left _ hL_cal
          have hf58 : S1.2 cal = aQ (cy 2) 5 (va_up (va_up (va_up (va_up (va_up (fun _ => none) 0 (some car0)) 1 (some car1)) 2 (some car2)) 3 (some car3)) 4 (some car4)) := by rw [hS1]; exact (pnew_n (fun z : cal = st => hq_st (by rw [← z]; exact hL_cal))).trans hf_cal
          have hL59 : cal ∈ S4.1 := by rw [hS6]; exact hL57
          have hf60 : S4.2 cal = aQ (cy 2) 5 (va_up (va_up (va_up (va_up (va_up (fun _ => none) 0 (some car0)) 1 (some car1)) 2 (some car2)) 3 (some car3)) 4 (some car4)) := by rw [hS6]; exact (pup_n (fun z : cal = st => hq_st (by rw [← z]; exact hL_cal))).trans hf58
          have hL61 : car0 ∈ S1.1 := by rw [hS1]; exact List.mem_append_left _ hL_car0
          have hf62 : S1.2 car0 = .inr (8, [.ref cab0, .int (nI 0)]) := by rw [hS1]; exact (pnew_n (fun z : car0 = st => hq_st (by rw [← z]; exact hL_car0))).trans hf_car0
          have hL63 : car0 ∈ S4.1 := by rw [hS6]; exact hL61
          have hf64 : S4.2 car0 = .inr (8, [.ref cab0, .int (nI 0)]) := by rw [hS6]; exact (pup_n (fun z : car0 = st => hq_st (by rw [← z]; exact hL_car0))).trans hf62
          have hL65 : cab0 ∈ S1.1 := by rw [hS1]; exact List.mem_append_left _ hL_cab0
          have hf66 : S1.2 cab0 = aN (cy 0) 32 (fun _ => 0) := by rw [hS1]; exact (pnew_n (fun z : cab0 = st => hq_st (by rw [← z]; exact hL_cab0))).trans hf_cab0
          have hL67 : cab0 ∈ S4.1 := by rw [hS6]; exact hL65
          have hf68 : S4.2 cab0 = aN (cy 0) 32 (fun _ => 0) := by rw [hS6]; exact (pup_n (fun z : cab0 = st => hq_st (by rw [← z]; exact hL_cab0))).trans hf66
          have hL69 : car1 ∈ S1.1 := by rw [hS1]; exact List.mem_append_left _ hL_car1
          have hf70 : S1.2 car1 = .inr (8, [.ref cab1, .int (nI 0)]) := by rw [hS1]; exact (pnew_n (fun z : car1 = st => hq_st (by rw [← z]; exact hL_car1))).trans hf_car1
          have hL71 : car1 ∈ S4.1 := by rw [hS6]; exact hL69
          have hf72 : S4.2 car1 = .inr (8, [.ref cab1, .int (nI 0)]) := by rw [hS6]; exact (pup_n (fun z : car1 = st => hq_st (by rw [← z]; exact hL_car1))).trans hf70
          have hL73 : cab1 ∈ S1.1 := by rw [hS1]; exact List.mem_append_left _ hL_cab1
          have hf74 : S1.2 cab1 = aN (cy 0) 320 (fun _ => 0) := by rw [hS1]; exact (pnew_n (fun z : cab1 = st => hq_st (by rw [← z]; exact hL_cab1))).trans hf_cab1
          have hL75 : cab1 ∈ S4.1 := by rw [hS6]; exact hL73
          have hf76 : S4.2 cab1 = aN (cy 0) 320 (fun _ => 0) := by rw [hS6]; exact (pup_n (fun z : cab1 = st => hq_st (by rw [← z]; exact hL_cab1))).trans hf74
          refine p_calli (va_runV (As := [.ref st]) (rest := []) C.fix (e_X11_putBehindwev l D cy S4 H.size x st ch ln sl mk co ca su lt lk mb col con cor0 cor1 cor2 cor3 cor4 cob0 cob1 cal can car0 car1 car2 car3 car4 cab0 cab1 rN cN hL11 hf12 hL15 hf16 hL19 hf20 hL23 hf24 hL27 hf28 hL31 hf32 hL35 hf36 hL39 hf40 hL43 hf44 hL47 hf48 hL51 hf52 hL55 hf56 hL59 hf60 hL63 hf64 hL67 hf68 hL71 hf72 hL75 hf76 hL7 hf8 hne_col_lk hne_cal_lk hne_mk_cor1 hne_car1_cor1 hne_cob1_cab1 hne_mk_car1 hne_mb_cab1 hne_cor0_cor1 hne_cor0_car1 hne_car0_cor1 hne_car0_car1 hne_cab0_cab1 (by first | assumption | decide | omega)) (cwV 1 C.2.2.2.2.1 (gU_V mw_576 mw_577 mw_578 mw_2 (subU mw_579)) rfl rfl rfl hde_X11_weave_V_0 ⟨Nat.le_of_ble_eq_true rfl, Nat.le_of_ble_eq_true rfl⟩) (p_preV C hw hL11 hf12 rfl) rfl rfl hl.1 rfl (lv_room (Nat.le_of_ble_eq_true rfl)) dX11_weave_42 ⟨Nat.le_of_ble_eq_true rfl, Nat.le_of_ble_eq_true rfl⟩) hw hA (fun r78 S77 H locs hpost hw => ?_)
          obtain ⟨hr_, hS79, hfr80⟩ := hpost
          subst hr_
          refine vx_ret ?_
          refine W.widen (k := 1) (n := 6) (Nat.le_of_ble_eq_true rfl) (Nat.le_of_ble_eq_true rfl) ?_
          exact (p_iret C hw (⟨st, (by unfold okV; omega), rfl, (by simp only [hS79, hS6, hS1, pup, pnew, List.append_nil, List.append_assoc, List.cons_append, List.nil_append]), (fun a_ ha_ hn_0 hn_1 hn_2 hn_3 hn_4 hn_5 => ((hfr80 a_ (show a_ ∈ S4.1 from by rw [hS6]; exact (show a_ ∈ S1.1 from by rw [hS1]; exact List.mem_append_left _ ha_)) hn_0 hn_1 hn_2 hn_3 hn_4 hn_5).trans ((show S4.2 a_ = S1.2 a_ from by rw [hS6]; exact pup_n (fun z : a_ = st => hq_st (by rw [← z]; exact ha_))).trans (show S1.2 a_ = S.2 a_ from by rw [hS1]; exact pnew_n (fun z : a_ = st => hq_st (by rw [← z]; exact ha_))))))⟩) hr hlocks dX11_weave_45)
        · skip
          exact x_throw (y := yX11_weave) C hflags hw hE (kS := 13) (kT := 0) mw_119 mw_120 tIA_x rfl rfl (by decide) tIA_n tIA_g hl.1.symm dX11_weave_22 dX11_weave_25 dX11_weave_26 dX11_weave_28 dX11_weave_31 htab (Nat.le_of_ble_eq_true rfl) (Nat.le_of_ble_eq_true rfl) (Nat.le_of_ble_eq_true rfl) (Nat.le_of_ble_eq_true rfl) hlocks (⟨rfl, (fun h => by unfold okV at h; omega), rfl⟩) (Nat.le_of_ble_eq_true rfl) (Nat.le_of_ble_eq_true rfl)

theorem hde_X11_block_S_0 : yX11_fits.cls ≠ "java/lang/invoke/MethodHandle" ∧ yX11_fits.cls ≠ "java/lang/invoke/VarHandle" ∧ (parseMethodDescriptor yX11_fits.desc).map (fun d => d.parameters.length) = some 2 := by decide +kernel
theorem hde_X11_block_V_1 : yX11_putBehind.cls = RX11 ∧ yX11_putBehind.cls ≠ "java/lang/invoke/MethodHandle" ∧ yX11_putBehind.cls ≠ "java/lang/invoke/VarHandle" ∧ (parseMethodDescriptor yX11_putBehind.desc).map (fun d => d.parameters.length) = some 1 := by decide +kernel
set_option maxHeartbeats 4000000 in
set_option maxRecDepth 100000 in
/-- block -/
theorem e_X11_block (l : Launch) (hflags : l.stackTraces = false) (D : va_G) (cy : Nat → ClassId) (ed : Nat) (S : pS) (sz : Nat) (x : Nat) (ch : Nat) (ln : Nat) (sl : Nat) (mk : Nat) (co : Nat) (ca : Nat) (su : Nat) (lt : Nat) (lk : Nat) (mb : Nat) (col : Nat) (con : Nat) (cor0 : Nat) (cor1 : Nat) (cor2 : Nat) (cor3 : Nat) (cor4 : Nat) (cob0 : Nat) (cob1 : Nat) (cal : Nat) (can : Nat) (car0 : Nat) (car1 : Nat) (car2 : Nat) (car3 : Nat) (car4 : Nat) (cab0 : Nat) (cab1 : Nat) (k : Int32) (n : Int32) (a1 : Int32) (a2 : Int32) (a3 : Int32) (a4 : Int32) (hL_x : x ∈ S.1) (hf_x : S.2 x = .inr (11, [.ref ch, .ref ln, .ref sl, .ref mk, .ref co, .ref ca, .ref su, .ref lt])) (hL_ch : ch ∈ S.1) (hf_ch : S.2 ch = .inr (2, [.ref lk, .int (nI 0)])) (hL_lk : lk ∈ S.1) (hf_lk : S.2 lk = aQ (cy 3) 4 (fun _ => none)) (hL_ln : ln ∈ S.1) (hf_ln : S.2 ln = .inr (6, [.int (nI 0), .int (nI 0), .int (nI 0), .int (nI 0)])) (hL_mk : mk ∈ S.1) (hf_mk : S.2 mk = .inr (8, [.ref mb, .int (nI 320)])) (hL_mb : mb ∈ S.1) (hf_mb : S.2 mb = aN (cy 0) 320 (fun _ => 0)) (hL_co : co ∈ S.1) (hf_co : S.2 co = .inr (5, [.ref col, .ref con])) (hL_col : col ∈ S.1) (hf_col : S.2 col = aQ (cy 2) 5 (va_up (va_up (va_up (va_up (va_up (fun _ => none) 0 (some cor0)) 1 (some cor1)) 2 (some cor2)) 3 (some cor3)) 4 (some cor4))) (hL_cor0 : cor0 ∈ S.1) (hf_cor0 : S.2 cor0 = .inr (8, [.ref cob0, .int (nI 0)])) (hL_cor1 : cor1 ∈ S.1) (hf_cor1 : S.2 cor1 = .inr (8, [.ref cob1, .int (nI 0)])) (hL_cob1 : cob1 ∈ S.1) (hf_cob1 : S.2 cob1 = aN (cy 0) 320 (fun _ => 0)) (hL_ca : ca ∈ S.1) (hf_ca : S.2 ca = .inr (5, [.ref cal, .ref can])) (hL_cal : cal ∈ S.1) (hf_cal : S.2 cal = aQ (cy 2) 5 (va_up (va_up (va_up (va_up (va_up (fun _ => none) 0 (some car0)) 1 (some car1)) 2 (some car2)) 3 (some car3)) 4 (some car4))) (hL_car0 : car0 ∈ S.1) (hf_car0 : S.2 car0 = .inr (8, [.ref cab0, .int (nI 0)])) (hL_cab0 : cab0 ∈ S.1) (hf_cab0 : S.2 cab0 = aN (cy 0) 32 (fun _ => 0)) (hL_car1 : car1 ∈ S.1) (hf_car1 : S.2 car1 = .inr (8, [.ref cab1, .int (nI 0)])) (hL_cab1 : cab1 ∈ S.1) (hf_cab1 : S.2 cab1 = aN (cy 0) 320 (fun _ => 0)) (hne_col_lk : col ≠ lk) (hne_cal_lk : cal ≠ lk) (hne_cor0_cor1 : cor0 ≠ cor1) (hne_mk_cor1 : mk ≠ cor1) (hne_car1_cor1 : car1 ≠ cor1) (hne_cob1_cab1 : cob1 ≠ cab1) (hne_mk_car1 : mk ≠ car1) (hne_mb_cab1 : mb ≠ cab1) (hne_cor0_car1 : cor0 ≠ car1) (hne_car0_cor1 : car0 ≠ cor1) (hne_car0_car1 : car0 ≠ car1) (hne_cab0_cab1 : cab0 ≠ cab1) : vx_Met l yX11_block (Cond.code yX11_block cX11_block 8 (some .int) :: lwU) ({ frames := 7, cells := 2, slots := 19, locals := 152 }) (ePc D cy ed S sz [.ref x, .int k, .int n, .int a1, .int a2, .int a3, .int a4]) (pQi D cy S sz (fun r S' => ∃ (st : Nat) (sw : Nat), (okB6 k n a1 a2 a3 a4) ∧ r = (nI 0) ∧ S'.1 = S.1 ++ [st, sw] ∧ (∀ a_, a_ ∈ S.1 → a_ ≠ lk → a_ ≠ ch → a_ ≠ cor1 → a_ ≠ car1 → a_ ≠ cab1 → a_ ≠ car0 → S'.2 a_ = S.2 a_))) (pX D S sz (fun E S' => (E = "java/lang/IllegalArgumentException" ∧ (¬ okB6 k n a1 a2 a3 a4) ∧ S = S'))) 2 19 (pA S sz) := by
  refine vx_ofW (cc := cX11_block) (maxL := 8) (ret := (some .int)) (by decide) rfl ?_
  intro p e s m args below meth c s₁ B hml htab hv
  obtain ⟨rfl, rfl, C, hw, hA, hr, hlocks, hE⟩ := e_start B hml hv
  have hx := C.1
  have hb := C.2.1
  have hl := lv_entry ([.ref x, .int k, .int n, .int a1, .int a2, .int a3, .int a4]) (n := 8) (Nat.le_of_ble_eq_true rfl)
  rw [lg_entry_eq]
  generalize (lg_sl ([.ref x, .int k, .int n, .int a1, .int a2, .int a3, .int a4]) ++ List.replicate (8 - (lg_sl ([.ref x, .int k, .int n, .int a1, .int a2, .int a3, .int a4])).length) Slot.unset).toArray = ls at hl ⊢
  have hl : lv_has ls 8 [(0, .ref x), (1, .int k), (2, .int n), (3, .int a1), (4, .int a2), (5, .int a3), (6, .int a4)] := hl
  have hin_RX0 : ∀ w ∈ u_ws RX0 TX0 3, w ∈ (Cond.code yX11_block cX11_block 8 (some .int) :: lwU) := fun w h => mU (sub_RX0 w h)
  refine lv_iload_n hx hb dX11_block_0 rfl (lv_at hl 1 rfl) ?_
  refine lv_iconst (v := nI 1) hx hb dX11_block_1 (by decide) ?_
  refine z_icmp_lt (tgt := 10) hx hb rfl (nI_toInt (by first | decide | omega)) dX11_block_2 (by decide) (fun h_2 => ?_) (fun h_2 => ?_)
  · skip
    exact x_throw (y := yX11_block) C hflags hw hE (kS := 5) (kT := 0) mw_119 mw_120 tIA_x rfl rfl (by decide) tIA_n tIA_g hl.1.symm dX11_block_10 dX11_block_13 dX11_block_14 dX11_block_16 dX11_block_19 htab (Nat.le_of_ble_eq_true rfl) (Nat.le_of_ble_eq_true rfl) (Nat.le_of_ble_eq_true rfl) (Nat.le_of_ble_eq_true rfl) hlocks (⟨rfl, (fun h => by have h1 := h.1; omega), rfl⟩) (Nat.le_of_ble_eq_true rfl) (Nat.le_of_ble_eq_true rfl)
  · skip
    refine lv_iload_n hx hb dX11_block_5 rfl (lv_at hl 1 rfl) ?_
    refine lv_iconst (v := nI 4) hx hb dX11_block_6 (by decide) ?_
    refine z_icmp_le (tgt := 20) hx hb rfl (nI_toInt (by first | decide | omega)) dX11_block_7 (by decide) (fun h_7 => ?_) (fun h_7 => ?_)
    · skip
      refine lv_iload_n hx hb dX11_block_20 rfl (lv_at hl 2 rfl) ?_
      refine lv_iload_n hx hb dX11_block_21 rfl (lv_at hl 1 rfl) ?_
      refine z_icmp_lt (tgt := 31) hx hb rfl rfl dX11_block_22 (by decide) (fun h_22 => ?_) (fun h_22 => ?_)
      · skip
        exact x_throw (y := yX11_block) C hflags hw hE (kS := 6) (kT := 0) mw_119 mw_120 tIA_x rfl rfl (by decide) tIA_n tIA_g hl.1.symm dX11_block_31 dX11_block_34 dX11_block_35 dX11_block_37 dX11_block_40 htab (Nat.le_of_ble_eq_true rfl) (Nat.le_of_ble_eq_true rfl) (Nat.le_of_ble_eq_true rfl) (Nat.le_of_ble_eq_true rfl) hlocks (⟨rfl, (fun h => by have h1 := h.2.1; omega), rfl⟩) (Nat.le_of_ble_eq_true rfl) (Nat.le_of_ble_eq_true rfl)
      · skip
        refine lv_iload_n hx hb dX11_block_25 rfl (lv_at hl 2 rfl) ?_
        refine lv_bipush (v := nI 10) hx hb dX11_block_26 (by decide) ?_
        refine z_icmp_le (tgt := 41) hx hb rfl (nI_toInt (by first | decide | omega)) dX11_block_28 (by decide) (fun h_28 => ?_) (fun h_28 => ?_)
        · skip
          obtain ⟨kN, hk31, rfl, hki⟩ := z_nat (x := k) (by omega)
          obtain ⟨nN, hn31, rfl, hni⟩ := z_nat (x := n) (by omega)
          have hn16 : nN ≤ 16 := by omega
          have hnn : (nI nN).toInt.toNat = nN := by rw [hni]; rfl
          refine lv_iload_n hx hb dX11_block_41 rfl (lv_at hl 3 rfl) ?_
          refine lv_iload_n hx hb dX11_block_42 rfl (lv_at hl 2 rfl) ?_
          refine p_calli (va_runS (As := [.int a1, .int (nI nN)]) (rest := []) C.fix (c_X11_fits l D cy S s.heap.size a1 nN (by first | assumption | decide | omega)) (va_cwS 2 C.2.2.2.2.1 (gU_S mw_123 mw_124 mw_2 sub_X11_fits) rfl rfl rfl hde_X11_block_S_0 ⟨Nat.le_of_ble_eq_true rfl, Nat.le_of_ble_eq_true rfl⟩) (p_preS C hw) rfl rfl hl.1 rfl (lv_room (Nat.le_of_ble_eq_true rfl)) dX11_block_43 ⟨Nat.le_of_ble_eq_true rfl, Nat.le_of_ble_eq_true rfl⟩) hw hA (fun r2 S1 H locs hpost hw => ?_)
          obtain ⟨hr_, hS_⟩ := hpost
          subst hr_
          subst hS_
          refine n_if_eq (tgt := 95) hx hb (by split <;> decide) dX11_block_46 (by decide) (fun h_46 => ?_) (fun h_46 => ?_)
          · skip
            have hf1 := fF_f hn16 h_46
            have hnok : ¬ okB6 (nI kN) (nI nN) a1 a2 a3 a4 := fun h => hf1 (by have h1 := h.2.2.1; rw [hnn] at h1; exact h1)
            refine lv_iconst (v := nI 0) hx hb dX11_block_95 (by decide) ?_
            refine lv_istore (lv' := [(7, .int (nI 0)), (0, .ref x), (1, .int (nI kN)), (2, .int (nI nN)), (3, .int a1), (4, .int a2), (5, .int a3), (6, .int a4)]) hx hb dX11_block_96 hl (by decide) rfl (fun ls hl => ?_)
            refine lv_iload hx hb dX11_block_98 (lv_at hl 0 rfl) ?_
            refine n_if_ne (tgt := 113) hx hb (by first | decide | omega) dX11_block_100 (by decide) (fun h_100 => ?_) (fun h_100 => ?_)
            · exact absurd h_100 (by first | decide | omega)
            · skip
              exact x_throw (y := yX11_block) C hflags hw hE (kS := 7) (kT := 0) mw_119 mw_120 tIA_x rfl rfl (by decide) tIA_n tIA_g hl.1.symm dX11_block_103 dX11_block_106 dX11_block_107 dX11_block_109 dX11_block_112 htab (Nat.le_of_ble_eq_true rfl) (Nat.le_of_ble_eq_true rfl) (Nat.le_of_ble_eq_true rfl) (Nat.le_of_ble_eq_true rfl) hlocks (⟨rfl, hnok, rfl⟩) (Nat.le_of_ble_eq_true rfl) (Nat.le_of_ble_eq_true rfl)
          · skip
            have hf1 := fF_t hn16 h_46
            refine lv_iload_n hx hb dX11_block_49 rfl (lv_at hl 1 rfl) ?_
            refine lv_iconst (v := nI 2) hx hb dX11_block_50 (by decide) ?_
            refine n_icmp_lt (tgt := 63) hx hb (by first | decide | omega) (by first | decide | omega) dX11_block_51 (by decide) (fun h_51 => ?_) (fun h_51 => ?_)
            · skip
              refine lv_iload_n hx hb dX11_block_63 rfl (lv_at hl 1 rfl) ?_
              refine lv_iconst (v := nI 3) hx hb dX11_block_64 (by decide) ?_
              refine n_icmp_lt (tgt := 77) hx hb (by first | decide | omega) (by first | decide | omega) dX11_block_65 (by decide) (fun h_65 => ?_) (fun h_65 => ?_)
              · skip
                refine lv_iload_n hx hb dX11_block_77 rfl (lv_at hl 1 rfl) ?_
                refine lv_iconst (v := nI 4) hx hb dX11_block_78 (by decide) ?_
                refine n_icmp_lt (tgt := 91) hx hb (by first | decide | omega) (by first | decide | omega) dX11_block_79 (by decide) (fun h_79 => ?_) (fun h_79 => ?_)
                · skip
                  refine lv_iconst (v := nI 1) hx hb dX11_block_91 (by decide) ?_
                  refine lv_goto (tgt := 96) hx hb dX11_block_92 (by decide) ?_
                  refine lv_istore (lv' := [(7, .int (nI 1)), (0, .ref x), (1, .int (nI kN)), (2, .int (nI nN)), (3, .int a1), (4, .int a2), (5, .int a3), (6, .int a4)]) hx hb dX11_block_96 hl (by decide) rfl (fun ls hl => ?_)
                  refine lv_iload hx hb dX11_block_98 (lv_at hl 0 rfl) ?_
                  refine n_if_ne (tgt := 113) hx hb (by first | decide | omega) dX11_block_100 (by decide) (fun h_100 => ?_) (fun h_100 => ?_)
                  · skip
                    refine lv_aload_n hx hb dX11_block_113 rfl (lv_at hl 1 rfl) ?_
                    refine p_new C hw hA (ci := 1) (Cn := RX0) (T := TX0) (N := 3) (fs := [.int (nI 0), .int (nI 0), .null]) tyX0 tyX0_ok rfl hin_RX0 (mU mw_619) (mU mw_620) (mU mw_146) (fun j hj => by rcases (show j = 0 ∨ j = 1 ∨ j = 2 by omega) with rfl | rfl | rfl <;> rfl) (Nat.le_of_ble_eq_true rfl) (Nat.le_of_ble_eq_true rfl) dX11_block_114 (fun st H hq_st hw => ?_)
                    obtain ⟨S3, hS3⟩ : ∃ z, z = pnew S st (.inr (1, [.int (nI 0), .int (nI 0), .null])) := ⟨_, rfl⟩
                    replace hw : pW D (pA S s.heap.size) s.heap S3 H locs := by rw [hS3]; exact hw
                    have hL4 : st ∈ S3.1 := by rw [hS3]; exact List.mem_append_right _ List.mem_cons_self
                    have hf5 : S3.2 st = .inr (1, [.int (nI 0), .int (nI 0), .null]) := by rw [hS3]; exact pnew_s
                    refine lv_dup hx hb dX11_block_117 rfl ?_
                    refine lv_iload_n hx hb dX11_block_118 rfl (lv_at hl 2 rfl) ?_
                    refine lv_iload_n hx hb dX11_block_119 rfl (lv_at hl 3 rfl) ?_
                    refine lv_iload_n hx hb dX11_block_120 rfl (lv_at hl 4 rfl) ?_
                    refine lv_iload hx hb dX11_block_121 (lv_at hl 5 rfl) ?_
                    refine lv_iload hx hb dX11_block_123 (lv_at hl 6 rfl) ?_
                    refine lv_iload hx hb dX11_block_125 (lv_at hl 7 rfl) ?_
                    refine p_callv (va_runI (As := [.int (nI kN), .int (nI nN), .int a1, .int a2, .int a3, .int a4]) (rest := [.ref st, .ref x]) C.fix (c_X0_init l D cy S3 H.size st 0 0 kN nN a1.toInt.toNat a2.toInt.toNat a3.toInt.toNat a4.toInt.toNat a1 a2 a3 a4 hL4 hf5 (by first | assumption | decide | omega) (fun _ => z_self hf1.1) (fun q => by first | exact z_self hf2.1 | (exfalso; omega)) (fun q => by first | exact z_self hf3.1 | (exfalso; omega)) (fun q => by first | exact z_self hf4.1 | (exfalso; omega))) (cwI 6 C.2.2.2.2.1 (gU_sub sub_X0_init) rfl rfl rfl (C.2.2.2.2.1 (.initialized RX0) (mU mw_146)) (C.2.2.2.2.1 (.methodLink RX11 114 yX0_init) (mU mw_621)) (C.2.2.2.2.1 (.instanceMethod yX0_init) (mU mw_622)) rfl (by decide +kernel) ⟨Nat.le_of_ble_eq_true rfl, Nat.le_of_ble_eq_true rfl⟩) (p_preS C hw) rfl rfl hl.1 rfl (lv_room (Nat.le_of_ble_eq_true rfl)) dX11_block_127 ⟨Nat.le_of_ble_eq_true rfl, Nat.le_of_ble_eq_true rfl⟩) hw hA (fun S6 H locs hpost hw => ?_)
                    obtain ⟨sw, hp8, hS_⟩ := hpost
                    obtain ⟨S9, hS9⟩ : ∃ z, z = pnew S3 sw (aN (cy 0) 16 (bwt kN a1.toInt.toNat a2.toInt.toNat a3.toInt.toNat a4.toInt.toNat 16)) := ⟨_, rfl⟩
                    rw [← hS9] at hS_
                    have hL10 : sw ∈ S9.1 := by rw [hS9]; exact List.mem_append_right _ List.mem_cons_self
                    have hf11 : S9.2 sw = aN (cy 0) 16 (bwt kN a1.toInt.toNat a2.toInt.toNat a3.toInt.toNat a4.toInt.toNat 16) := by rw [hS9]; exact pnew_s
                    have hL12 : st ∈ S9.1 := by rw [hS9]; exact List.mem_append_left _ hL4
                    have hf13 : S9.2 st = .inr (1, [.int (nI 0), .int (nI 0), .null]) := by rw [hS9]; exact (pnew_n (fun z : st = sw => hp8 (by rw [← z]; exact hL4))).trans hf5
                    have hS14 := hS_
                    have hL15 : st ∈ S6.1 := by rw [hS14]; exact hL12
                    have hf16 : S6.2 st = .inr (1, [.int (nI kN), .int (nI nN), .ref sw]) := by rw [hS14]; exact pup_s
                    have hL17 : x ∈ S3.1 := by rw [hS3]; exact List.mem_append_left _ hL_x
                    have hf18 : S3.2 x = .inr (11, [.ref ch, .ref ln, .ref sl, .ref mk, .ref co, .ref ca, .ref su, .ref lt]) := by rw [hS3]; exact (pnew_n (fun z : x = st => hq_st (by rw [← z]; exact hL_x))).trans hf_x
                    have hL19 : x ∈ S9.1 := by rw [hS9]; exact List.mem_append_left _ hL17
                    have hf20 : S9.2 x = .inr (11, [.ref ch, .ref ln, .ref sl, .ref mk, .ref co, .ref ca, .ref su, .ref lt]) := by rw [hS9]; exact (pnew_n (fun z : x = sw => hp8 (by rw [← z]; exact hL17))).trans hf18
                    have hL21 : x ∈ S6.1 := by rw [hS14]; exact hL19
                    have hf22 : S6.2 x = .inr (11, [.ref ch, .ref ln, .ref sl, .ref mk, .ref co, .ref ca, .ref su, .ref lt]) := by rw [hS14]; exact (pup_n (fun z : x = st => hq_st (by rw [← z]; exact hL_x))).trans hf20
                    have hL23 : ch ∈ S3.1 := by rw [hS3]; exact List.mem_append_left _ hL_ch
                    have hf24 : S3.2 ch = .inr (2, [.ref lk, .int (nI 0)]) := by rw [hS3]; exact (pnew_n (fun z : ch = st => hq_st (by rw [← z]; exact hL_ch))).trans hf_ch
                    have hL25 : ch ∈ S9.1 := by rw [hS9]; exact List.mem_append_left _ hL23
                    have hf26 : S9.2 ch = .inr (2, [.ref lk, .int (nI 0)]) := by rw [hS9]; exact (pnew_n (fun z : ch = sw => hp8 (by rw [← z]; exact hL23))).trans hf24
                    have hL27 : ch ∈ S6.1 := by rw [hS14]; exact hL25
                    have hf28 : S6.2 ch = .inr (2, [.ref lk, .int (nI 0)]) := by rw [hS14]; exact (pup_n (fun z : ch = st => hq_st (by rw [← z]; exact hL_ch))).trans hf26
                    have hL29 : lk ∈ S3.1 := by rw [hS3]; exact List.mem_append_left _ hL_lk
                    have hf30 : S3.2 lk = aQ (cy 3) 4 (fun _ => none) := by rw [hS3]; exact (pnew_n (fun z : lk = st => hq_st (by rw [← z]; exact hL_lk))).trans hf_lk
                    have hL31 : lk ∈ S9.1 := by rw [hS9]; exact List.mem_append_left _ hL29
                    have hf32 : S9.2 lk = aQ (cy 3) 4 (fun _ => none) := by rw [hS9]; exact (pnew_n (fun z : lk = sw => hp8 (by rw [← z]; exact hL29))).trans hf30
                    have hL33 : lk ∈ S6.1 := by rw [hS14]; exact hL31
                    have hf34 : S6.2 lk = aQ (cy 3) 4 (fun _ => none) := by rw [hS14]; exact (pup_n (fun z : lk = st => hq_st (by rw [← z]; exact hL_lk))).trans hf32
                    have hL35 : ln ∈ S3.1 := by rw [hS3]; exact List.mem_append_left _ hL_ln
                    have hf36 : S3.2 ln = .inr (6, [.int (nI 0), .int (nI 0), .int (nI 0), .int (nI 0)]) := by rw [hS3]; exact (pnew_n (fun z : ln = st => hq_st (by rw [← z]; exact hL_ln))).trans hf_ln
                    have hL37 : ln ∈ S9.1 := by rw [hS9]; exact List.mem_append_left _ hL35
                    have hf38 : S9.2 ln = .inr (6, [.int (nI 0), .int (nI 0), .int (nI 0), .int (nI 0)]) := by rw [hS9]; exact (pnew_n (fun z : ln = sw => hp8 (by rw [← z]; exact hL35))).trans hf36
                    have hL39 : ln ∈ S6.1 := by rw [hS14]; exact hL37
                    have hf40 : S6.2 ln = .inr (6, [.int (nI 0), .int (nI 0), .int (nI 0), .int (nI 0)]) := by rw [hS14]; exact (pup_n (fun z : ln = st => hq_st (by rw [← z]; exact hL_ln))).trans hf38
                    have hL41 : mk ∈ S3.1 := by rw [hS3]; exact List.mem_append_left _ hL_mk
                    have hf42 : S3.2 mk = .inr (8, [.ref mb, .int (nI 320)]) := by rw [hS3]; exact (pnew_n (fun z : mk = st => hq_st (by rw [← z]; exact hL_mk))).trans hf_mk
                    have hL43 : mk ∈ S9.1 := by rw [hS9]; exact List.mem_append_left _ hL41
                    have hf44 : S9.2 mk = .inr (8, [.ref mb, .int (nI 320)]) := by rw [hS9]; exact (pnew_n (fun z : mk = sw => hp8 (by rw [← z]; exact hL41))).trans hf42
                    have hL45 : mk ∈ S6.1 := by rw [hS14]; exact hL43
                    have hf46 : S6.2 mk = .inr (8, [.ref mb, .int (nI 320)]) := by rw [hS14]; exact (pup_n (fun z : mk = st => hq_st (by rw [← z]; exact hL_mk))).trans hf44
                    have hL47 : mb ∈ S3.1 := by rw [hS3]; exact List.mem_append_left _ hL_mb
                    have hf48 : S3.2 mb = aN (cy 0) 320 (fun _ => 0) := by rw [hS3]; exact (pnew_n (fun z : mb = st => hq_st (by rw [← z]; exact hL_mb))).trans hf_mb
                    have hL49 : mb ∈ S9.1 := by rw [hS9]; exact List.mem_append_left _ hL47
                    have hf50 : S9.2 mb = aN (cy 0) 320 (fun _ => 0) := by rw [hS9]; exact (pnew_n (fun z : mb = sw => hp8 (by rw [← z]; exact hL47))).trans hf48
                    have hL51 : mb ∈ S6.1 := by rw [hS14]; exact hL49
                    have hf52 : S6.2 mb = aN (cy 0) 320 (fun _ => 0) := by rw [hS14]; exact (pup_n (fun z : mb = st => hq_st (by rw [← z]; exact hL_mb))).trans hf50
                    have hL53 : co ∈ S3.1 := by rw [hS3]; exact List.mem_append_left _ hL_co
                    have hf54 : S3.2 co = .inr (5, [.ref col, .ref con]) := by rw [hS3]; exact (pnew_n (fun z : co = st => hq_st (by rw [← z]; exact hL_co))).trans hf_co
                    have hL55 : co ∈ S9.1 := by rw [hS9]; exact List.mem_append_left _ hL53
                    have hf56 : S9.2 co = .inr (5, [.ref col, .ref con]) := by rw [hS9]; exact (pnew_n (fun z : co = sw => hp8 (by rw [← z]; exact hL53))).trans hf54
                    have hL57 : co ∈ S6.1 := by rw [hS14]; exact hL55
                    have hf58 : S6.2 co = .inr (5, [.ref col, .ref con]) := by rw [hS14]; exact (pup_n (fun z : co = st => hq_st (by rw [← z]; exact hL_co))).trans hf56
                    have hL59 : col ∈ S3.1 := by rw [hS3]; exact List.mem_append_left _ hL_col
                    have hf60 : S3.2 col = aQ (cy 2) 5 (va_up (va_up (va_up (va_up (va_up (fun _ => none) 0 (some cor0)) 1 (some cor1)) 2 (some cor2)) 3 (some cor3)) 4 (some cor4)) := by rw [hS3]; exact (pnew_n (fun z : col = st => hq_st (by rw [← z]; exact hL_col))).trans hf_col
                    have hL61 : col ∈ S9.1 := by rw [hS9]; exact List.mem_append_left _ hL59
                    have hf62 : S9.2 col = aQ (cy 2) 5 (va_up (va_up (va_up (va_up (va_up (fun _ => none) 0 (some cor0)) 1 (some cor1)) 2 (some cor2)) 3 (some cor3)) 4 (some cor4)) := by rw [hS9]; exact (pnew_n (fun z : col = sw => hp8 (by rw [← z]; exact hL59))).trans hf60
                    have hL63 : col ∈ S6.1 := by rw [hS14]; exact hL61
                    have hf64 : S6.2 col = aQ (cy 2) 5 (va_up (va_up (va_up (va_up (va_up (fun _ => none) 0 (some cor0)) 1 (some cor1)) 2 (some cor2)) 3 (some cor3)) 4 (some cor4)) := by rw [hS14]; exact (pup_n (fun z : col = st => hq_st (by rw [← z]; exact hL_col))).trans hf62
                    have hL65 : cor0 ∈ S3.1 := by rw [hS3]; exact List.mem_append_left _ hL_cor0
                    have hf66 : S3.2 cor0 = .inr (8, [.ref cob0, .int (nI 0)]) := by rw [hS3]; exact (pnew_n (fun z : cor0 = st => hq_st (by rw [← z]; exact hL_cor0))).trans hf_cor0
                    have hL67 : cor0 ∈ S9.1 := by rw [hS9]; exact List.mem_append_left _ hL65
                    have hf68 : S9.2 cor0 = .inr (8, [.ref cob0, .int (nI 0)]) := by rw [hS9]; exact (pnew_n (fun z : cor0 = sw => hp8 (by rw [← z]; exact hL65))).trans hf66
                    have hL69 : cor0 ∈ S6.1 := by rw [hS14]; exact hL67
                    have hf70 : S6.2 cor0 = .inr (8, [.ref cob0, .int (nI 0)]) := by rw [hS14]; exact (pup_n (fun z : cor0 = st => hq_st (by rw [← z]; exact hL_cor0))).trans hf68
                    have hL71 : cor1 ∈ S3.1 := by rw [hS3]; exact List.mem_append_left _ hL_cor1
                    have hf72 : S3.2 cor1 = .inr (8, [.ref cob1, .int (nI 0)]) := by rw [hS3]; exact (pnew_n (fun z : cor1 = st => hq_st (by rw [← z]; exact hL_cor1))).trans hf_cor1
                    have hL73 : cor1 ∈ S9.1 := by rw [hS9]; exact List.mem_append_left _ hL71
                    have hf74 : S9.2 cor1 = .inr (8, [.ref cob1, .int (nI 0)]) := by rw [hS9]; exact (pnew_n (fun z : cor1 = sw => hp8 (by rw [← z]; exact hL71))).trans hf72
                    have hL75 : cor1 ∈ S6.1 := by rw [hS14]; exact hL73
                    have hf76 : S6.2 cor1 = .inr (8, [.ref cob1, .int (nI 0)]) := by rw [hS14]; exact (pup_n (fun z : cor1 = st => hq_st (by rw [← z]; exact hL_cor1))).trans hf74
                    have hL77 : cob1 ∈ S3.1 := by rw [hS3]; exact List.mem_append_left _ hL_cob1
                    have hf78 : S3.2 cob1 = aN (cy 0) 320 (fun _ => 0) := by rw [hS3]; exact (pnew_n (fun z : cob1 = st => hq_st (by rw [← z]; exact hL_cob1))).trans hf_cob1
                    have hL79 : cob1 ∈ S9.1 := by rw [hS9]; exact List.mem_append_left _ hL77
                    have hf80 : S9.2 cob1 = aN (cy 0) 320 (fun _ => 0) := by rw [hS9]; exact (pnew_n (fun z : cob1 = sw => hp8 (by rw [← z]; exact hL77))).trans hf78
                    have hL81 : cob1 ∈ S6.1 := by rw [hS14]; exact hL79
                    have hf82 : S6.2 cob1 = aN (cy 0) 320 (fun _ => 0) := by rw [hS14]; exact (pup_n (fun z : cob1 = st => hq_st (by rw [← z]; exact hL_cob1))).trans hf80
                    have hL83 : ca ∈ S3.1 := by rw [hS3]; exact List.mem_append_left _ hL_ca
                    have hf84 : S3.2 ca = .inr (5, [.ref cal, .ref can]) := by rw [hS3]; exact (pnew_n (fun z : ca = st => hq_st (by rw [← z]; exact hL_ca))).trans hf_ca
                    have hL85 : ca ∈ S9.1 := by rw [hS9]; exact List.mem_append_left _ hL83
                    have hf86 : S9.2 ca = .inr (5, [.ref cal, .ref can]) := by rw [hS9]; exact (pnew_n (fun z : ca = sw => hp8 (by rw [← z]; exact hL83))).trans hf84
                    have hL87 : ca ∈ S6.1 := by rw [hS14]; exact hL85
                    have hf88 : S6.2 ca = .inr (5, [.ref cal, .ref can]) := by rw [hS14]; exact (pup_n (fun z : ca = st => hq_st (by rw [← z]; exact hL_ca))).trans hf86
                    have hL89 : cal ∈ S3.1 := by rw [hS3]; exact List.mem_append_left _ hL_cal
                    have hf90 : S3.2 cal = aQ (cy 2) 5 (va_up (va_up (va_up (va_up (va_up (fun _ => none) 0 (some car0)) 1 (some car1)) 2 (some car2)) 3 (some car3)) 4 (some car4)) := by rw [hS3]; exact (pnew_n (fun z : cal = st => hq_st (by rw [← z]; exact hL_cal))).trans hf_cal
                    have hL91 : cal ∈ S9.1 := by rw [hS9]; exact List.mem_append_left _ hL89
                    have hf92 : S9.2 cal = aQ (cy 2) 5 (va_up (va_up (va_up (va_up (va_up (fun _ => none) 0 (some car0)) 1 (some car1)) 2 (some car2)) 3 (some car3)) 4 (some car4)) := by rw [hS9]; exact (pnew_n (fun z : cal = sw => hp8 (by rw [← z]; exact hL89))).trans hf90
                    have hL93 : cal ∈ S6.1 := by rw [hS14]; exact hL91
                    have hf94 : S6.2 cal = aQ (cy 2) 5 (va_up (va_up (va_up (va_up (va_up (fun _ => none) 0 (some car0)) 1 (some car1)) 2 (some car2)) 3 (some car3)) 4 (some car4)) := by rw [hS14]; exact (pup_n (fun z : cal = st => hq_st (by rw [← z]; exact hL_cal))).trans hf92
                    have hL95 : car0 ∈ S3.1 := by rw [hS3]; exact List.mem_append_left _ hL_car0
                    have hf96 : S3.2 car0 = .inr (8, [.ref cab0, .int (nI 0)]) := by rw [hS3]; exact (pnew_n (fun z : car0 = st => hq_st (by rw [← z]; exact hL_car0))).trans hf_car0
                    have hL97 : car0 ∈ S9.1 := by rw [hS9]; exact List.mem_append_left _ hL95
                    have hf98 : S9.2 car0 = .inr (8, [.ref cab0, .int (nI 0)]) := by rw [hS9]; exact (pnew_n (fun z : car0 = sw => hp8 (by rw [← z]; exact hL95))).trans hf96
                    have hL99 : car0 ∈ S6.1 := by rw [hS14]; exact hL97
                    have hf100 : S6.2 car0 = .inr (8, [.ref cab0, .int (nI 0)]) := by rw [hS14]; exact (pup_n (fun z : car0 = st => hq_st (by rw [← z]; exact hL_car0))).trans hf98
                    have hL101 : cab0 ∈ S3.1 := by rw [hS3]; exact List.mem_append_left _ hL_cab0
                    have hf102 : S3.2 cab0 = aN (cy 0) 32 (fun _ => 0) := by rw [hS3]; exact (pnew_n (fun z : cab0 = st => hq_st (by rw [← z]; exact hL_cab0))).trans hf_cab0
                    have hL103 : cab0 ∈ S9.1 := by rw [hS9]; exact List.mem_append_left _ hL101
                    have hf104 : S9.2 cab0 = aN (cy 0) 32 (fun _ => 0) := by rw [hS9]; exact (pnew_n (fun z : cab0 = sw => hp8 (by rw [← z]; exact hL101))).trans hf102
                    have hL105 : cab0 ∈ S6.1 := by rw [hS14]; exact hL103
                    have hf106 : S6.2 cab0 = aN (cy 0) 32 (fun _ => 0) := by rw [hS14]; exact (pup_n (fun z : cab0 = st => hq_st (by rw [← z]; exact hL_cab0))).trans hf104
                    have hL107 : car1 ∈ S3.1 := by rw [hS3]; exact List.mem_append_left _ hL_car1
                    have hf108 : S3.2 car1 = .inr (8, [.ref cab1, .int (nI 0)]) := by rw [hS3]; exact (pnew_n (fun z : car1 = st => hq_st (by rw [← z]; exact hL_car1))).trans hf_car1
                    have hL109 : car1 ∈ S9.1 := by rw [hS9]; exact List.mem_append_left _ hL107
                    have hf110 : S9.2 car1 = .inr (8, [.ref cab1, .int (nI 0)]) := by rw [hS9]; exact (pnew_n (fun z : car1 = sw => hp8 (by rw [← z]; exact hL107))).trans hf108
                    have hL111 : car1 ∈ S6.1 := by rw [hS14]; exact hL109
                    have hf112 : S6.2 car1 = .inr (8, [.ref cab1, .int (nI 0)]) := by rw [hS14]; exact (pup_n (fun z : car1 = st => hq_st (by rw [← z]; exact hL_car1))).trans hf110
                    have hL113 : cab1 ∈ S3.1 := by rw [hS3]; exact List.mem_append_left _ hL_cab1
                    have hf114 : S3.2 cab1 = aN (cy 0) 320 (fun _ => 0) := by rw [hS3]; exact (pnew_n (fun z : cab1 = st => hq_st (by rw [← z]; exact hL_cab1))).trans hf_cab1
                    have hL115 : cab1 ∈ S9.1 := by rw [hS9]; exact List.mem_append_left _ hL113
                    have hf116 : S9.2 cab1 = aN (cy 0) 320 (fun _ => 0) := by rw [hS9]; exact (pnew_n (fun z : cab1 = sw => hp8 (by rw [← z]; exact hL113))).trans hf114
                    have hL117 : cab1 ∈ S6.1 := by rw [hS14]; exact hL115
                    have hf118 : S6.2 cab1 = aN (cy 0) 320 (fun _ => 0) := by rw [hS14]; exact (pup_n (fun z : cab1 = st => hq_st (by rw [← z]; exact hL_cab1))).trans hf116
                    refine p_calli (va_runV (As := [.ref st]) (rest := []) C.fix (e_X11_putBehindblk l D cy S6 H.size x st ch ln sl mk co ca su lt lk mb col con cor0 cor1 cor2 cor3 cor4 cob0 cob1 cal can car0 car1 car2 car3 car4 cab0 cab1 sw kN nN hL21 hf22 hL27 hf28 hL33 hf34 hL39 hf40 hL45 hf46 hL51 hf52 hL57 hf58 hL63 hf64 hL69 hf70 hL75 hf76 hL81 hf82 hL87 hf88 hL93 hf94 hL99 hf100 hL105 hf106 hL111 hf112 hL117 hf118 hL15 hf16 hne_col_lk hne_cal_lk hne_cor0_cor1 hne_mk_cor1 hne_car1_cor1 hne_cob1_cab1 hne_mk_car1 hne_mb_cab1 hne_cor0_car1 hne_car0_cor1 hne_car0_car1 hne_cab0_cab1 (by first | assumption | decide | omega)) (cwV 1 C.2.2.2.2.1 (gU_V mw_576 mw_577 mw_578 mw_2 (subU mw_579)) rfl rfl rfl hde_X11_block_V_1 ⟨Nat.le_of_ble_eq_true rfl, Nat.le_of_ble_eq_true rfl⟩) (p_preV C hw hL21 hf22 rfl) rfl rfl hl.1 rfl (lv_room (Nat.le_of_ble_eq_true rfl)) dX11_block_130 ⟨Nat.le_of_ble_eq_true rfl, Nat.le_of_ble_eq_true rfl⟩) hw hA (fun r120 S119 H locs hpost hw => ?_)
                    obtain ⟨hr_, hS121, hfr122⟩ := hpost
                    subst hr_
                    refine vx_ret ?_
                    exact (p_iret C hw (⟨st, sw, ⟨⟨by omega, by omega⟩, ⟨by omega, by omega⟩, by rw [hnn]; exact hf1, (fun q => by rw [hnn]; first | exact hf2 | (exfalso; omega)), (fun q => by rw [hnn]; first | exact hf3 | (exfalso; omega)), (fun q => by rw [hnn]; first | exact hf4 | (exfalso; omega))⟩, rfl, (by simp only [hS121, hS14, hS9, hS3, pup, pnew, List.append_nil, List.append_assoc, List.cons_append, List.nil_append]), (fun a_ ha_ hn_0 hn_1 hn_2 hn_3 hn_4 hn_5 => ((hfr122 a_ (show a_ ∈ S6.1 from by rw [hS14]; exact (show a_ ∈ S9.1 from by rw [hS9]; exact List.mem_append_left _ (show a_ ∈ S3.1 from by rw [hS3]; exact List.mem_append_left _ ha_))) hn_0 hn_1 hn_2 hn_3 hn_4 hn_5).trans ((show S6.2 a_ = S9.2 a_ from by rw [hS14]; exact pup_n (fun z : a_ = st => hq_st (by rw [← z]; exact ha_))).trans ((show S9.2 a_ = S3.2 a_ from by rw [hS9]; exact pnew_n (fun z : a_ = sw => hp8 (by rw [← z]; exact (show a_ ∈ S3.1 from by rw [hS3]; exact List.mem_append_left _ ha_)))).trans (show S3.2 a_ = S.2 a_ from by rw [hS3]; exact pnew_n (fun z : a_ = st => hq_st (by rw [← z]; exact ha_)))))))⟩) hr hlocks dX11_block_133)
                  · exact absurd h_100 (by first | decide | omega)
                · skip
                  refine lv_iload hx hb dX11_block_82 (lv_at hl 6 rfl) ?_
                  refine lv_iload_n hx hb dX11_block_84 rfl (lv_at hl 2 rfl) ?_
                  refine p_calli (va_runS (As := [.int a4, .int (nI nN)]) (rest := []) C.fix (c_X11_fits l D cy S H.size a4 nN (by first | assumption | decide | omega)) (va_cwS 2 C.2.2.2.2.1 (gU_S mw_123 mw_124 mw_2 sub_X11_fits) rfl rfl rfl hde_X11_block_S_0 ⟨Nat.le_of_ble_eq_true rfl, Nat.le_of_ble_eq_true rfl⟩) (p_preS C hw) rfl rfl hl.1 rfl (lv_room (Nat.le_of_ble_eq_true rfl)) dX11_block_85 ⟨Nat.le_of_ble_eq_true rfl, Nat.le_of_ble_eq_true rfl⟩) hw hA (fun r124 S123 H locs hpost hw => ?_)
                  obtain ⟨hr_, hS_⟩ := hpost
                  subst hr_
                  subst hS_
                  refine n_if_eq (tgt := 95) hx hb (by split <;> decide) dX11_block_88 (by decide) (fun h_88 => ?_) (fun h_88 => ?_)
                  · skip
                    have hf4 := fF_f hn16 h_88
                    have hnok : ¬ okB6 (nI kN) (nI nN) a1 a2 a3 a4 := fun h => hf4 (by have h1 := h.2.2.2.2.2 (by omega); rw [hnn] at h1; exact h1)
                    refine lv_iconst (v := nI 0) hx hb dX11_block_95 (by decide) ?_
                    refine lv_istore (lv' := [(7, .int (nI 0)), (0, .ref x), (1, .int (nI kN)), (2, .int (nI nN)), (3, .int a1), (4, .int a2), (5, .int a3), (6, .int a4)]) hx hb dX11_block_96 hl (by decide) rfl (fun ls hl => ?_)
                    refine lv_iload hx hb dX11_block_98 (lv_at hl 0 rfl) ?_
                    refine n_if_ne (tgt := 113) hx hb (by first | decide | omega) dX11_block_100 (by decide) (fun h_100 => ?_) (fun h_100 => ?_)
                    · exact absurd h_100 (by first | decide | omega)
                    · skip
                      exact x_throw (y := yX11_block) C hflags hw hE (kS := 7) (kT := 0) mw_119 mw_120 tIA_x rfl rfl (by decide) tIA_n tIA_g hl.1.symm dX11_block_103 dX11_block_106 dX11_block_107 dX11_block_109 dX11_block_112 htab (Nat.le_of_ble_eq_true rfl) (Nat.le_of_ble_eq_true rfl) (Nat.le_of_ble_eq_true rfl) (Nat.le_of_ble_eq_true rfl) hlocks (⟨rfl, hnok, rfl⟩) (Nat.le_of_ble_eq_true rfl) (Nat.le_of_ble_eq_true rfl)
                  · skip
                    have hf4 := fF_t hn16 h_88
                    refine lv_iconst (v := nI 1) hx hb dX11_block_91 (by decide) ?_
                    refine lv_goto (tgt := 96) hx hb dX11_block_92 (by decide) ?_
                    refine lv_istore (lv' := [(7, .int (nI 1)), (0, .ref x), (1, .int (nI kN)), (2, .int (nI nN)), (3, .int a1), (4, .int a2), (5, .int a3), (6, .int a4)]) hx hb dX11_block_96 hl (by decide) rfl (fun ls hl => ?_)
                    refine lv_iload hx hb dX11_block_98 (lv_at hl 0 rfl) ?_
                    refine n_if_ne (tgt := 113) hx hb (by first | decide | omega) dX11_block_100 (by decide) (fun h_100 => ?_) (fun h_100 => ?_)
                    · skip
                      refine lv_aload_n hx hb dX11_block_113 rfl (lv_at hl 1 rfl) ?_
                      refine p_new C hw hA (ci := 1) (Cn := RX0) (T := TX0) (N := 3) (fs := [.int (nI 0), .int (nI 0), .null]) tyX0 tyX0_ok rfl hin_RX0 (mU mw_619) (mU mw_620) (mU mw_146) (fun j hj => by rcases (show j = 0 ∨ j = 1 ∨ j = 2 by omega) with rfl | rfl | rfl <;> rfl) (Nat.le_of_ble_eq_true rfl) (Nat.le_of_ble_eq_true rfl) dX11_block_114 (fun st H hq_st hw => ?_)
                      obtain ⟨S125, hS125⟩ : ∃ z, z = pnew S st (.inr (1, [.int (nI 0), .int (nI 0), .null])) := ⟨_, rfl⟩
                      replace hw : pW D (pA S s.heap.size) s.heap S125 H locs := by rw [hS125]; exact hw
                      have hL126 : st ∈ S125.1 := by rw [hS125]; exact List.mem_append_right _ List.mem_cons_self
                      have hf127 : S125.2 st = .inr (1, [.int (nI 0), .int (nI 0), .null]) := by rw [hS125]; exact pnew_s
                      refine lv_dup hx hb dX11_block_117 rfl ?_
                      refine lv_iload_n hx hb dX11_block_118 rfl (lv_at hl 2 rfl) ?_
                      refine lv_iload_n hx hb dX11_block_119 rfl (lv_at hl 3 rfl) ?_
                      refine lv_iload_n hx hb dX11_block_120 rfl (lv_at hl 4 rfl) ?_
                      refine lv_iload hx hb dX11_block_121 (lv_at hl 5 rfl) ?_
                      refine lv_iload hx hb dX11_block_123 (lv_at hl 6 rfl) ?_
                      refine lv_iload hx hb dX11_block_125 (lv_at hl 7 rfl) ?_
                      refine p_callv (va_runI (As := [.int (nI kN), .int (nI nN), .int a1, .int a2, .int a3, .int a4]) (rest := [.ref st, .ref x]) C.fix (c_X0_init l D cy S125 H.size st 0 0 kN nN a1.toInt.toNat a2.toInt.toNat a3.toInt.toNat a4.toInt.toNat a1 a2 a3 a4 hL126 hf127 (by first | assumption | decide | omega) (fun _ => z_self hf1.1) (fun q => by first | exact z_self hf2.1 | (exfalso; omega)) (fun q => by first | exact z_self hf3.1 | (exfalso; omega)) (fun q => by first | exact z_self hf4.1 | (exfalso; omega))) (cwI 6 C.2.2.2.2.1 (gU_sub sub_X0_init) rfl rfl rfl (C.2.2.2.2.1 (.initialized RX0) (mU mw_146)) (C.2.2.2.2.1 (.methodLink RX11 114 yX0_init) (mU mw_621)) (C.2.2.2.2.1 (.instanceMethod yX0_init) (mU mw_622)) rfl (by decide +kernel) ⟨Nat.le_of_ble_eq_true rfl, Nat.le_of_ble_eq_true rfl⟩) (p_preS C hw) rfl rfl hl.1 rfl (lv_room (Nat.le_of_ble_eq_true rfl)) dX11_block_127 ⟨Nat.le_of_ble_eq_true rfl, Nat.le_of_ble_eq_true rfl⟩) hw hA (fun S128 H locs hpost hw => ?_)
                      obtain ⟨sw, hp130, hS_⟩ := hpost
                      obtain ⟨S131, hS131⟩ : ∃ z, z = pnew S125 sw (aN (cy 0) 16 (bwt kN a1.toInt.toNat a2.toInt.toNat a3.toInt.toNat a4.toInt.toNat 16)) := ⟨_, rfl⟩
                      rw [← hS131] at hS_
                      have hL132 : sw ∈ S131.1 := by rw [hS131]; exact List.mem_append_right _ List.mem_cons_self
                      have hf133 : S131.2 sw = aN (cy 0) 16 (bwt kN a1.toInt.toNat a2.toInt.toNat a3.toInt.toNat a4.toInt.toNat 16) := by rw [hS131]; exact pnew_s
                      have hL134 : st ∈ S131.1 := by rw [hS131]; exact List.mem_append_left _ hL126
                      have hf135 : S131.2 st = .inr (1, [.int (nI 0), .int (nI 0), .null]) := by rw [hS131]; exact (pnew_n (fun z : st = sw => hp130 (by rw [← z]; exact hL126))).trans hf127
                      have hS136 := hS_
                      have hL137 : st ∈ S128.1 := by rw [hS136]; exact hL134
                      have hf138 : S128.2 st = .inr (1, [.int (nI kN), .int (nI nN), .ref sw]) := by rw [hS136]; exact pup_s
                      have hL139 : x ∈ S125.1 := by rw [hS125]; exact List.mem_append_left _ hL_x
                      have hf140 : S125.2 x = .inr (11, [.ref ch, .ref ln, .ref sl, .ref mk, .ref co, .ref ca, .ref su, .ref lt]) := by rw [hS125]; exact (pnew_n (fun z : x = st => hq_st (by rw [← z]; exact hL_x))).trans hf_x
                      have hL141 : x ∈ S131.1 := by rw [hS131]; exact List.mem_append_left _ hL139
                      have hf142 : S131.2 x = .inr (11, [.ref ch, .ref ln, .ref sl, .ref mk, .ref co, .ref ca, .ref su, .ref lt]) := by rw [hS131]; exact (pnew_n (fun z : x = sw => hp130 (by rw [← z]; exact hL139))).trans hf140
                      have hL143 : x ∈ S128.1 := by rw [hS136]; exact hL141
                      have hf144 : S128.2 x = .inr (11, [.ref ch, .ref ln, .ref sl, .ref mk, .ref co, .ref ca, .ref su, .ref lt]) := by rw [hS136]; exact (pup_n (fun z : x = st => hq_st (by rw [← z]; exact hL_x))).trans hf142
                      have hL145 : ch ∈ S125.1 := by rw [hS125]; exact List.mem_append_left _ hL_ch
                      have hf146 : S125.2 ch = .inr (2, [.ref lk, .int (nI 0)]) := by rw [hS125]; exact (pnew_n (fun z : ch = st => hq_st (by rw [← z]; exact hL_ch))).trans hf_ch
                      have hL147 : ch ∈ S131.1 := by rw [hS131]; exact List.mem_append_left _ hL145
                      have hf148 : S131.2 ch = .inr (2, [.ref lk, .int (nI 0)]) := by rw [hS131]; exact (pnew_n (fun z : ch = sw => hp130 (by rw [← z]; exact hL145))).trans hf146
                      have hL149 : ch ∈ S128.1 := by rw [hS136]; exact hL147
                      have hf150 : S128.2 ch = .inr (2, [.ref lk, .int (nI 0)]) := by rw [hS136]; exact (pup_n (fun z : ch = st => hq_st (by rw [← z]; exact hL_ch))).trans hf148
                      have hL151 : lk ∈ S125.1 := by rw [hS125]; exact List.mem_append_left _ hL_lk
                      have hf152 : S125.2 lk = aQ (cy 3) 4 (fun _ => none) := by rw [hS125]; exact (pnew_n (fun z : lk = st => hq_st (by rw [← z]; exact hL_lk))).trans hf_lk
                      have hL153 : lk ∈ S131.1 := by rw [hS131]; exact List.mem_append_left _ hL151
                      have hf154 : S131.2 lk = aQ (cy 3) 4 (fun _ => none) := by rw [hS131]; exact (pnew_n (fun z : lk = sw => hp130 (by rw [← z]; exact hL151))).trans hf152
                      have hL155 : lk ∈ S128.1 := by rw [hS136]; exact hL153
                      have hf156 : S128.2 lk = aQ (cy 3) 4 (fun _ => none) := by rw [hS136]; exact (pup_n (fun z : lk = st => hq_st (by rw [← z]; exact hL_lk))).trans hf154
                      have hL157 : ln ∈ S125.1 := by rw [hS125]; exact List.mem_append_left _ hL_ln
                      have hf158 : S125.2 ln = .inr (6, [.int (nI 0), .int (nI 0), .int (nI 0), .int (nI 0)]) := by rw [hS125]; exact (pnew_n (fun z : ln = st => hq_st (by rw [← z]; exact hL_ln))).trans hf_ln
                      have hL159 : ln ∈ S131.1 := by rw [hS131]; exact List.mem_append_left _ hL157
                      have hf160 : S131.2 ln = .inr (6, [.int (nI 0), .int (nI 0), .int (nI 0), .int (nI 0)]) := by rw [hS131]; exact (pnew_n (fun z : ln = sw => hp130 (by rw [← z]; exact hL157))).trans hf158
                      have hL161 : ln ∈ S128.1 := by rw [hS136]; exact hL159
                      have hf162 : S128.2 ln = .inr (6, [.int (nI 0), .int (nI 0), .int (nI 0), .int (nI 0)]) := by rw [hS136]; exact (pup_n (fun z : ln = st => hq_st (by rw [← z]; exact hL_ln))).trans hf160
                      have hL163 : mk ∈ S125.1 := by rw [hS125]; exact List.mem_append_left _ hL_mk
                      have hf164 : S125.2 mk = .inr (8, [.ref mb, .int (nI 320)]) := by rw [hS125]; exact (pnew_n (fun z : mk = st => hq_st (by rw [← z]; exact hL_mk))).trans hf_mk
                      have hL165 : mk ∈ S131.1 := by rw [hS131]; exact List.mem_append_left _ hL163
                      have hf166 : S131.2 mk = .inr (8, [.ref mb, .int (nI 320)]) := by rw [hS131]; exact (pnew_n (fun z : mk = sw => hp130 (by rw [← z]; exact hL163))).trans hf164
                      have hL167 : mk ∈ S128.1 := by rw [hS136]; exact hL165
                      have hf168 : S128.2 mk = .inr (8, [.ref mb, .int (nI 320)]) := by rw [hS136]; exact (pup_n (fun z : mk = st => hq_st (by rw [← z]; exact hL_mk))).trans hf166
                      have hL169 : mb ∈ S125.1 := by rw [hS125]; exact List.mem_append_left _ hL_mb
                      have hf170 : S125.2 mb = aN (cy 0) 320 (fun _ => 0) := by rw [hS125]; exact (pnew_n (fun z : mb = st => hq_st (by rw [← z]; exact hL_mb))).trans hf_mb
                      have hL171 : mb ∈ S131.1 := by rw [hS131]; exact List.mem_append_left _ hL169
                      have hf172 : S131.2 mb = aN (cy 0) 320 (fun _ => 0) := by rw [hS131]; exact (pnew_n (fun z : mb = sw => hp130 (by rw [← z]; exact hL169))).trans hf170
                      have hL173 : mb ∈ S128.1 := by rw [hS136]; exact hL171
                      have hf174 : S128.2 mb = aN (cy 0) 320 (fun _ => 0) := by rw [hS136]; exact (pup_n (fun z : mb = st => hq_st (by rw [← z]; exact hL_mb))).trans hf172
                      have hL175 : co ∈ S125.1 := by rw [hS125]; exact List.mem_append_left _ hL_co
                      have hf176 : S125.2 co = .inr (5, [.ref col, .ref con]) := by rw [hS125]; exact (pnew_n (fun z : co = st => hq_st (by rw [← z]; exact hL_co))).trans hf_co
                      have hL177 : co ∈ S131.1 := by rw [hS131]; exact List.mem_append_left _ hL175
                      have hf178 : S131.2 co = .inr (5, [.ref col, .ref con]) := by rw [hS131]; exact (pnew_n (fun z : co = sw => hp130 (by rw [← z]; exact hL175))).trans hf176
                      have hL179 : co ∈ S128.1 := by rw [hS136]; exact hL177
                      have hf180 : S128.2 co = .inr (5, [.ref col, .ref con]) := by rw [hS136]; exact (pup_n (fun z : co = st => hq_st (by rw [← z]; exact hL_co))).trans hf178
                      have hL181 : col ∈ S125.1 := by rw [hS125]; exact List.mem_append_left _ hL_col
                      have hf182 : S125.2 col = aQ (cy 2) 5 (va_up (va_up (va_up (va_up (va_up (fun _ => none) 0 (some cor0)) 1 (some cor1)) 2 (some cor2)) 3 (some cor3)) 4 (some cor4)) := by rw [hS125]; exact (pnew_n (fun z : col = st => hq_st (by rw [← z]; exact hL_col))).trans hf_col
                      have hL183 : col ∈ S131.1 := by rw [hS131]; exact List.mem_append_left _ hL181
                      have hf184 : S131.2 col = aQ (cy 2) 5 (va_up (va_up (va_up (va_up (va_up (fun _ => none) 0 (some cor0)) 1 (some cor1)) 2 (some cor2)) 3 (some cor3)) 4 (some cor4)) := by rw [hS131]; exact (pnew_n (fun z : col = sw => hp130 (by rw [← z]; exact hL181))).trans hf182
                      have hL185 : col ∈ S128.1 := by rw [hS136]; exact hL183
                      have hf186 : S128.2 col = aQ (cy 2) 5 (va_up (va_up (va_up (va_up (va_up (fun _ => none) 0 (some cor0)) 1 (some cor1)) 2 (some cor2)) 3 (some cor3)) 4 (some cor4)) := by rw [hS136]; exact (pup_n (fun z : col = st => hq_st (by rw [← z]; exact hL_col))).trans hf184
                      have hL187 : cor0 ∈ S125.1 := by rw [hS125]; exact List.mem_append_left _ hL_cor0
                      have hf188 : S125.2 cor0 = .inr (8, [.ref cob0, .int (nI 0)]) := by rw [hS125]; exact (pnew_n (fun z : cor0 = st => hq_st (by rw [← z]; exact hL_cor0))).trans hf_cor0
                      have hL189 : cor0 ∈ S131.1 := by rw [hS131]; exact List.mem_append_left _ hL187
                      have hf190 : S131.2 cor0 = .inr (8, [.ref cob0, .int (nI 0)]) := by rw [hS131]; exact (pnew_n (fun z : cor0 = sw => hp130 (by rw [← z]; exact hL187))).trans hf188
                      have hL191 : cor0 ∈ S128.1 := by rw [hS136]; exact hL189
                      have hf192 : S128.2 cor0 = .inr (8, [.ref cob0, .int (nI 0)]) := by rw [hS136]; exact (pup_n (fun z : cor0 = st => hq_st (by rw [← z]; exact hL_cor0))).trans hf190
                      have hL193 : cor1 ∈ S125.1 := by rw [hS125]; exact List.mem_append_left _ hL_cor1
                      have hf194 : S125.2 cor1 = .inr (8, [.ref cob1, .int (nI 0)]) := by rw [hS125]; exact (pnew_n (fun z : cor1 = st => hq_st (by rw [← z]; exact hL_cor1))).trans hf_cor1
                      have hL195 : cor1 ∈ S131.1 := by rw [hS131]; exact List.mem_append_left _ hL193
                      have hf196 : S131.2 cor1 = .inr (8, [.ref cob1, .int (nI 0)]) := by rw [hS131]; exact (pnew_n (fun z : cor1 = sw => hp130 (by rw [← z]; exact hL193))).trans hf194
                      have hL197 : cor1 ∈ S128.1 := by rw [hS136]; exact hL195
                      have hf198 : S128.2 cor1 = .inr (8, [.ref cob1, .int (nI 0)]) := by rw [hS136]; exact (pup_n (fun z : cor1 = st => hq_st (by rw [← z]; exact hL_cor1))).trans hf196
                      have hL199 : cob1 ∈ S125.1 := by rw [hS125]; exact List.mem_append_left _ hL_cob1
                      have hf200 : S125.2 cob1 = aN (cy 0) 320 (fun _ => 0) := by rw [hS125]; exact (pnew_n (fun z : cob1 = st => hq_st (by rw [← z]; exact hL_cob1))).trans hf_cob1
                      have hL201 : cob1 ∈ S131.1 := by rw [hS131]; exact List.mem_append_left _ hL199
                      have hf202 : S131.2 cob1 = aN (cy 0) 320 (fun _ => 0) := by rw [hS131]; exact (pnew_n (fun z : cob1 = sw => hp130 (by rw [← z]; exact hL199))).trans hf200
                      have hL203 : cob1 ∈ S128.1 := by rw [hS136]; exact hL201
                      have hf204 : S128.2 cob1 = aN (cy 0) 320 (fun _ => 0) := by rw [hS136]; exact (pup_n (fun z : cob1 = st => hq_st (by rw [← z]; exact hL_cob1))).trans hf202
                      have hL205 : ca ∈ S125.1 := by rw [hS125]; exact List.mem_append_left _ hL_ca
                      have hf206 : S125.2 ca = .inr (5, [.ref cal, .ref can]) := by rw [hS125]; exact (pnew_n (fun z : ca = st => hq_st (by rw [← z]; exact hL_ca))).trans hf_ca
                      have hL207 : ca ∈ S131.1 := by rw [hS131]; exact List.mem_append_left _ hL205
                      have hf208 : S131.2 ca = .inr (5, [.ref cal, .ref can]) := by rw [hS131]; exact (pnew_n (fun z : ca = sw => hp130 (by rw [← z]; exact hL205))).trans hf206
                      have hL209 : ca ∈ S128.1 := by rw [hS136]; exact hL207
                      have hf210 : S128.2 ca = .inr (5, [.ref cal, .ref can]) := by rw [hS136]; exact (pup_n (fun z : ca = st => hq_st (by rw [← z]; exact hL_ca))).trans hf208
                      have hL211 : cal ∈ S125.1 := by rw [hS125]; exact List.mem_append_left _ hL_cal
                      have hf212 : S125.2 cal = aQ (cy 2) 5 (va_up (va_up (va_up (va_up (va_up (fun _ => none) 0 (some car0)) 1 (some car1)) 2 (some car2)) 3 (some car3)) 4 (some car4)) := by rw [hS125]; exact (pnew_n (fun z : cal = st => hq_st (by rw [← z]; exact hL_cal))).trans hf_cal
                      have hL213 : cal ∈ S131.1 := by rw [hS131]; exact List.mem_append_left _ hL211
                      have hf214 : S131.2 cal = aQ (cy 2) 5 (va_up (va_up (va_up (va_up (va_up (fun _ => none) 0 (some car0)) 1 (some car1)) 2 (some car2)) 3 (some car3)) 4 (some car4)) := by rw [hS131]; exact (pnew_n (fun z : cal = sw => hp130 (by rw [← z]; exact hL211))).trans hf212
                      have hL215 : cal ∈ S128.1 := by rw [hS136]; exact hL213
                      have hf216 : S128.2 cal = aQ (cy 2) 5 (va_up (va_up (va_up (va_up (va_up (fun _ => none) 0 (some car0)) 1 (some car1)) 2 (some car2)) 3 (some car3)) 4 (some car4)) := by rw [hS136]; exact (pup_n (fun z : cal = st => hq_st (by rw [← z]; exact hL_cal))).trans hf214
                      have hL217 : car0 ∈ S125.1 := by rw [hS125]; exact List.mem_append_left _ hL_car0
                      have hf218 : S125.2 car0 = .inr (8, [.ref cab0, .int (nI 0)]) := by rw [hS125]; exact (pnew_n (fun z : car0 = st => hq_st (by rw [← z]; exact hL_car0))).trans hf_car0
                      have hL219 : car0 ∈ S131.1 := by rw [hS131]; exact List.mem_append_left _ hL217
                      have hf220 : S131.2 car0 = .inr (8, [.ref cab0, .int (nI 0)]) := by rw [hS131]; exact (pnew_n (fun z : car0 = sw => hp130 (by rw [← z]; exact hL217))).trans hf218
                      have hL221 : car0 ∈ S128.1 := by rw [hS136]; exact hL219
                      have hf222 : S128.2 car0 = .inr (8, [.ref cab0, .int (nI 0)]) := by rw [hS136]; exact (pup_n (fun z : car0 = st => hq_st (by rw [← z]; exact hL_car0))).trans hf220
                      have hL223 : cab0 ∈ S125.1 := by rw [hS125]; exact List.mem_append_left _ hL_cab0
                      have hf224 : S125.2 cab0 = aN (cy 0) 32 (fun _ => 0) := by rw [hS125]; exact (pnew_n (fun z : cab0 = st => hq_st (by rw [← z]; exact hL_cab0))).trans hf_cab0
                      have hL225 : cab0 ∈ S131.1 := by rw [hS131]; exact List.mem_append_left _ hL223
                      have hf226 : S131.2 cab0 = aN (cy 0) 32 (fun _ => 0) := by rw [hS131]; exact (pnew_n (fun z : cab0 = sw => hp130 (by rw [← z]; exact hL223))).trans hf224
                      have hL227 : cab0 ∈ S128.1 := by rw [hS136]; exact hL225
                      have hf228 : S128.2 cab0 = aN (cy 0) 32 (fun _ => 0) := by rw [hS136]; exact (pup_n (fun z : cab0 = st => hq_st (by rw [← z]; exact hL_cab0))).trans hf226
                      have hL229 : car1 ∈ S125.1 := by rw [hS125]; exact List.mem_append_left _ hL_car1
                      have hf230 : S125.2 car1 = .inr (8, [.ref cab1, .int (nI 0)]) := by rw [hS125]; exact (pnew_n (fun z : car1 = st => hq_st (by rw [← z]; exact hL_car1))).trans hf_car1
                      have hL231 : car1 ∈ S131.1 := by rw [hS131]; exact List.mem_append_left _ hL229
                      have hf232 : S131.2 car1 = .inr (8, [.ref cab1, .int (nI 0)]) := by rw [hS131]; exact (pnew_n (fun z : car1 = sw => hp130 (by rw [← z]; exact hL229))).trans hf230
                      have hL233 : car1 ∈ S128.1 := by rw [hS136]; exact hL231
                      have hf234 : S128.2 car1 = .inr (8, [.ref cab1, .int (nI 0)]) := by rw [hS136]; exact (pup_n (fun z : car1 = st => hq_st (by rw [← z]; exact hL_car1))).trans hf232
                      have hL235 : cab1 ∈ S125.1 := by rw [hS125]; exact List.mem_append_left _ hL_cab1
                      have hf236 : S125.2 cab1 = aN (cy 0) 320 (fun _ => 0) := by rw [hS125]; exact (pnew_n (fun z : cab1 = st => hq_st (by rw [← z]; exact hL_cab1))).trans hf_cab1
                      have hL237 : cab1 ∈ S131.1 := by rw [hS131]; exact List.mem_append_left _ hL235
                      have hf238 : S131.2 cab1 = aN (cy 0) 320 (fun _ => 0) := by rw [hS131]; exact (pnew_n (fun z : cab1 = sw => hp130 (by rw [← z]; exact hL235))).trans hf236
                      have hL239 : cab1 ∈ S128.1 := by rw [hS136]; exact hL237
                      have hf240 : S128.2 cab1 = aN (cy 0) 320 (fun _ => 0) := by rw [hS136]; exact (pup_n (fun z : cab1 = st => hq_st (by rw [← z]; exact hL_cab1))).trans hf238
                      refine p_calli (va_runV (As := [.ref st]) (rest := []) C.fix (e_X11_putBehindblk l D cy S128 H.size x st ch ln sl mk co ca su lt lk mb col con cor0 cor1 cor2 cor3 cor4 cob0 cob1 cal can car0 car1 car2 car3 car4 cab0 cab1 sw kN nN hL143 hf144 hL149 hf150 hL155 hf156 hL161 hf162 hL167 hf168 hL173 hf174 hL179 hf180 hL185 hf186 hL191 hf192 hL197 hf198 hL203 hf204 hL209 hf210 hL215 hf216 hL221 hf222 hL227 hf228 hL233 hf234 hL239 hf240 hL137 hf138 hne_col_lk hne_cal_lk hne_cor0_cor1 hne_mk_cor1 hne_car1_cor1 hne_cob1_cab1 hne_mk_car1 hne_mb_cab1 hne_cor0_car1 hne_car0_cor1 hne_car0_car1 hne_cab0_cab1 (by first | assumption | decide | omega)) (cwV 1 C.2.2.2.2.1 (gU_V mw_576 mw_577 mw_578 mw_2 (subU mw_579)) rfl rfl rfl hde_X11_block_V_1 ⟨Nat.le_of_ble_eq_true rfl, Nat.le_of_ble_eq_true rfl⟩) (p_preV C hw hL143 hf144 rfl) rfl rfl hl.1 rfl (lv_room (Nat.le_of_ble_eq_true rfl)) dX11_block_130 ⟨Nat.le_of_ble_eq_true rfl, Nat.le_of_ble_eq_true rfl⟩) hw hA (fun r242 S241 H locs hpost hw => ?_)
                      obtain ⟨hr_, hS243, hfr244⟩ := hpost
                      subst hr_
                      refine vx_ret ?_
                      exact (p_iret C hw (⟨st, sw, ⟨⟨by omega, by omega⟩, ⟨by omega, by omega⟩, by rw [hnn]; exact hf1, (fun q => by rw [hnn]; first | exact hf2 | (exfalso; omega)), (fun q => by rw [hnn]; first | exact hf3 | (exfalso; omega)), (fun q => by rw [hnn]; first | exact hf4 | (exfalso; omega))⟩, rfl, (by simp only [hS243, hS136, hS131, hS125, pup, pnew, List.append_nil, List.append_assoc, List.cons_append, List.nil_append]), (fun a_ ha_ hn_0 hn_1 hn_2 hn_3 hn_4 hn_5 => ((hfr244 a_ (show a_ ∈ S128.1 from by rw [hS136]; exact (show a_ ∈ S131.1 from by rw [hS131]; exact List.mem_append_left _ (show a_ ∈ S125.1 from by rw [hS125]; exact List.mem_append_left _ ha_))) hn_0 hn_1 hn_2 hn_3 hn_4 hn_5).trans ((show S128.2 a_ = S131.2 a_ from by rw [hS136]; exact pup_n (fun z : a_ = st => hq_st (by rw [← z]; exact ha_))).trans ((show S131.2 a_ = S125.2 a_ from by rw [hS131]; exact pnew_n (fun z : a_ = sw => hp130 (by rw [← z]; exact (show a_ ∈ S125.1 from by rw [hS125]; exact List.mem_append_left _ ha_)))).trans (show S125.2 a_ = S.2 a_ from by rw [hS125]; exact pnew_n (fun z : a_ = st => hq_st (by rw [← z]; exact ha_)))))))⟩) hr hlocks dX11_block_133)
                    · exact absurd h_100 (by first | decide | omega)
              · skip
                refine lv_iload hx hb dX11_block_68 (lv_at hl 5 rfl) ?_
                refine lv_iload_n hx hb dX11_block_70 rfl (lv_at hl 2 rfl) ?_
                refine p_calli (va_runS (As := [.int a3, .int (nI nN)]) (rest := []) C.fix (c_X11_fits l D cy S H.size a3 nN (by first | assumption | decide | omega)) (va_cwS 2 C.2.2.2.2.1 (gU_S mw_123 mw_124 mw_2 sub_X11_fits) rfl rfl rfl hde_X11_block_S_0 ⟨Nat.le_of_ble_eq_true rfl, Nat.le_of_ble_eq_true rfl⟩) (p_preS C hw) rfl rfl hl.1 rfl (lv_room (Nat.le_of_ble_eq_true rfl)) dX11_block_71 ⟨Nat.le_of_ble_eq_true rfl, Nat.le_of_ble_eq_true rfl⟩) hw hA (fun r246 S245 H locs hpost hw => ?_)
                obtain ⟨hr_, hS_⟩ := hpost
                subst hr_
                subst hS_
                refine n_if_eq (tgt := 95) hx hb (by split <;> decide) dX11_block_74 (by decide) (fun h_74 => ?_) (fun h_74 => ?_)
                · skip
                  have hf3 := fF_f hn16 h_74
                  have hnok : ¬ okB6 (nI kN) (nI nN) a1 a2 a3 a4 := fun h => hf3 (by have h1 := h.2.2.2.2.1 (by omega); rw [hnn] at h1; exact h1)
                  refine lv_iconst (v := nI 0) hx hb dX11_block_95 (by decide) ?_
                  refine lv_istore (lv' := [(7, .int (nI 0)), (0, .ref x), (1, .int (nI kN)), (2, .int (nI nN)), (3, .int a1), (4, .int a2), (5, .int a3), (6, .int a4)]) hx hb dX11_block_96 hl (by decide) rfl (fun ls hl => ?_)
                  refine lv_iload hx hb dX11_block_98 (lv_at hl 0 rfl) ?_
                  refine n_if_ne (tgt := 113) hx hb (by first | decide | omega) dX11_block_100 (by decide) (fun h_100 => ?_) (fun h_100 => ?_)
                  · exact absurd h_100 (by first | decide | omega)
                  · skip
                    exact x_throw (y := yX11_block) C hflags hw hE (kS := 7) (kT := 0) mw_119 mw_120 tIA_x rfl rfl (by decide) tIA_n tIA_g hl.1.symm dX11_block_103 dX11_block_106 dX11_block_107 dX11_block_109 dX11_block_112 htab (Nat.le_of_ble_eq_true rfl) (Nat.le_of_ble_eq_true rfl) (Nat.le_of_ble_eq_true rfl) (Nat.le_of_ble_eq_true rfl) hlocks (⟨rfl, hnok, rfl⟩) (Nat.le_of_ble_eq_true rfl) (Nat.le_of_ble_eq_true rfl)
                · skip
                  have hf3 := fF_t hn16 h_74
                  refine lv_iload_n hx hb dX11_block_77 rfl (lv_at hl 1 rfl) ?_
                  refine lv_iconst (v := nI 4) hx hb dX11_block_78 (by decide) ?_
                  refine n_icmp_lt (tgt := 91) hx hb (by first | decide | omega) (by first | decide | omega) dX11_block_79 (by decide) (fun h_79 => ?_) (fun h_79 => ?_)
                  · skip
                    refine lv_iconst (v := nI 1) hx hb dX11_block_91 (by decide) ?_
                    refine lv_goto (tgt := 96) hx hb dX11_block_92 (by decide) ?_
                    refine lv_istore (lv' := [(7, .int (nI 1)), (0, .ref x), (1, .int (nI kN)), (2, .int (nI nN)), (3, .int a1), (4, .int a2), (5, .int a3), (6, .int a4)]) hx hb dX11_block_96 hl (by decide) rfl (fun ls hl => ?_)
                    refine lv_iload hx hb dX11_block_98 (lv_at hl 0 rfl) ?_
                    refine n_if_ne (tgt := 113) hx hb (by first | decide | omega) dX11_block_100 (by decide) (fun h_100 => ?_) (fun h_100 => ?_)
                    · skip
                      refine lv_aload_n hx hb dX11_block_113 rfl (lv_at hl 1 rfl) ?_
                      refine p_new C hw hA (ci := 1) (Cn := RX0) (T := TX0) (N := 3) (fs := [.int (nI 0), .int (nI 0), .null]) tyX0 tyX0_ok rfl hin_RX0 (mU mw_619) (mU mw_620) (mU mw_146) (fun j hj => by rcases (show j = 0 ∨ j = 1 ∨ j = 2 by omega) with rfl | rfl | rfl <;> rfl) (Nat.le_of_ble_eq_true rfl) (Nat.le_of_ble_eq_true rfl) dX11_block_114 (fun st H hq_st hw => ?_)
                      obtain ⟨S247, hS247⟩ : ∃ z, z = pnew S st (.inr (1, [.int (nI 0), .int (nI 0), .null])) := ⟨_, rfl⟩
                      replace hw : pW D (pA S s.heap.size) s.heap S247 H locs := by rw [hS247]; exact hw
                      have hL248 : st ∈ S247.1 := by rw [hS247]; exact List.mem_append_right _ List.mem_cons_self
                      have hf249 : S247.2 st = .inr (1, [.int (nI 0), .int (nI 0), .null]) := by rw [hS247]; exact pnew_s
                      refine lv_dup hx hb dX11_block_117 rfl ?_
                      refine lv_iload_n hx hb dX11_block_118 rfl (lv_at hl 2 rfl) ?_
                      refine lv_iload_n hx hb dX11_block_119 rfl (lv_at hl 3 rfl) ?_
                      refine lv_iload_n hx hb dX11_block_120 rfl (lv_at hl 4 rfl) ?_
                      refine lv_iload hx hb dX11_block_121 (lv_at hl 5 rfl) ?_
                      refine lv_iload hx hb dX11_block_123 (lv_at hl 6 rfl) ?_
                      refine lv_iload hx hb dX11_block_125 (lv_at hl 7 rfl) ?_
                      refine p_callv (va_runI (As := [.int (nI kN), .int (nI nN), .int a1, .int a2, .int a3, .int a4]) (rest := [.ref st, .ref x]) C.fix (c_X0_init l D cy S247 H.size st 0 0 kN nN a1.toInt.toNat a2.toInt.toNat a3.toInt.toNat a4.toInt.toNat a1 a2 a3 a4 hL248 hf249 (by first | assumption | decide | omega) (fun _ => z_self hf1.1) (fun q => by first | exact z_self hf2.1 | (exfalso; omega)) (fun q => by first | exact z_self hf3.1 | (exfalso; omega)) (fun q => by first | exact z_self hf4.1 | (exfalso; omega))) (cwI 6 C.2.2.2.2.1 (gU_sub sub_X0_init) rfl rfl rfl (C.2.2.2.2.1 (.initialized RX0) (mU mw_146)) (C.2.2.2.2.1 (.methodLink RX11 114 yX0_init) (mU mw_621)) (C.2.2.2.2.1 (.instanceMethod yX0_init) (mU mw_622)) rfl (by decide +kernel) ⟨Nat.le_of_ble_eq_true rfl, Nat.le_of_ble_eq_true rfl⟩) (p_preS C hw) rfl rfl hl.1 rfl (lv_room (Nat.le_of_ble_eq_true rfl)) dX11_block_127 ⟨Nat.le_of_ble_eq_true rfl, Nat.le_of_ble_eq_true rfl⟩) hw hA (fun S250 H locs hpost hw => ?_)
                      obtain ⟨sw, hp252, hS_⟩ := hpost
                      obtain ⟨S253, hS253⟩ : ∃ z, z = pnew S247 sw (aN (cy 0) 16 (bwt kN a1.toInt.toNat a2.toInt.toNat a3.toInt.toNat a4.toInt.toNat 16)) := ⟨_, rfl⟩
                      rw [← hS253] at hS_
                      have hL254 : sw ∈ S253.1 := by rw [hS253]; exact List.mem_append_right _ List.mem_cons_self
                      have hf255 : S253.2 sw = aN (cy 0) 16 (bwt kN a1.toInt.toNat a2.toInt.toNat a3.toInt.toNat a4.toInt.toNat 16) := by rw [hS253]; exact pnew_s
                      have hL256 : st ∈ S253.1 := by rw [hS253]; exact List.mem_append_left _ hL248
                      have hf257 : S253.2 st = .inr (1, [.int (nI 0), .int (nI 0), .null]) := by rw [hS253]; exact (pnew_n (fun z : st = sw => hp252 (by rw [← z]; exact hL248))).trans hf249
                      have hS258 := hS_
                      have hL259 : st ∈ S250.1 := by rw [hS258]; exact hL256
                      have hf260 : S250.2 st = .inr (1, [.int (nI kN), .int (nI nN), .ref sw]) := by rw [hS258]; exact pup_s
                      have hL261 : x ∈ S247.1 := by rw [hS247]; exact List.mem_append_left _ hL_x
                      have hf262 : S247.2 x = .inr (11, [.ref ch, .ref ln, .ref sl, .ref mk, .ref co, .ref ca, .ref su, .ref lt]) := by rw [hS247]; exact (pnew_n (fun z : x = st => hq_st (by rw [← z]; exact hL_x))).trans hf_x
                      have hL263 : x ∈ S253.1 := by rw [hS253]; exact List.mem_append_left _ hL261
                      have hf264 : S253.2 x = .inr (11, [.ref ch, .ref ln, .ref sl, .ref mk, .ref co, .ref ca, .ref su, .ref lt]) := by rw [hS253]; exact (pnew_n (fun z : x = sw => hp252 (by rw [← z]; exact hL261))).trans hf262
                      have hL265 : x ∈ S250.1 := by rw [hS258]; exact hL263
                      have hf266 : S250.2 x = .inr (11, [.ref ch, .ref ln, .ref sl, .ref mk, .ref co, .ref ca, .ref su, .ref lt]) := by rw [hS258]; exact (pup_n (fun z : x = st => hq_st (by rw [← z]; exact hL_x))).trans hf264
                      have hL267 : ch ∈ S247.1 := by rw [hS247]; exact List.mem_append_left _ hL_ch
                      have hf268 : S247.2 ch = .inr (2, [.ref lk, .int (nI 0)]) := by rw [hS247]; exact (pnew_n (fun z : ch = st => hq_st (by rw [← z]; exact hL_ch))).trans hf_ch
                      have hL269 : ch ∈ S253.1 := by rw [hS253]; exact List.mem_append_left _ hL267
                      have hf270 : S253.2 ch = .inr (2, [.ref lk, .int (nI 0)]) := by rw [hS253]; exact (pnew_n (fun z : ch = sw => hp252 (by rw [← z]; exact hL267))).trans hf268
                      have hL271 : ch ∈ S250.1 := by rw [hS258]; exact hL269
                      have hf272 : S250.2 ch = .inr (2, [.ref lk, .int (nI 0)]) := by rw [hS258]; exact (pup_n (fun z : ch = st => hq_st (by rw [← z]; exact hL_ch))).trans hf270
                      have hL273 : lk ∈ S247.1 := by rw [hS247]; exact List.mem_append_left _ hL_lk
                      have hf274 : S247.2 lk = aQ (cy 3) 4 (fun _ => none) := by rw [hS247]; exact (pnew_n (fun z : lk = st => hq_st (by rw [← z]; exact hL_lk))).trans hf_lk
                      have hL275 : lk ∈ S253.1 := by rw [hS253]; exact List.mem_append_left _ hL273
                      have hf276 : S253.2 lk = aQ (cy 3) 4 (fun _ => none) := by rw [hS253]; exact (pnew_n (fun z : lk = sw => hp252 (by rw [← z]; exact hL273))).trans hf274
                      have hL277 : lk ∈ S250.1 := by rw [hS258]; exact hL275
                      have hf278 : S250.2 lk = aQ (cy 3) 4 (fun _ => none) := by rw [hS258]; exact (pup_n (fun z : lk = st => hq_st (by rw [← z]; exact hL_lk))).trans hf276
                      have hL279 : ln ∈ S247.1 := by rw [hS247]; exact List.mem_append_left _ hL_ln
                      have hf280 : S247.2 ln = .inr (6, [.int (nI 0), .int (nI 0), .int (nI 0), .int (nI 0)]) := by rw [hS247]; exact (pnew_n (fun z : ln = st => hq_st (by rw [← z]; exact hL_ln))).trans hf_ln
                      have hL281 : ln ∈ S253.1 := by rw [hS253]; exact List.mem_append_left _ hL279
                      have hf282 : S253.2 ln = .inr (6, [.int (nI 0), .int (nI 0), .int (nI 0), .int (nI 0)]) := by rw [hS253]; exact (pnew_n (fun z : ln = sw => hp252 (by rw [← z]; exact hL279))).trans hf280
                      have hL283 : ln ∈ S250.1 := by rw [hS258]; exact hL281
                      have hf284 : S250.2 ln = .inr (6, [.int (nI 0), .int (nI 0), .int (nI 0), .int (nI 0)]) := by rw [hS258]; exact (pup_n (fun z : ln = st => hq_st (by rw [← z]; exact hL_ln))).trans hf282
                      have hL285 : mk ∈ S247.1 := by rw [hS247]; exact List.mem_append_left _ hL_mk
                      have hf286 : S247.2 mk = .inr (8, [.ref mb, .int (nI 320)]) := by rw [hS247]; exact (pnew_n (fun z : mk = st => hq_st (by rw [← z]; exact hL_mk))).trans hf_mk
                      have hL287 : mk ∈ S253.1 := by rw [hS253]; exact List.mem_append_left _ hL285
                      have hf288 : S253.2 mk = .inr (8, [.ref mb, .int (nI 320)]) := by rw [hS253]; exact (pnew_n (fun z : mk = sw => hp252 (by rw [← z]; exact hL285))).trans hf286
                      have hL289 : mk ∈ S250.1 := by rw [hS258]; exact hL287
                      have hf290 : S250.2 mk = .inr (8, [.ref mb, .int (nI 320)]) := by rw [hS258]; exact (pup_n (fun z : mk = st => hq_st (by rw [← z]; exact hL_mk))).trans hf288
                      have hL291 : mb ∈ S247.1 := by rw [hS247]; exact List.mem_append_left _ hL_mb
                      have hf292 : S247.2 mb = aN (cy 0) 320 (fun _ => 0) := by rw [hS247]; exact (pnew_n (fun z : mb = st => hq_st (by rw [← z]; exact hL_mb))).trans hf_mb
                      have hL293 : mb ∈ S253.1 := by rw [hS253]; exact List.mem_append_left _ hL291
                      have hf294 : S253.2 mb = aN (cy 0) 320 (fun _ => 0) := by rw [hS253]; exact (pnew_n (fun z : mb = sw => hp252 (by rw [← z]; exact hL291))).trans hf292
                      have hL295 : mb ∈ S250.1 := by rw [hS258]; exact hL293
                      have hf296 : S250.2 mb = aN (cy 0) 320 (fun _ => 0) := by rw [hS258]; exact (pup_n (fun z : mb = st => hq_st (by rw [← z]; exact hL_mb))).trans hf294
                      have hL297 : co ∈ S247.1 := by rw [hS247]; exact List.mem_append_left _ hL_co
                      have hf298 : S247.2 co = .inr (5, [.ref col, .ref con]) := by rw [hS247]; exact (pnew_n (fun z : co = st => hq_st (by rw [← z]; exact hL_co))).trans hf_co
                      have hL299 : co ∈ S253.1 := by rw [hS253]; exact List.mem_append_left _ hL297
                      have hf300 : S253.2 co = .inr (5, [.ref col, .ref con]) := by rw [hS253]; exact (pnew_n (fun z : co = sw => hp252 (by rw [← z]; exact hL297))).trans hf298
                      have hL301 : co ∈ S250.1 := by rw [hS258]; exact hL299
                      have hf302 : S250.2 co = .inr (5, [.ref col, .ref con]) := by rw [hS258]; exact (pup_n (fun z : co = st => hq_st (by rw [← z]; exact hL_co))).trans hf300
                      have hL303 : col ∈ S247.1 := by rw [hS247]; exact List.mem_append_left _ hL_col
                      have hf304 : S247.2 col = aQ (cy 2) 5 (va_up (va_up (va_up (va_up (va_up (fun _ => none) 0 (some cor0)) 1 (some cor1)) 2 (some cor2)) 3 (some cor3)) 4 (some cor4)) := by rw [hS247]; exact (pnew_n (fun z : col = st => hq_st (by rw [← z]; exact hL_col))).trans hf_col
                      have hL305 : col ∈ S253.1 := by rw [hS253]; exact List.mem_append_left _ hL303
                      have hf306 : S253.2 col = aQ (cy 2) 5 (va_up (va_up (va_up (va_up (va_up (fun _ => none) 0 (some cor0)) 1 (some cor1)) 2 (some cor2)) 3 (some cor3)) 4 (some cor4)) := by rw [hS253]; exact (pnew_n (fun z : col = sw => hp252 (by rw [← z]; exact hL303))).trans hf304
                      have hL307 : col ∈ S250.1 := by rw [hS258]; exact hL305
                      have hf308 : S250.2 col = aQ (cy 2) 5 (va_up (va_up (va_up (va_up (va_up (fun _ => none) 0 (some cor0)) 1 (some cor1)) 2 (some cor2)) 3 (some cor3)) 4 (some cor4)) := by rw [hS258]; exact (pup_n (fun z : col = st => hq_st (by rw [← z]; exact hL_col))).trans hf306
                      have hL309 : cor0 ∈ S247.1 := by rw [hS247]; exact List.mem_append_left _ hL_cor0
                      have hf310 : S247.2 cor0 = .inr (8, [.ref cob0, .int (nI 0)]) := by rw [hS247]; exact (pnew_n (fun z : cor0 = st => hq_st (by rw [← z]; exact hL_cor0))).trans hf_cor0
                      have hL311 : cor0 ∈ S253.1 := by rw [hS253]; exact List.mem_append_left _ hL309
                      have hf312 : S253.2 cor0 = .inr (8, [.ref cob0, .int (nI 0)]) := by rw [hS253]; exact (pnew_n (fun z : cor0 = sw => hp252 (by rw [← z]; exact hL309))).trans hf310
                      have hL313 : cor0 ∈ S250.1 := by rw [hS258]; exact hL311
                      have hf314 : S250.2 cor0 = .inr (8, [.ref cob0, .int (nI 0)]) := by rw [hS258]; exact (pup_n (fun z : cor0 = st => hq_st (by rw [← z]; exact hL_cor0))).trans hf312
                      have hL315 : cor1 ∈ S247.1 := by rw [hS247]; exact List.mem_append_left _ hL_cor1
                      have hf316 : S247.2 cor1 = .inr (8, [.ref cob1, .int (nI 0)]) := by rw [hS247]; exact (pnew_n (fun z : cor1 = st => hq_st (by rw [← z]; exact hL_cor1))).trans hf_cor1
                      have hL317 : cor1 ∈ S253.1 := by rw [hS253]; exact List.mem_append_left _ hL315
                      have hf318 : S253.2 cor1 = .inr (8, [.ref cob1, .int (nI 0)]) := by rw [hS253]; exact (pnew_n (fun z : cor1 = sw => hp252 (by rw [← z]; exact hL315))).trans hf316
                      have hL319 : cor1 ∈ S250.1 := by rw [hS258]; exact hL317
                      have hf320 : S250.2 cor1 = .inr (8, [.ref cob1, .int (nI 0)]) := by rw [hS258]; exact (pup_n (fun z : cor1 = st => hq_st (by rw [← z]; exact hL_cor1))).trans hf318
                      have hL321 : cob1 ∈ S247.1 := by rw [hS247]; exact List.mem_append_left _ hL_cob1
                      have hf322 : S247.2 cob1 = aN (cy 0) 320 (fun _ => 0) := by rw [hS247]; exact (pnew_n (fun z : cob1 = st => hq_st (by rw [← z]; exact hL_cob1))).trans hf_cob1
                      have hL323 : cob1 ∈ S253.1 := by rw [hS253]; exact List.mem_append_left _ hL321
                      have hf324 : S253.2 cob1 = aN (cy 0) 320 (fun _ => 0) := by rw [hS253]; exact (pnew_n (fun z : cob1 = sw => hp252 (by rw [← z]; exact hL321))).trans hf322
                      have hL325 : cob1 ∈ S250.1 := by rw [hS258]; exact hL323
                      have hf326 : S250.2 cob1 = aN (cy 0) 320 (fun _ => 0) := by rw [hS258]; exact (pup_n (fun z : cob1 = st => hq_st (by rw [← z]; exact hL_cob1))).trans hf324
                      have hL327 : ca ∈ S247.1 := by rw [hS247]; exact List.mem_append_left _ hL_ca
                      have hf328 : S247.2 ca = .inr (5, [.ref cal, .ref can]) := by rw [hS247]; exact (pnew_n (fun z : ca = st => hq_st (by rw [← z]; exact hL_ca))).trans hf_ca
                      have hL329 : ca ∈ S253.1 := by rw [hS253]; exact List.mem_append_left _ hL327
                      have hf330 : S253.2 ca = .inr (5, [.ref cal, .ref can]) := by rw [hS253]; exact (pnew_n (fun z : ca = sw => hp252 (by rw [← z]; exact hL327))).trans hf328
                      have hL331 : ca ∈ S250.1 := by rw [hS258]; exact hL329
                      have hf332 : S250.2 ca = .inr (5, [.ref cal, .ref can]) := by rw [hS258]; exact (pup_n (fun z : ca = st => hq_st (by rw [← z]; exact hL_ca))).trans hf330
                      have hL333 : cal ∈ S247.1 := by rw [hS247]; exact List.mem_append_left _ hL_cal
                      have hf334 : S247.2 cal = aQ (cy 2) 5 (va_up (va_up (va_up (va_up (va_up (fun _ => none) 0 (some car0)) 1 (some car1)) 2 (some car2)) 3 (some car3)) 4 (some car4)) := by rw [hS247]; exact (pnew_n (fun z : cal = st => hq_st (by rw [← z]; exact hL_cal))).trans hf_cal
                      have hL335 : cal ∈ S253.1 := by rw [hS253]; exact List.mem_append_left _ hL333
                      have hf336 : S253.2 cal = aQ (cy 2) 5 (va_up (va_up (va_up (va_up (va_up (fun _ => none) 0 (some car0)) 1 (some car1)) 2 (some car2)) 3 (some car3)) 4 (some car4)) := by rw [hS253]; exact (pnew_n (fun z : cal = sw => hp252 (by rw [← z]; exact hL333))).trans hf334
                      have hL337 : cal ∈ S250.1 := by rw [hS258]; exact hL335
                      have hf338 : S250.2 cal = aQ (cy 2) 5 (va_up (va_up (va_up (va_up (va_up (fun _ => none) 0 (some car0)) 1 (some car1)) 2 (some car2)) 3 (some car3)) 4 (some car4)) := by rw [hS258]; exact (pup_n (fun z : cal = st => hq_st (by rw [← z]; exact hL_cal))).trans hf336
                      have hL339 : car0 ∈ S247.1 := by rw [hS247]; exact List.mem_append_left _ hL_car0
                      have hf340 : S247.2 car0 = .inr (8, [.ref cab0, .int (nI 0)]) := by rw [hS247]; exact (pnew_n (fun z : car0 = st => hq_st (by rw [← z]; exact hL_car0))).trans hf_car0
                      have hL341 : car0 ∈ S253.1 := by rw [hS253]; exact List.mem_append_left _ hL339
                      have hf342 : S253.2 car0 = .inr (8, [.ref cab0, .int (nI 0)]) := by rw [hS253]; exact (pnew_n (fun z : car0 = sw => hp252 (by rw [← z]; exact hL339))).trans hf340
                      have hL343 : car0 ∈ S250.1 := by rw [hS258]; exact hL341
                      have hf344 : S250.2 car0 = .inr (8, [.ref cab0, .int (nI 0)]) := by rw [hS258]; exact (pup_n (fun z : car0 = st => hq_st (by rw [← z]; exact hL_car0))).trans hf342
                      have hL345 : cab0 ∈ S247.1 := by rw [hS247]; exact List.mem_append_left _ hL_cab0
                      have hf346 : S247.2 cab0 = aN (cy 0) 32 (fun _ => 0) := by rw [hS247]; exact (pnew_n (fun z : cab0 = st => hq_st (by rw [← z]; exact hL_cab0))).trans hf_cab0
                      have hL347 : cab0 ∈ S253.1 := by rw [hS253]; exact List.mem_append_left _ hL345
                      have hf348 : S253.2 cab0 = aN (cy 0) 32 (fun _ => 0) := by rw [hS253]; exact (pnew_n (fun z : cab0 = sw => hp252 (by rw [← z]; exact hL345))).trans hf346
                      have hL349 : cab0 ∈ S250.1 := by rw [hS258]; exact hL347
                      have hf350 : S250.2 cab0 = aN (cy 0) 32 (fun _ => 0) := by rw [hS258]; exact (pup_n (fun z : cab0 = st => hq_st (by rw [← z]; exact hL_cab0))).trans hf348
                      have hL351 : car1 ∈ S247.1 := by rw [hS247]; exact List.mem_append_left _ hL_car1
                      have hf352 : S247.2 car1 = .inr (8, [.ref cab1, .int (nI 0)]) := by rw [hS247]; exact (pnew_n (fun z : car1 = st => hq_st (by rw [← z]; exact hL_car1))).trans hf_car1
                      have hL353 : car1 ∈ S253.1 := by rw [hS253]; exact List.mem_append_left _ hL351
                      have hf354 : S253.2 car1 = .inr (8, [.ref cab1, .int (nI 0)]) := by rw [hS253]; exact (pnew_n (fun z : car1 = sw => hp252 (by rw [← z]; exact hL351))).trans hf352
                      have hL355 : car1 ∈ S250.1 := by rw [hS258]; exact hL353
                      have hf356 : S250.2 car1 = .inr (8, [.ref cab1, .int (nI 0)]) := by rw [hS258]; exact (pup_n (fun z : car1 = st => hq_st (by rw [← z]; exact hL_car1))).trans hf354
                      have hL357 : cab1 ∈ S247.1 := by rw [hS247]; exact List.mem_append_left _ hL_cab1
                      have hf358 : S247.2 cab1 = aN (cy 0) 320 (fun _ => 0) := by rw [hS247]; exact (pnew_n (fun z : cab1 = st => hq_st (by rw [← z]; exact hL_cab1))).trans hf_cab1
                      have hL359 : cab1 ∈ S253.1 := by rw [hS253]; exact List.mem_append_left _ hL357
                      have hf360 : S253.2 cab1 = aN (cy 0) 320 (fun _ => 0) := by rw [hS253]; exact (pnew_n (fun z : cab1 = sw => hp252 (by rw [← z]; exact hL357))).trans hf358
                      have hL361 : cab1 ∈ S250.1 := by rw [hS258]; exact hL359
                      have hf362 : S250.2 cab1 = aN (cy 0) 320 (fun _ => 0) := by rw [hS258]; exact (pup_n (fun z : cab1 = st => hq_st (by rw [← z]; exact hL_cab1))).trans hf360
                      refine p_calli (va_runV (As := [.ref st]) (rest := []) C.fix (e_X11_putBehindblk l D cy S250 H.size x st ch ln sl mk co ca su lt lk mb col con cor0 cor1 cor2 cor3 cor4 cob0 cob1 cal can car0 car1 car2 car3 car4 cab0 cab1 sw kN nN hL265 hf266 hL271 hf272 hL277 hf278 hL283 hf284 hL289 hf290 hL295 hf296 hL301 hf302 hL307 hf308 hL313 hf314 hL319 hf320 hL325 hf326 hL331 hf332 hL337 hf338 hL343 hf344 hL349 hf350 hL355 hf356 hL361 hf362 hL259 hf260 hne_col_lk hne_cal_lk hne_cor0_cor1 hne_mk_cor1 hne_car1_cor1 hne_cob1_cab1 hne_mk_car1 hne_mb_cab1 hne_cor0_car1 hne_car0_cor1 hne_car0_car1 hne_cab0_cab1 (by first | assumption | decide | omega)) (cwV 1 C.2.2.2.2.1 (gU_V mw_576 mw_577 mw_578 mw_2 (subU mw_579)) rfl rfl rfl hde_X11_block_V_1 ⟨Nat.le_of_ble_eq_true rfl, Nat.le_of_ble_eq_true rfl⟩) (p_preV C hw hL265 hf266 rfl) rfl rfl hl.1 rfl (lv_room (Nat.le_of_ble_eq_true rfl)) dX11_block_130 ⟨Nat.le_of_ble_eq_true rfl, Nat.le_of_ble_eq_true rfl⟩) hw hA (fun r364 S363 H locs hpost hw => ?_)
                      obtain ⟨hr_, hS365, hfr366⟩ := hpost
                      subst hr_
                      refine vx_ret ?_
                      exact (p_iret C hw (⟨st, sw, ⟨⟨by omega, by omega⟩, ⟨by omega, by omega⟩, by rw [hnn]; exact hf1, (fun q => by rw [hnn]; first | exact hf2 | (exfalso; omega)), (fun q => by rw [hnn]; first | exact hf3 | (exfalso; omega)), (fun q => by rw [hnn]; first | exact hf4 | (exfalso; omega))⟩, rfl, (by simp only [hS365, hS258, hS253, hS247, pup, pnew, List.append_nil, List.append_assoc, List.cons_append, List.nil_append]), (fun a_ ha_ hn_0 hn_1 hn_2 hn_3 hn_4 hn_5 => ((hfr366 a_ (show a_ ∈ S250.1 from by rw [hS258]; exact (show a_ ∈ S253.1 from by rw [hS253]; exact List.mem_append_left _ (show a_ ∈ S247.1 from by rw [hS247]; exact List.mem_append_left _ ha_))) hn_0 hn_1 hn_2 hn_3 hn_4 hn_5).trans ((show S250.2 a_ = S253.2 a_ from by rw [hS258]; exact pup_n (fun z : a_ = st => hq_st (by rw [← z]; exact ha_))).trans ((show S253.2 a_ = S247.2 a_ from by rw [hS253]; exact pnew_n (fun z : a_ = sw => hp252 (by rw [← z]; exact (show a_ ∈ S247.1 from by rw [hS247]; exact List.mem_append_left _ ha_)))).trans (show S247.2 a_ = S.2 a_ from by rw [hS247]; exact pnew_n (fun z : a_ = st => hq_st (by rw [← z]; exact ha_)))))))⟩) hr hlocks dX11_block_133)
                    · exact absurd h_100 (by first | decide | omega)
                  · skip
                    refine lv_iload hx hb dX11_block_82 (lv_at hl 6 rfl) ?_
                    refine lv_iload_n hx hb dX11_block_84 rfl (lv_at hl 2 rfl) ?_
                    refine p_calli (va_runS (As := [.int a4, .int (nI nN)]) (rest := []) C.fix (c_X11_fits l D cy S H.size a4 nN (by first | assumption | decide | omega)) (va_cwS 2 C.2.2.2.2.1 (gU_S mw_123 mw_124 mw_2 sub_X11_fits) rfl rfl rfl hde_X11_block_S_0 ⟨Nat.le_of_ble_eq_true rfl, Nat.le_of_ble_eq_true rfl⟩) (p_preS C hw) rfl rfl hl.1 rfl (lv_room (Nat.le_of_ble_eq_true rfl)) dX11_block_85 ⟨Nat.le_of_ble_eq_true rfl, Nat.le_of_ble_eq_true rfl⟩) hw hA (fun r368 S367 H locs hpost hw => ?_)
                    obtain ⟨hr_, hS_⟩ := hpost
                    subst hr_
                    subst hS_
                    refine n_if_eq (tgt := 95) hx hb (by split <;> decide) dX11_block_88 (by decide) (fun h_88 => ?_) (fun h_88 => ?_)
                    · skip
                      have hf4 := fF_f hn16 h_88
                      have hnok : ¬ okB6 (nI kN) (nI nN) a1 a2 a3 a4 := fun h => hf4 (by have h1 := h.2.2.2.2.2 (by omega); rw [hnn] at h1; exact h1)
                      refine lv_iconst (v := nI 0) hx hb dX11_block_95 (by decide) ?_
                      refine lv_istore (lv' := [(7, .int (nI 0)), (0, .ref x), (1, .int (nI kN)), (2, .int (nI nN)), (3, .int a1), (4, .int a2), (5, .int a3), (6, .int a4)]) hx hb dX11_block_96 hl (by decide) rfl (fun ls hl => ?_)
                      refine lv_iload hx hb dX11_block_98 (lv_at hl 0 rfl) ?_
                      refine n_if_ne (tgt := 113) hx hb (by first | decide | omega) dX11_block_100 (by decide) (fun h_100 => ?_) (fun h_100 => ?_)
                      · exact absurd h_100 (by first | decide | omega)
                      · skip
                        exact x_throw (y := yX11_block) C hflags hw hE (kS := 7) (kT := 0) mw_119 mw_120 tIA_x rfl rfl (by decide) tIA_n tIA_g hl.1.symm dX11_block_103 dX11_block_106 dX11_block_107 dX11_block_109 dX11_block_112 htab (Nat.le_of_ble_eq_true rfl) (Nat.le_of_ble_eq_true rfl) (Nat.le_of_ble_eq_true rfl) (Nat.le_of_ble_eq_true rfl) hlocks (⟨rfl, hnok, rfl⟩) (Nat.le_of_ble_eq_true rfl) (Nat.le_of_ble_eq_true rfl)
                    · skip
                      have hf4 := fF_t hn16 h_88
                      refine lv_iconst (v := nI 1) hx hb dX11_block_91 (by decide) ?_
                      refine lv_goto (tgt := 96) hx hb dX11_block_92 (by decide) ?_
                      refine lv_istore (lv' := [(7, .int (nI 1)), (0, .ref x), (1, .int (nI kN)), (2, .int (nI nN)), (3, .int a1), (4, .int a2), (5, .int a3), (6, .int a4)]) hx hb dX11_block_96 hl (by decide) rfl (fun ls hl => ?_)
                      refine lv_iload hx hb dX11_block_98 (lv_at hl 0 rfl) ?_
                      refine n_if_ne (tgt := 113) hx hb (by first | decide | omega) dX11_block_100 (by decide) (fun h_100 => ?_) (fun h_100 => ?_)
                      · skip
                        refine lv_aload_n hx hb dX11_block_113 rfl (lv_at hl 1 rfl) ?_
                        refine p_new C hw hA (ci := 1) (Cn := RX0) (T := TX0) (N := 3) (fs := [.int (nI 0), .int (nI 0), .null]) tyX0 tyX0_ok rfl hin_RX0 (mU mw_619) (mU mw_620) (mU mw_146) (fun j hj => by rcases (show j = 0 ∨ j = 1 ∨ j = 2 by omega) with rfl | rfl | rfl <;> rfl) (Nat.le_of_ble_eq_true rfl) (Nat.le_of_ble_eq_true rfl) dX11_block_114 (fun st H hq_st hw => ?_)
                        obtain ⟨S369, hS369⟩ : ∃ z, z = pnew S st (.inr (1, [.int (nI 0), .int (nI 0), .null])) := ⟨_, rfl⟩
                        replace hw : pW D (pA S s.heap.size) s.heap S369 H locs := by rw [hS369]; exact hw
                        have hL370 : st ∈ S369.1 := by rw [hS369]; exact List.mem_append_right _ List.mem_cons_self
                        have hf371 : S369.2 st = .inr (1, [.int (nI 0), .int (nI 0), .null]) := by rw [hS369]; exact pnew_s
                        refine lv_dup hx hb dX11_block_117 rfl ?_
                        refine lv_iload_n hx hb dX11_block_118 rfl (lv_at hl 2 rfl) ?_
                        refine lv_iload_n hx hb dX11_block_119 rfl (lv_at hl 3 rfl) ?_
                        refine lv_iload_n hx hb dX11_block_120 rfl (lv_at hl 4 rfl) ?_
                        refine lv_iload hx hb dX11_block_121 (lv_at hl 5 rfl) ?_
                        refine lv_iload hx hb dX11_block_123 (lv_at hl 6 rfl) ?_
                        refine lv_iload hx hb dX11_block_125 (lv_at hl 7 rfl) ?_
                        refine p_callv (va_runI (As := [.int (nI kN), .int (nI nN), .int a1, .int a2, .int a3, .int a4]) (rest := [.ref st, .ref x]) C.fix (c_X0_init l D cy S369 H.size st 0 0 kN nN a1.toInt.toNat a2.toInt.toNat a3.toInt.toNat a4.toInt.toNat a1 a2 a3 a4 hL370 hf371 (by first | assumption | decide | omega) (fun _ => z_self hf1.1) (fun q => by first | exact z_self hf2.1 | (exfalso; omega)) (fun q => by first | exact z_self hf3.1 | (exfalso; omega)) (fun q => by first | exact z_self hf4.1 | (exfalso; omega))) (cwI 6 C.2.2.2.2.1 (gU_sub sub_X0_init) rfl rfl rfl (C.2.2.2.2.1 (.initialized RX0) (mU mw_146)) (C.2.2.2.2.1 (.methodLink RX11 114 yX0_init) (mU mw_621)) (C.2.2.2.2.1 (.instanceMethod yX0_init) (mU mw_622)) rfl (by decide +kernel) ⟨Nat.le_of_ble_eq_true rfl, Nat.le_of_ble_eq_true rfl⟩) (p_preS C hw) rfl rfl hl.1 rfl (lv_room (Nat.le_of_ble_eq_true rfl)) dX11_block_127 ⟨Nat.le_of_ble_eq_true rfl, Nat.le_of_ble_eq_true rfl⟩) hw hA (fun S372 H locs hpost hw => ?_)
                        obtain ⟨sw, hp374, hS_⟩ := hpost
                        obtain ⟨S375, hS375⟩ : ∃ z, z = pnew S369 sw (aN (cy 0) 16 (bwt kN a1.toInt.toNat a2.toInt.toNat a3.toInt.toNat a4.toInt.toNat 16)) := ⟨_, rfl⟩
                        rw [← hS375] at hS_
                        have hL376 : sw ∈ S375.1 := by rw [hS375]; exact List.mem_append_right _ List.mem_cons_self
                        have hf377 : S375.2 sw = aN (cy 0) 16 (bwt kN a1.toInt.toNat a2.toInt.toNat a3.toInt.toNat a4.toInt.toNat 16) := by rw [hS375]; exact pnew_s
                        have hL378 : st ∈ S375.1 := by rw [hS375]; exact List.mem_append_left _ hL370
                        have hf379 : S375.2 st = .inr (1, [.int (nI 0), .int (nI 0), .null]) := by rw [hS375]; exact (pnew_n (fun z : st = sw => hp374 (by rw [← z]; exact hL370))).trans hf371
                        have hS380 := hS_
                        have hL381 : st ∈ S372.1 := by rw [hS380]; exact hL378
                        have hf382 : S372.2 st = .inr (1, [.int (nI kN), .int (nI nN), .ref sw]) := by rw [hS380]; exact pup_s
                        have hL383 : x ∈ S369.1 := by rw [hS369]; exact List.mem_append_left _ hL_x
                        have hf384 : S369.2 x = .inr (11, [.ref ch, .ref ln, .ref sl, .ref mk, .ref co, .ref ca, .ref su, .ref lt]) := by rw [hS369]; exact (pnew_n (fun z : x = st => hq_st (by rw [← z]; exact hL_x))).trans hf_x
                        have hL385 : x ∈ S375.1 := by rw [hS375]; exact List.mem_append_left _ hL383
                        have hf386 : S375.2 x = .inr (11, [.ref ch, .ref ln, .ref sl, .ref mk, .ref co, .ref ca, .ref su, .ref lt]) := by rw [hS375]; exact (pnew_n (fun z : x = sw => hp374 (by rw [← z]; exact hL383))).trans hf384
                        have hL387 : x ∈ S372.1 := by rw [hS380]; exact hL385
                        have hf388 : S372.2 x = .inr (11, [.ref ch, .ref ln, .ref sl, .ref mk, .ref co, .ref ca, .ref su, .ref lt]) := by rw [hS380]; exact (pup_n (fun z : x = st => hq_st (by rw [← z]; exact hL_x))).trans hf386
                        have hL389 : ch ∈ S369.1 := by rw [hS369]; exact List.mem_append_left _ hL_ch
                        have hf390 : S369.2 ch = .inr (2, [.ref lk, .int (nI 0)]) := by rw [hS369]; exact (pnew_n (fun z : ch = st => hq_st (by rw [← z]; exact hL_ch))).trans hf_ch
                        have hL391 : ch ∈ S375.1 := by rw [hS375]; exact List.mem_append_left _ hL389
                        have hf392 : S375.2 ch = .inr (2, [.ref lk, .int (nI 0)]) := by rw [hS375]; exact (pnew_n (fun z : ch = sw => hp374 (by rw [← z]; exact hL389))).trans hf390
                        have hL393 : ch ∈ S372.1 := by rw [hS380]; exact hL391
                        have hf394 : S372.2 ch = .inr (2, [.ref lk, .int (nI 0)]) := by rw [hS380]; exact (pup_n (fun z : ch = st => hq_st (by rw [← z]; exact hL_ch))).trans hf392
                        have hL395 : lk ∈ S369.1 := by rw [hS369]; exact List.mem_append_left _ hL_lk
                        have hf396 : S369.2 lk = aQ (cy 3) 4 (fun _ => none) := by rw [hS369]; exact (pnew_n (fun z : lk = st => hq_st (by rw [← z]; exact hL_lk))).trans hf_lk
                        have hL397 : lk ∈ S375.1 := by rw [hS375]; exact List.mem_append_left _ hL395
                        have hf398 : S375.2 lk = aQ (cy 3) 4 (fun _ => none) := by rw [hS375]; exact (pnew_n (fun z : lk = sw => hp374 (by rw [← z]; exact hL395))).trans hf396
                        have hL399 : lk ∈ S372.1 := by rw [hS380]; exact hL397
                        have hf400 : S372.2 lk = aQ (cy 3) 4 (fun _ => none) := by rw [hS380]; exact (pup_n (fun z : lk = st => hq_st (by rw [← z]; exact hL_lk))).trans hf398
                        have hL401 : ln ∈ S369.1 := by rw [hS369]; exact List.mem_append_left _ hL_ln
                        have hf402 : S369.2 ln = .inr (6, [.int (nI 0), .int (nI 0), .int (nI 0), .int (nI 0)]) := by rw [hS369]; exact (pnew_n (fun z : ln = st => hq_st (by rw [← z]; exact hL_ln))).trans hf_ln
                        have hL403 : ln ∈ S375.1 := by rw [hS375]; exact List.mem_append_left _ hL401
                        have hf404 : S375.2 ln = .inr (6, [.int (nI 0), .int (nI 0), .int (nI 0), .int (nI 0)]) := by rw [hS375]; exact (pnew_n (fun z : ln = sw => hp374 (by rw [← z]; exact hL401))).trans hf402
                        have hL405 : ln ∈ S372.1 := by rw [hS380]; exact hL403
                        have hf406 : S372.2 ln = .inr (6, [.int (nI 0), .int (nI 0), .int (nI 0), .int (nI 0)]) := by rw [hS380]; exact (pup_n (fun z : ln = st => hq_st (by rw [← z]; exact hL_ln))).trans hf404
                        have hL407 : mk ∈ S369.1 := by rw [hS369]; exact List.mem_append_left _ hL_mk
                        have hf408 : S369.2 mk = .inr (8, [.ref mb, .int (nI 320)]) := by rw [hS369]; exact (pnew_n (fun z : mk = st => hq_st (by rw [← z]; exact hL_mk))).trans hf_mk
                        have hL409 : mk ∈ S375.1 := by rw [hS375]; exact List.mem_append_left _ hL407
                        have hf410 : S375.2 mk = .inr (8, [.ref mb, .int (nI 320)]) := by rw [hS375]; exact (pnew_n (fun z : mk = sw => hp374 (by rw [← z]; exact hL407))).trans hf408
                        have hL411 : mk ∈ S372.1 := by rw [hS380]; exact hL409
                        have hf412 : S372.2 mk = .inr (8, [.ref mb, .int (nI 320)]) := by rw [hS380]; exact (pup_n (fun z : mk = st => hq_st (by rw [← z]; exact hL_mk))).trans hf410
                        have hL413 : mb ∈ S369.1 := by rw [hS369]; exact List.mem_append_left _ hL_mb
                        have hf414 : S369.2 mb = aN (cy 0) 320 (fun _ => 0) := by rw [hS369]; exact (pnew_n (fun z : mb = st => hq_st (by rw [← z]; exact hL_mb))).trans hf_mb
                        have hL415 : mb ∈ S375.1 := by rw [hS375]; exact List.mem_append_left _ hL413
                        have hf416 : S375.2 mb = aN (cy 0) 320 (fun _ => 0) := by rw [hS375]; exact (pnew_n (fun z : mb = sw => hp374 (by rw [← z]; exact hL413))).trans hf414
                        have hL417 : mb ∈ S372.1 := by rw [hS380]; exact hL415
                        have hf418 : S372.2 mb = aN (cy 0) 320 (fun _ => 0) := by rw [hS380]; exact (pup_n (fun z : mb = st => hq_st (by rw [← z]; exact hL_mb))).trans hf416
                        have hL419 : co ∈ S369.1 := by rw [hS369]; exact List.mem_append_left _ hL_co
                        have hf420 : S369.2 co = .inr (5, [.ref col, .ref con]) := by rw [hS369]; exact (pnew_n (fun z : co = st => hq_st (by rw [← z]; exact hL_co))).trans hf_co
                        have hL421 : co ∈ S375.1 := by rw [hS375]; exact List.mem_append_left _ hL419
                        have hf422 : S375.2 co = .inr (5, [.ref col, .ref con]) := by rw [hS375]; exact (pnew_n (fun z : co = sw => hp374 (by rw [← z]; exact hL419))).trans hf420
                        have hL423 : co ∈ S372.1 := by rw [hS380]; exact hL421
                        have hf424 : S372.2 co = .inr (5, [.ref col, .ref con]) := by rw [hS380]; exact (pup_n (fun z : co = st => hq_st (by rw [← z]; exact hL_co))).trans hf422
                        have hL425 : col ∈ S369.1 := by rw [hS369]; exact List.mem_append_left _ hL_col
                        have hf426 : S369.2 col = aQ (cy 2) 5 (va_up (va_up (va_up (va_up (va_up (fun _ => none) 0 (some cor0)) 1 (some cor1)) 2 (some cor2)) 3 (some cor3)) 4 (some cor4)) := by rw [hS369]; exact (pnew_n (fun z : col = st => hq_st (by rw [← z]; exact hL_col))).trans hf_col
                        have hL427 : col ∈ S375.1 := by rw [hS375]; exact List.mem_append_left _ hL425
                        have hf428 : S375.2 col = aQ (cy 2) 5 (va_up (va_up (va_up (va_up (va_up (fun _ => none) 0 (some cor0)) 1 (some cor1)) 2 (some cor2)) 3 (some cor3)) 4 (some cor4)) := by rw [hS375]; exact (pnew_n (fun z : col = sw => hp374 (by rw [← z]; exact hL425))).trans hf426
                        have hL429 : col ∈ S372.1 := by rw [hS380]; exact hL427
                        have hf430 : S372.2 col = aQ (cy 2) 5 (va_up (va_up (va_up (va_up (va_up (fun _ => none) 0 (some cor0)) 1 (some cor1)) 2 (some cor2)) 3 (some cor3)) 4 (some cor4)) := by rw [hS380]; exact (pup_n (fun z : col = st => hq_st (by rw [← z]; exact hL_col))).trans hf428
                        have hL431 : cor0 ∈ S369.1 := by rw [hS369]; exact List.mem_append_left _ hL_cor0
                        have hf432 : S369.2 cor0 = .inr (8, [.ref cob0, .int (nI 0)]) := by rw [hS369]; exact (pnew_n (fun z : cor0 = st => hq_st (by rw [← z]; exact hL_cor0))).trans hf_cor0
                        have hL433 : cor0 ∈ S375.1 := by rw [hS375]; exact List.mem_append_left _ hL431
                        have hf434 : S375.2 cor0 = .inr (8, [.ref cob0, .int (nI 0)]) := by rw [hS375]; exact (pnew_n (fun z : cor0 = sw => hp374 (by rw [← z]; exact hL431))).trans hf432
                        have hL435 : cor0 ∈ S372.1 := by rw [hS380]; exact hL433
                        have hf436 : S372.2 cor0 = .inr (8, [.ref cob0, .int (nI 0)]) := by rw [hS380]; exact (pup_n (fun z : cor0 = st => hq_st (by rw [← z]; exact hL_cor0))).trans hf434
                        have hL437 : cor1 ∈ S369.1 := by rw [hS369]; exact List.mem_append_left _ hL_cor1
                        have hf438 : S369.2 cor1 = .inr (8, [.ref cob1, .int (nI 0)]) := by rw [hS369]; exact (pnew_n (fun z : cor1 = st => hq_st (by rw [← z]; exact hL_cor1))).trans hf_cor1
                        have hL439 : cor1 ∈ S375.1 := by rw [hS375]; exact List.mem_append_left _ hL437
                        have hf440 : S375.2 cor1 = .inr (8, [.ref cob1, .int (nI 0)]) := by rw [hS375]; exact (pnew_n (fun z : cor1 = sw => hp374 (by rw [← z]; exact hL437))).trans hf438
                        have hL441 : cor1 ∈ S372.1 := by rw [hS380]; exact hL439
                        have hf442 : S372.2 cor1 = .inr (8, [.ref cob1, .int (nI 0)]) := by rw [hS380]; exact (pup_n (fun z : cor1 = st => hq_st (by rw [← z]; exact hL_cor1))).trans hf440
                        have hL443 : cob1 ∈ S369.1 := by rw [hS369]; exact List.mem_append_left _ hL_cob1
                        have hf444 : S369.2 cob1 = aN (cy 0) 320 (fun _ => 0) := by rw [hS369]; exact (pnew_n (fun z : cob1 = st => hq_st (by rw [← z]; exact hL_cob1))).trans hf_cob1
                        have hL445 : cob1 ∈ S375.1 := by rw [hS375]; exact List.mem_append_left _ hL443
                        have hf446 : S375.2 cob1 = aN (cy 0) 320 (fun _ => 0) := by rw [hS375]; exact (pnew_n (fun z : cob1 = sw => hp374 (by rw [← z]; exact hL443))).trans hf444
                        have hL447 : cob1 ∈ S372.1 := by rw [hS380]; exact hL445
                        have hf448 : S372.2 cob1 = aN (cy 0) 320 (fun _ => 0) := by rw [hS380]; exact (pup_n (fun z : cob1 = st => hq_st (by rw [← z]; exact hL_cob1))).trans hf446
                        have hL449 : ca ∈ S369.1 := by rw [hS369]; exact List.mem_append_left _ hL_ca
                        have hf450 : S369.2 ca = .inr (5, [.ref cal, .ref can]) := by rw [hS369]; exact (pnew_n (fun z : ca = st => hq_st (by rw [← z]; exact hL_ca))).trans hf_ca
                        have hL451 : ca ∈ S375.1 := by rw [hS375]; exact List.mem_append_left _ hL449
                        have hf452 : S375.2 ca = .inr (5, [.ref cal, .ref can]) := by rw [hS375]; exact (pnew_n (fun z : ca = sw => hp374 (by rw [← z]; exact hL449))).trans hf450
                        have hL453 : ca ∈ S372.1 := by rw [hS380]; exact hL451
                        have hf454 : S372.2 ca = .inr (5, [.ref cal, .ref can]) := by rw [hS380]; exact (pup_n (fun z : ca = st => hq_st (by rw [← z]; exact hL_ca))).trans hf452
                        have hL455 : cal ∈ S369.1 := by rw [hS369]; exact List.mem_append_left _ hL_cal
                        have hf456 : S369.2 cal = aQ (cy 2) 5 (va_up (va_up (va_up (va_up (va_up (fun _ => none) 0 (some car0)) 1 (some car1)) 2 (some car2)) 3 (some car3)) 4 (some car4)) := by rw [hS369]; exact (pnew_n (fun z : cal = st => hq_st (by rw [← z]; exact hL_cal))).trans hf_cal
                        have hL457 : cal ∈ S375.1 := by rw [hS375]; exact List.mem_append_left _ hL455
                        have hf458 : S375.2 cal = aQ (cy 2) 5 (va_up (va_up (va_up (va_up (va_up (fun _ => none) 0 (some car0)) 1 (some car1)) 2 (some car2)) 3 (some car3)) 4 (some car4)) := by rw [hS375]; exact (pnew_n (fun z : cal = sw => hp374 (by rw [← z]; exact hL455))).trans hf456
                        have hL459 : cal ∈ S372.1 := by rw [hS380]; exact hL457
                        have hf460 : S372.2 cal = aQ (cy 2) 5 (va_up (va_up (va_up (va_up (va_up (fun _ => none) 0 (some car0)) 1 (some car1)) 2 (some car2)) 3 (some car3)) 4 (some car4)) := by rw [hS380]; exact (pup_n (fun z : cal = st => hq_st (by rw [← z]; exact hL_cal))).trans hf458
                        have hL461 : car0 ∈ S369.1 := by rw [hS369]; exact List.mem_append_left _ hL_car0
                        have hf462 : S369.2 car0 = .inr (8, [.ref cab0, .int (nI 0)]) := by rw [hS369]; exact (pnew_n (fun z : car0 = st => hq_st (by rw [← z]; exact hL_car0))).trans hf_car0
                        have hL463 : car0 ∈ S375.1 := by rw [hS375]; exact List.mem_append_left _ hL461
                        have hf464 : S375.2 car0 = .inr (8, [.ref cab0, .int (nI 0)]) := by rw [hS375]; exact (pnew_n (fun z : car0 = sw => hp374 (by rw [← z]; exact hL461))).trans hf462
                        have hL465 : car0 ∈ S372.1 := by rw [hS380]; exact hL463
                        have hf466 : S372.2 car0 = .inr (8, [.ref cab0, .int (nI 0)]) := by rw [hS380]; exact (pup_n (fun z : car0 = st => hq_st (by rw [← z]; exact hL_car0))).trans hf464
                        have hL467 : cab0 ∈ S369.1 := by rw [hS369]; exact List.mem_append_left _ hL_cab0
                        have hf468 : S369.2 cab0 = aN (cy 0) 32 (fun _ => 0) := by rw [hS369]; exact (pnew_n (fun z : cab0 = st => hq_st (by rw [← z]; exact hL_cab0))).trans hf_cab0
                        have hL469 : cab0 ∈ S375.1 := by rw [hS375]; exact List.mem_append_left _ hL467
                        have hf470 : S375.2 cab0 = aN (cy 0) 32 (fun _ => 0) := by rw [hS375]; exact (pnew_n (fun z : cab0 = sw => hp374 (by rw [← z]; exact hL467))).trans hf468
                        have hL471 : cab0 ∈ S372.1 := by rw [hS380]; exact hL469
                        have hf472 : S372.2 cab0 = aN (cy 0) 32 (fun _ => 0) := by rw [hS380]; exact (pup_n (fun z : cab0 = st => hq_st (by rw [← z]; exact hL_cab0))).trans hf470
                        have hL473 : car1 ∈ S369.1 := by rw [hS369]; exact List.mem_append_left _ hL_car1
                        have hf474 : S369.2 car1 = .inr (8, [.ref cab1, .int (nI 0)]) := by rw [hS369]; exact (pnew_n (fun z : car1 = st => hq_st (by rw [← z]; exact hL_car1))).trans hf_car1
                        have hL475 : car1 ∈ S375.1 := by rw [hS375]; exact List.mem_append_left _ hL473
                        have hf476 : S375.2 car1 = .inr (8, [.ref cab1, .int (nI 0)]) := by rw [hS375]; exact (pnew_n (fun z : car1 = sw => hp374 (by rw [← z]; exact hL473))).trans hf474
                        have hL477 : car1 ∈ S372.1 := by rw [hS380]; exact hL475
                        have hf478 : S372.2 car1 = .inr (8, [.ref cab1, .int (nI 0)]) := by rw [hS380]; exact (pup_n (fun z : car1 = st => hq_st (by rw [← z]; exact hL_car1))).trans hf476
                        have hL479 : cab1 ∈ S369.1 := by rw [hS369]; exact List.mem_append_left _ hL_cab1
                        have hf480 : S369.2 cab1 = aN (cy 0) 320 (fun _ => 0) := by rw [hS369]; exact (pnew_n (fun z : cab1 = st => hq_st (by rw [← z]; exact hL_cab1))).trans hf_cab1
                        have hL481 : cab1 ∈ S375.1 := by rw [hS375]; exact List.mem_append_left _ hL479
                        have hf482 : S375.2 cab1 = aN (cy 0) 320 (fun _ => 0) := by rw [hS375]; exact (pnew_n (fun z : cab1 = sw => hp374 (by rw [← z]; exact hL479))).trans hf480
                        have hL483 : cab1 ∈ S372.1 := by rw [hS380]; exact hL481
                        have hf484 : S372.2 cab1 = aN (cy 0) 320 (fun _ => 0) := by rw [hS380]; exact (pup_n (fun z : cab1 = st => hq_st (by rw [← z]; exact hL_cab1))).trans hf482
                        refine p_calli (va_runV (As := [.ref st]) (rest := []) C.fix (e_X11_putBehindblk l D cy S372 H.size x st ch ln sl mk co ca su lt lk mb col con cor0 cor1 cor2 cor3 cor4 cob0 cob1 cal can car0 car1 car2 car3 car4 cab0 cab1 sw kN nN hL387 hf388 hL393 hf394 hL399 hf400 hL405 hf406 hL411 hf412 hL417 hf418 hL423 hf424 hL429 hf430 hL435 hf436 hL441 hf442 hL447 hf448 hL453 hf454 hL459 hf460 hL465 hf466 hL471 hf472 hL477 hf478 hL483 hf484 hL381 hf382 hne_col_lk hne_cal_lk hne_cor0_cor1 hne_mk_cor1 hne_car1_cor1 hne_cob1_cab1 hne_mk_car1 hne_mb_cab1 hne_cor0_car1 hne_car0_cor1 hne_car0_car1 hne_cab0_cab1 (by first | assumption | decide | omega)) (cwV 1 C.2.2.2.2.1 (gU_V mw_576 mw_577 mw_578 mw_2 (subU mw_579)) rfl rfl rfl hde_X11_block_V_1 ⟨Nat.le_of_ble_eq_true rfl, Nat.le_of_ble_eq_true rfl⟩) (p_preV C hw hL387 hf388 rfl) rfl rfl hl.1 rfl (lv_room (Nat.le_of_ble_eq_true rfl)) dX11_block_130 ⟨Nat.le_of_ble_eq_true rfl, Nat.le_of_ble_eq_true rfl⟩) hw hA (fun r486 S485 H locs hpost hw => ?_)
                        obtain ⟨hr_, hS487, hfr488⟩ := hpost
                        subst hr_
                        refine vx_ret ?_
                        exact (p_iret C hw (⟨st, sw, ⟨⟨by omega, by omega⟩, ⟨by omega, by omega⟩, by rw [hnn]; exact hf1, (fun q => by rw [hnn]; first | exact hf2 | (exfalso; omega)), (fun q => by rw [hnn]; first | exact hf3 | (exfalso; omega)), (fun q => by rw [hnn]; first | exact hf4 | (exfalso; omega))⟩, rfl, (by simp only [hS487, hS380, hS375, hS369, pup, pnew, List.append_nil, List.append_assoc, List.cons_append, List.nil_append]), (fun a_ ha_ hn_0 hn_1 hn_2 hn_3 hn_4 hn_5 => ((hfr488 a_ (show a_ ∈ S372.1 from by rw [hS380]; exact (show a_ ∈ S375.1 from by rw [hS375]; exact List.mem_append_left _ (show a_ ∈ S369.1 from by rw [hS369]; exact List.mem_append_left _ ha_))) hn_0 hn_1 hn_2 hn_3 hn_4 hn_5).trans ((show S372.2 a_ = S375.2 a_ from by rw [hS380]; exact pup_n (fun z : a_ = st => hq_st (by rw [← z]; exact ha_))).trans ((show S375.2 a_ = S369.2 a_ from by rw [hS375]; exact pnew_n (fun z : a_ = sw => hp374 (by rw [← z]; exact (show a_ ∈ S369.1 from by rw [hS369]; exact List.mem_append_left _ ha_)))).trans (show S369.2 a_ = S.2 a_ from by rw [hS369]; exact pnew_n (fun z : a_ = st => hq_st (by rw [← z]; exact ha_)))))))⟩) hr hlocks dX11_block_133)
                      · exact absurd h_100 (by first | decide | omega)
            · skip
              refine lv_iload hx hb dX11_block_54 (lv_at hl 4 rfl) ?_
              refine lv_iload_n hx hb dX11_block_56 rfl (lv_at hl 2 rfl) ?_
              refine p_calli (va_runS (As := [.int a2, .int (nI nN)]) (rest := []) C.fix (c_X11_fits l D cy S H.size a2 nN (by first | assumption | decide | omega)) (va_cwS 2 C.2.2.2.2.1 (gU_S mw_123 mw_124 mw_2 sub_X11_fits) rfl rfl rfl hde_X11_block_S_0 ⟨Nat.le_of_ble_eq_true rfl, Nat.le_of_ble_eq_true rfl⟩) (p_preS C hw) rfl rfl hl.1 rfl (lv_room (Nat.le_of_ble_eq_true rfl)) dX11_block_57 ⟨Nat.le_of_ble_eq_true rfl, Nat.le_of_ble_eq_true rfl⟩) hw hA (fun r490 S489 H locs hpost hw => ?_)
              obtain ⟨hr_, hS_⟩ := hpost
              subst hr_
              subst hS_
              refine n_if_eq (tgt := 95) hx hb (by split <;> decide) dX11_block_60 (by decide) (fun h_60 => ?_) (fun h_60 => ?_)
              · skip
                have hf2 := fF_f hn16 h_60
                have hnok : ¬ okB6 (nI kN) (nI nN) a1 a2 a3 a4 := fun h => hf2 (by have h1 := h.2.2.2.1 (by omega); rw [hnn] at h1; exact h1)
                refine lv_iconst (v := nI 0) hx hb dX11_block_95 (by decide) ?_
                refine lv_istore (lv' := [(7, .int (nI 0)), (0, .ref x), (1, .int (nI kN)), (2, .int (nI nN)), (3, .int a1), (4, .int a2), (5, .int a3), (6, .int a4)]) hx hb dX11_block_96 hl (by decide) rfl (fun ls hl => ?_)
                refine lv_iload hx hb dX11_block_98 (lv_at hl 0 rfl) ?_
                refine n_if_ne (tgt := 113) hx hb (by first | decide | omega) dX11_block_100 (by decide) (fun h_100 => ?_) (fun h_100 => ?_)
                · exact absurd h_100 (by first | decide | omega)
                · skip
                  exact x_throw (y := yX11_block) C hflags hw hE (kS := 7) (kT := 0) mw_119 mw_120 tIA_x rfl rfl (by decide) tIA_n tIA_g hl.1.symm dX11_block_103 dX11_block_106 dX11_block_107 dX11_block_109 dX11_block_112 htab (Nat.le_of_ble_eq_true rfl) (Nat.le_of_ble_eq_true rfl) (Nat.le_of_ble_eq_true rfl) (Nat.le_of_ble_eq_true rfl) hlocks (⟨rfl, hnok, rfl⟩) (Nat.le_of_ble_eq_true rfl) (Nat.le_of_ble_eq_true rfl)
              · skip
                have hf2 := fF_t hn16 h_60
                refine lv_iload_n hx hb dX11_block_63 rfl (lv_at hl 1 rfl) ?_
                refine lv_iconst (v := nI 3) hx hb dX11_block_64 (by decide) ?_
                refine n_icmp_lt (tgt := 77) hx hb (by first | decide | omega) (by first | decide | omega) dX11_block_65 (by decide) (fun h_65 => ?_) (fun h_65 => ?_)
                · skip
                  refine lv_iload_n hx hb dX11_block_77 rfl (lv_at hl 1 rfl) ?_
                  refine lv_iconst (v := nI 4) hx hb dX11_block_78 (by decide) ?_
                  refine n_icmp_lt (tgt := 91) hx hb (by first | decide | omega) (by first | decide | omega) dX11_block_79 (by decide) (fun h_79 => ?_) (fun h_79 => ?_)
                  · skip
                    refine lv_iconst (v := nI 1) hx hb dX11_block_91 (by decide) ?_
                    refine lv_goto (tgt := 96) hx hb dX11_block_92 (by decide) ?_
                    refine lv_istore (lv' := [(7, .int (nI 1)), (0, .ref x), (1, .int (nI kN)), (2, .int (nI nN)), (3, .int a1), (4, .int a2), (5, .int a3), (6, .int a4)]) hx hb dX11_block_96 hl (by decide) rfl (fun ls hl => ?_)
                    refine lv_iload hx hb dX11_block_98 (lv_at hl 0 rfl) ?_
                    refine n_if_ne (tgt := 113) hx hb (by first | decide | omega) dX11_block_100 (by decide) (fun h_100 => ?_) (fun h_100 => ?_)
                    · skip
                      refine lv_aload_n hx hb dX11_block_113 rfl (lv_at hl 1 rfl) ?_
                      refine p_new C hw hA (ci := 1) (Cn := RX0) (T := TX0) (N := 3) (fs := [.int (nI 0), .int (nI 0), .null]) tyX0 tyX0_ok rfl hin_RX0 (mU mw_619) (mU mw_620) (mU mw_146) (fun j hj => by rcases (show j = 0 ∨ j = 1 ∨ j = 2 by omega) with rfl | rfl | rfl <;> rfl) (Nat.le_of_ble_eq_true rfl) (Nat.le_of_ble_eq_true rfl) dX11_block_114 (fun st H hq_st hw => ?_)
                      obtain ⟨S491, hS491⟩ : ∃ z, z = pnew S st (.inr (1, [.int (nI 0), .int (nI 0), .null])) := ⟨_, rfl⟩
                      replace hw : pW D (pA S s.heap.size) s.heap S491 H locs := by rw [hS491]; exact hw
                      have hL492 : st ∈ S491.1 := by rw [hS491]; exact List.mem_append_right _ List.mem_cons_self
                      have hf493 : S491.2 st = .inr (1, [.int (nI 0), .int (nI 0), .null]) := by rw [hS491]; exact pnew_s
                      refine lv_dup hx hb dX11_block_117 rfl ?_
                      refine lv_iload_n hx hb dX11_block_118 rfl (lv_at hl 2 rfl) ?_
                      refine lv_iload_n hx hb dX11_block_119 rfl (lv_at hl 3 rfl) ?_
                      refine lv_iload_n hx hb dX11_block_120 rfl (lv_at hl 4 rfl) ?_
                      refine lv_iload hx hb dX11_block_121 (lv_at hl 5 rfl) ?_
                      refine lv_iload hx hb dX11_block_123 (lv_at hl 6 rfl) ?_
                      refine lv_iload hx hb dX11_block_125 (lv_at hl 7 rfl) ?_
                      refine p_callv (va_runI (As := [.int (nI kN), .int (nI nN), .int a1, .int a2, .int a3, .int a4]) (rest := [.ref st, .ref x]) C.fix (c_X0_init l D cy S491 H.size st 0 0 kN nN a1.toInt.toNat a2.toInt.toNat a3.toInt.toNat a4.toInt.toNat a1 a2 a3 a4 hL492 hf493 (by first | assumption | decide | omega) (fun _ => z_self hf1.1) (fun q => by first | exact z_self hf2.1 | (exfalso; omega)) (fun q => by first | exact z_self hf3.1 | (exfalso; omega)) (fun q => by first | exact z_self hf4.1 | (exfalso; omega))) (cwI 6 C.2.2.2.2.1 (gU_sub sub_X0_init) rfl rfl rfl (C.2.2.2.2.1 (.initialized RX0) (mU mw_146)) (C.2.2.2.2.1 (.methodLink RX11 114 yX0_init) (mU mw_621)) (C.2.2.2.2.1 (.instanceMethod yX0_init) (mU mw_622)) rfl (by decide +kernel) ⟨Nat.le_of_ble_eq_true rfl, Nat.le_of_ble_eq_true rfl⟩) (p_preS C hw) rfl rfl hl.1 rfl (lv_room (Nat.le_of_ble_eq_true rfl)) dX11_block_127 ⟨Nat.le_of_ble_eq_true rfl, Nat.le_of_ble_eq_true rfl⟩) hw hA (fun S494 H locs hpost hw => ?_)
                      obtain ⟨sw, hp496, hS_⟩ := hpost
                      obtain ⟨S497, hS497⟩ : ∃ z, z = pnew S491 sw (aN (cy 0) 16 (bwt kN a1.toInt.toNat a2.toInt.toNat a3.toInt.toNat a4.toInt.toNat 16)) := ⟨_, rfl⟩
                      rw [← hS497] at hS_
                      have hL498 : sw ∈ S497.1 := by rw [hS497]; exact List.mem_append_right _ List.mem_cons_self
                      have hf499 : S497.2 sw = aN (cy 0) 16 (bwt kN a1.toInt.toNat a2.toInt.toNat a3.toInt.toNat a4.toInt.toNat 16) := by rw [hS497]; exact pnew_s
                      have hL500 : st ∈ S497.1 := by rw [hS497]; exact List.mem_append_left _ hL492
                      have hf501 : S497.2 st = .inr (1, [.int (nI 0), .int (nI 0), .null]) := by rw [hS497]; exact (pnew_n (fun z : st = sw => hp496 (by rw [← z]; exact hL492))).trans hf493
                      have hS502 := hS_
                      have hL503 : st ∈ S494.1 := by rw [hS502]; exact hL500
                      have hf504 : S494.2 st = .inr (1, [.int (nI kN), .int (nI nN), .ref sw]) := by rw [hS502]; exact pup_s
                      have hL505 : x ∈ S491.1 := by rw [hS491]; exact List.mem_append_left _ hL_x
                      have hf506 : S491.2 x = .inr (11, [.ref ch, .ref ln, .ref sl, .ref mk, .ref co, .ref ca, .ref su, .ref lt]) := by rw [hS491]; exact (pnew_n (fun z : x = st => hq_st (by rw [← z]; exact hL_x))).trans hf_x
                      have hL507 : x ∈ S497.1 := by rw [hS497]; exact List.mem_append_left _ hL505
                      have hf508 : S497.2 x = .inr (11, [.ref ch, .ref ln, .ref sl, .ref mk, .ref co, .ref ca, .ref su, .ref lt]) := by rw [hS497]; exact (pnew_n (fun z : x = sw => hp496 (by rw [← z]; exact hL505))).trans hf506
                      have hL509 : x ∈ S494.1 := by rw [hS502]; exact hL507
                      have hf510 : S494.2 x = .inr (11, [.ref ch, .ref ln, .ref sl, .ref mk, .ref co, .ref ca, .ref su, .ref lt]) := by rw [hS502]; exact (pup_n (fun z : x = st => hq_st (by rw [← z]; exact hL_x))).trans hf508
                      have hL511 : ch ∈ S491.1 := by rw [hS491]; exact List.mem_append_left _ hL_ch
                      have hf512 : S491.2 ch = .inr (2, [.ref lk, .int (nI 0)]) := by rw [hS491]; exact (pnew_n (fun z : ch = st => hq_st (by rw [← z]; exact hL_ch))).trans hf_ch
                      have hL513 : ch ∈ S497.1 := by rw [hS497]; exact List.mem_append_left _ hL511
                      have hf514 : S497.2 ch = .inr (2, [.ref lk, .int (nI 0)]) := by rw [hS497]; exact (pnew_n (fun z : ch = sw => hp496 (by rw [← z]; exact hL511))).trans hf512
                      have hL515 : ch ∈ S494.1 := by rw [hS502]; exact hL513
                      have hf516 : S494.2 ch = .inr (2, [.ref lk, .int (nI 0)]) := by rw [hS502]; exact (pup_n (fun z : ch = st => hq_st (by rw [← z]; exact hL_ch))).trans hf514
                      have hL517 : lk ∈ S491.1 := by rw [hS491]; exact List.mem_append_left _ hL_lk
                      have hf518 : S491.2 lk = aQ (cy 3) 4 (fun _ => none) := by rw [hS491]; exact (pnew_n (fun z : lk = st => hq_st (by rw [← z]; exact hL_lk))).trans hf_lk
                      have hL519 : lk ∈ S497.1 := by rw [hS497]; exact List.mem_append_left _ hL517
                      have hf520 : S497.2 lk = aQ (cy 3) 4 (fun _ => none) := by rw [hS497]; exact (pnew_n (fun z : lk = sw => hp496 (by rw [← z]; exact hL517))).trans hf518
                      have hL521 : lk ∈ S494.1 := by rw [hS502]; exact hL519
                      have hf522 : S494.2 lk = aQ (cy 3) 4 (fun _ => none) := by rw [hS502]; exact (pup_n (fun z : lk = st => hq_st (by rw [← z]; exact hL_lk))).trans hf520
                      have hL523 : ln ∈ S491.1 := by rw [hS491]; exact List.mem_append_left _ hL_ln
                      have hf524 : S491.2 ln = .inr (6, [.int (nI 0), .int (nI 0), .int (nI 0), .int (nI 0)]) := by rw [hS491]; exact (pnew_n (fun z : ln = st => hq_st (by rw [← z]; exact hL_ln))).trans hf_ln
                      have hL525 : ln ∈ S497.1 := by rw [hS497]; exact List.mem_append_left _ hL523
                      have hf526 : S497.2 ln = .inr (6, [.int (nI 0), .int (nI 0), .int (nI 0), .int (nI 0)]) := by rw [hS497]; exact (pnew_n (fun z : ln = sw => hp496 (by rw [← z]; exact hL523))).trans hf524
                      have hL527 : ln ∈ S494.1 := by rw [hS502]; exact hL525
                      have hf528 : S494.2 ln = .inr (6, [.int (nI 0), .int (nI 0), .int (nI 0), .int (nI 0)]) := by rw [hS502]; exact (pup_n (fun z : ln = st => hq_st (by rw [← z]; exact hL_ln))).trans hf526
                      have hL529 : mk ∈ S491.1 := by rw [hS491]; exact List.mem_append_left _ hL_mk
                      have hf530 : S491.2 mk = .inr (8, [.ref mb, .int (nI 320)]) := by rw [hS491]; exact (pnew_n (fun z : mk = st => hq_st (by rw [← z]; exact hL_mk))).trans hf_mk
                      have hL531 : mk ∈ S497.1 := by rw [hS497]; exact List.mem_append_left _ hL529
                      have hf532 : S497.2 mk = .inr (8, [.ref mb, .int (nI 320)]) := by rw [hS497]; exact (pnew_n (fun z : mk = sw => hp496 (by rw [← z]; exact hL529))).trans hf530
                      have hL533 : mk ∈ S494.1 := by rw [hS502]; exact hL531
                      have hf534 : S494.2 mk = .inr (8, [.ref mb, .int (nI 320)]) := by rw [hS502]; exact (pup_n (fun z : mk = st => hq_st (by rw [← z]; exact hL_mk))).trans hf532
                      have hL535 : mb ∈ S491.1 := by rw [hS491]; exact List.mem_append_left _ hL_mb
                      have hf536 : S491.2 mb = aN (cy 0) 320 (fun _ => 0) := by rw [hS491]; exact (pnew_n (fun z : mb = st => hq_st (by rw [← z]; exact hL_mb))).trans hf_mb
                      have hL537 : mb ∈ S497.1 := by rw [hS497]; exact List.mem_append_left _ hL535
                      have hf538 : S497.2 mb = aN (cy 0) 320 (fun _ => 0) := by rw [hS497]; exact (pnew_n (fun z : mb = sw => hp496 (by rw [← z]; exact hL535))).trans hf536
                      have hL539 : mb ∈ S494.1 := by rw [hS502]; exact hL537
                      have hf540 : S494.2 mb = aN (cy 0) 320 (fun _ => 0) := by rw [hS502]; exact (pup_n (fun z : mb = st => hq_st (by rw [← z]; exact hL_mb))).trans hf538
                      have hL541 : co ∈ S491.1 := by rw [hS491]; exact List.mem_append_left _ hL_co
                      have hf542 : S491.2 co = .inr (5, [.ref col, .ref con]) := by rw [hS491]; exact (pnew_n (fun z : co = st => hq_st (by rw [← z]; exact hL_co))).trans hf_co
                      have hL543 : co ∈ S497.1 := by rw [hS497]; exact List.mem_append_left _ hL541
                      have hf544 : S497.2 co = .inr (5, [.ref col, .ref con]) := by rw [hS497]; exact (pnew_n (fun z : co = sw => hp496 (by rw [← z]; exact hL541))).trans hf542
                      have hL545 : co ∈ S494.1 := by rw [hS502]; exact hL543
                      have hf546 : S494.2 co = .inr (5, [.ref col, .ref con]) := by rw [hS502]; exact (pup_n (fun z : co = st => hq_st (by rw [← z]; exact hL_co))).trans hf544
                      have hL547 : col ∈ S491.1 := by rw [hS491]; exact List.mem_append_left _ hL_col
                      have hf548 : S491.2 col = aQ (cy 2) 5 (va_up (va_up (va_up (va_up (va_up (fun _ => none) 0 (some cor0)) 1 (some cor1)) 2 (some cor2)) 3 (some cor3)) 4 (some cor4)) := by rw [hS491]; exact (pnew_n (fun z : col = st => hq_st (by rw [← z]; exact hL_col))).trans hf_col
                      have hL549 : col ∈ S497.1 := by rw [hS497]; exact List.mem_append_left _ hL547
                      have hf550 : S497.2 col = aQ (cy 2) 5 (va_up (va_up (va_up (va_up (va_up (fun _ => none) 0 (some cor0)) 1 (some cor1)) 2 (some cor2)) 3 (some cor3)) 4 (some cor4)) := by rw [hS497]; exact (pnew_n (fun z : col = sw => hp496 (by rw [← z]; exact hL547))).trans hf548
                      have hL551 : col ∈ S494.1 := by rw [hS502]; exact hL549
                      have hf552 : S494.2 col = aQ (cy 2) 5 (va_up (va_up (va_up (va_up (va_up (fun _ => none) 0 (some cor0)) 1 (some cor1)) 2 (some cor2)) 3 (some cor3)) 4 (some cor4)) := by rw [hS502]; exact (pup_n (fun z : col = st => hq_st (by rw [← z]; exact hL_col))).trans hf550
                      have hL553 : cor0 ∈ S491.1 := by rw [hS491]; exact List.mem_append_left _ hL_cor0
                      have hf554 : S491.2 cor0 = .inr (8, [.ref cob0, .int (nI 0)]) := by rw [hS491]; exact (pnew_n (fun z : cor0 = st => hq_st (by rw [← z]; exact hL_cor0))).trans hf_cor0
                      have hL555 : cor0 ∈ S497.1 := by rw [hS497]; exact List.mem_append_left _ hL553
                      have hf556 : S497.2 cor0 = .inr (8, [.ref cob0, .int (nI 0)]) := by rw [hS497]; exact (pnew_n (fun z : cor0 = sw => hp496 (by rw [← z]; exact hL553))).trans hf554
                      have hL557 : cor0 ∈ S494.1 := by rw [hS502]; exact hL555
                      have hf558 : S494.2 cor0 = .inr (8, [.ref cob0, .int (nI 0)]) := by rw [hS502]; exact (pup_n (fun z : cor0 = st => hq_st (by rw [← z]; exact hL_cor0))).trans hf556
                      have hL559 : cor1 ∈ S491.1 := by rw [hS491]; exact List.mem_append_left _ hL_cor1
                      have hf560 : S491.2 cor1 = .inr (8, [.ref cob1, .int (nI 0)]) := by rw [hS491]; exact (pnew_n (fun z : cor1 = st => hq_st (by rw [← z]; exact hL_cor1))).trans hf_cor1
                      have hL561 : cor1 ∈ S497.1 := by rw [hS497]; exact List.mem_append_left _ hL559
                      have hf562 : S497.2 cor1 = .inr (8, [.ref cob1, .int (nI 0)]) := by rw [hS497]; exact (pnew_n (fun z : cor1 = sw => hp496 (by rw [← z]; exact hL559))).trans hf560
                      have hL563 : cor1 ∈ S494.1 := by rw [hS502]; exact hL561
                      have hf564 : S494.2 cor1 = .inr (8, [.ref cob1, .int (nI 0)]) := by rw [hS502]; exact (pup_n (fun z : cor1 = st => hq_st (by rw [← z]; exact hL_cor1))).trans hf562
                      have hL565 : cob1 ∈ S491.1 := by rw [hS491]; exact List.mem_append_left _ hL_cob1
                      have hf566 : S491.2 cob1 = aN (cy 0) 320 (fun _ => 0) := by rw [hS491]; exact (pnew_n (fun z : cob1 = st => hq_st (by rw [← z]; exact hL_cob1))).trans hf_cob1
                      have hL567 : cob1 ∈ S497.1 := by rw [hS497]; exact List.mem_append_left _ hL565
                      have hf568 : S497.2 cob1 = aN (cy 0) 320 (fun _ => 0) := by rw [hS497]; exact (pnew_n (fun z : cob1 = sw => hp496 (by rw [← z]; exact hL565))).trans hf566
                      have hL569 : cob1 ∈ S494.1 := by rw [hS502]; exact hL567
                      have hf570 : S494.2 cob1 = aN (cy 0) 320 (fun _ => 0) := by rw [hS502]; exact (pup_n (fun z : cob1 = st => hq_st (by rw [← z]; exact hL_cob1))).trans hf568
                      have hL571 : ca ∈ S491.1 := by rw [hS491]; exact List.mem_append_left _ hL_ca
                      have hf572 : S491.2 ca = .inr (5, [.ref cal, .ref can]) := by rw [hS491]; exact (pnew_n (fun z : ca = st => hq_st (by rw [← z]; exact hL_ca))).trans hf_ca
                      have hL573 : ca ∈ S497.1 := by rw [hS497]; exact List.mem_append_left _ hL571
                      have hf574 : S497.2 ca = .inr (5, [.ref cal, .ref can]) := by rw [hS497]; exact (pnew_n (fun z : ca = sw => hp496 (by rw [← z]; exact hL571))).trans hf572
                      have hL575 : ca ∈ S494.1 := by rw [hS502]; exact hL573
                      have hf576 : S494.2 ca = .inr (5, [.ref cal, .ref can]) := by rw [hS502]; exact (pup_n (fun z : ca = st => hq_st (by rw [← z]; exact hL_ca))).trans hf574
                      have hL577 : cal ∈ S491.1 := by rw [hS491]; exact List.mem_append_left _ hL_cal
                      have hf578 : S491.2 cal = aQ (cy 2) 5 (va_up (va_up (va_up (va_up (va_up (fun _ => none) 0 (some car0)) 1 (some car1)) 2 (some car2)) 3 (some car3)) 4 (some car4)) := by rw [hS491]; exact (pnew_n (fun z : cal = st => hq_st (by rw [← z]; exact hL_cal))).trans hf_cal
                      have hL579 : cal ∈ S497.1 := by rw [hS497]; exact List.mem_append_left _ hL577
                      have hf580 : S497.2 cal = aQ (cy 2) 5 (va_up (va_up (va_up (va_up (va_up (fun _ => none) 0 (some car0)) 1 (some car1)) 2 (some car2)) 3 (some car3)) 4 (some car4)) := by rw [hS497]; exact (pnew_n (fun z : cal = sw => hp496 (by rw [← z]; exact hL577))).trans hf578
                      have hL581 : cal ∈ S494.1 := by rw [hS502]; exact hL579
                      have hf582 : S494.2 cal = aQ (cy 2) 5 (va_up (va_up (va_up (va_up (va_up (fun _ => none) 0 (some car0)) 1 (some car1)) 2 (some car2)) 3 (some car3)) 4 (some car4)) := by rw [hS502]; exact (pup_n (fun z : cal = st => hq_st (by rw [← z]; exact hL_cal))).trans hf580
                      have hL583 : car0 ∈ S491.1 := by rw [hS491]; exact List.mem_append_left _ hL_car0
                      have hf584 : S491.2 car0 = .inr (8, [.ref cab0, .int (nI 0)]) := by rw [hS491]; exact (pnew_n (fun z : car0 = st => hq_st (by rw [← z]; exact hL_car0))).trans hf_car0
                      have hL585 : car0 ∈ S497.1 := by rw [hS497]; exact List.mem_append_left _ hL583
                      have hf586 : S497.2 car0 = .inr (8, [.ref cab0, .int (nI 0)]) := by rw [hS497]; exact (pnew_n (fun z : car0 = sw => hp496 (by rw [← z]; exact hL583))).trans hf584
                      have hL587 : car0 ∈ S494.1 := by rw [hS502]; exact hL585
                      have hf588 : S494.2 car0 = .inr (8, [.ref cab0, .int (nI 0)]) := by rw [hS502]; exact (pup_n (fun z : car0 = st => hq_st (by rw [← z]; exact hL_car0))).trans hf586
                      have hL589 : cab0 ∈ S491.1 := by rw [hS491]; exact List.mem_append_left _ hL_cab0
                      have hf590 : S491.2 cab0 = aN (cy 0) 32 (fun _ => 0) := by rw [hS491]; exact (pnew_n (fun z : cab0 = st => hq_st (by rw [← z]; exact hL_cab0))).trans hf_cab0
                      have hL591 : cab0 ∈ S497.1 := by rw [hS497]; exact List.mem_append_left _ hL589
                      have hf592 : S497.2 cab0 = aN (cy 0) 32 (fun _ => 0) := by rw [hS497]; exact (pnew_n (fun z : cab0 = sw => hp496 (by rw [← z]; exact hL589))).trans hf590
                      have hL593 : cab0 ∈ S494.1 := by rw [hS502]; exact hL591
                      have hf594 : S494.2 cab0 = aN (cy 0) 32 (fun _ => 0) := by rw [hS502]; exact (pup_n (fun z : cab0 = st => hq_st (by rw [← z]; exact hL_cab0))).trans hf592
                      have hL595 : car1 ∈ S491.1 := by rw [hS491]; exact List.mem_append_left _ hL_car1
                      have hf596 : S491.2 car1 = .inr (8, [.ref cab1, .int (nI 0)]) := by rw [hS491]; exact (pnew_n (fun z : car1 = st => hq_st (by rw [← z]; exact hL_car1))).trans hf_car1
                      have hL597 : car1 ∈ S497.1 := by rw [hS497]; exact List.mem_append_left _ hL595
                      have hf598 : S497.2 car1 = .inr (8, [.ref cab1, .int (nI 0)]) := by rw [hS497]; exact (pnew_n (fun z : car1 = sw => hp496 (by rw [← z]; exact hL595))).trans hf596
                      have hL599 : car1 ∈ S494.1 := by rw [hS502]; exact hL597
                      have hf600 : S494.2 car1 = .inr (8, [.ref cab1, .int (nI 0)]) := by rw [hS502]; exact (pup_n (fun z : car1 = st => hq_st (by rw [← z]; exact hL_car1))).trans hf598
                      have hL601 : cab1 ∈ S491.1 := by rw [hS491]; exact List.mem_append_left _ hL_cab1
                      have hf602 : S491.2 cab1 = aN (cy 0) 320 (fun _ => 0) := by rw [hS491]; exact (pnew_n (fun z : cab1 = st => hq_st (by rw [← z]; exact hL_cab1))).trans hf_cab1
                      have hL603 : cab1 ∈ S497.1 := by rw [hS497]; exact List.mem_append_left _ hL601
                      have hf604 : S497.2 cab1 = aN (cy 0) 320 (fun _ => 0) := by rw [hS497]; exact (pnew_n (fun z : cab1 = sw => hp496 (by rw [← z]; exact hL601))).trans hf602
                      have hL605 : cab1 ∈ S494.1 := by rw [hS502]; exact hL603
                      have hf606 : S494.2 cab1 = aN (cy 0) 320 (fun _ => 0) := by rw [hS502]; exact (pup_n (fun z : cab1 = st => hq_st (by rw [← z]; exact hL_cab1))).trans hf604
                      refine p_calli (va_runV (As := [.ref st]) (rest := []) C.fix (e_X11_putBehindblk l D cy S494 H.size x st ch ln sl mk co ca su lt lk mb col con cor0 cor1 cor2 cor3 cor4 cob0 cob1 cal can car0 car1 car2 car3 car4 cab0 cab1 sw kN nN hL509 hf510 hL515 hf516 hL521 hf522 hL527 hf528 hL533 hf534 hL539 hf540 hL545 hf546 hL551 hf552 hL557 hf558 hL563 hf564 hL569 hf570 hL575 hf576 hL581 hf582 hL587 hf588 hL593 hf594 hL599 hf600 hL605 hf606 hL503 hf504 hne_col_lk hne_cal_lk hne_cor0_cor1 hne_mk_cor1 hne_car1_cor1 hne_cob1_cab1 hne_mk_car1 hne_mb_cab1 hne_cor0_car1 hne_car0_cor1 hne_car0_car1 hne_cab0_cab1 (by first | assumption | decide | omega)) (cwV 1 C.2.2.2.2.1 (gU_V mw_576 mw_577 mw_578 mw_2 (subU mw_579)) rfl rfl rfl hde_X11_block_V_1 ⟨Nat.le_of_ble_eq_true rfl, Nat.le_of_ble_eq_true rfl⟩) (p_preV C hw hL509 hf510 rfl) rfl rfl hl.1 rfl (lv_room (Nat.le_of_ble_eq_true rfl)) dX11_block_130 ⟨Nat.le_of_ble_eq_true rfl, Nat.le_of_ble_eq_true rfl⟩) hw hA (fun r608 S607 H locs hpost hw => ?_)
                      obtain ⟨hr_, hS609, hfr610⟩ := hpost
                      subst hr_
                      refine vx_ret ?_
                      exact (p_iret C hw (⟨st, sw, ⟨⟨by omega, by omega⟩, ⟨by omega, by omega⟩, by rw [hnn]; exact hf1, (fun q => by rw [hnn]; first | exact hf2 | (exfalso; omega)), (fun q => by rw [hnn]; first | exact hf3 | (exfalso; omega)), (fun q => by rw [hnn]; first | exact hf4 | (exfalso; omega))⟩, rfl, (by simp only [hS609, hS502, hS497, hS491, pup, pnew, List.append_nil, List.append_assoc, List.cons_append, List.nil_append]), (fun a_ ha_ hn_0 hn_1 hn_2 hn_3 hn_4 hn_5 => ((hfr610 a_ (show a_ ∈ S494.1 from by rw [hS502]; exact (show a_ ∈ S497.1 from by rw [hS497]; exact List.mem_append_left _ (show a_ ∈ S491.1 from by rw [hS491]; exact List.mem_append_left _ ha_))) hn_0 hn_1 hn_2 hn_3 hn_4 hn_5).trans ((show S494.2 a_ = S497.2 a_ from by rw [hS502]; exact pup_n (fun z : a_ = st => hq_st (by rw [← z]; exact ha_))).trans ((show S497.2 a_ = S491.2 a_ from by rw [hS497]; exact pnew_n (fun z : a_ = sw => hp496 (by rw [← z]; exact (show a_ ∈ S491.1 from by rw [hS491]; exact List.mem_append_left _ ha_)))).trans (show S491.2 a_ = S.2 a_ from by rw [hS491]; exact pnew_n (fun z : a_ = st => hq_st (by rw [← z]; exact ha_)))))))⟩) hr hlocks dX11_block_133)
                    · exact absurd h_100 (by first | decide | omega)
                  · skip
                    refine lv_iload hx hb dX11_block_82 (lv_at hl 6 rfl) ?_
                    refine lv_iload_n hx hb dX11_block_84 rfl (lv_at hl 2 rfl) ?_
                    refine p_calli (va_runS (As := [.int a4, .int (nI nN)]) (rest := []) C.fix (c_X11_fits l D cy S H.size a4 nN (by first | assumption | decide | omega)) (va_cwS 2 C.2.2.2.2.1 (gU_S mw_123 mw_124 mw_2 sub_X11_fits) rfl rfl rfl hde_X11_block_S_0 ⟨Nat.le_of_ble_eq_true rfl, Nat.le_of_ble_eq_true rfl⟩) (p_preS C hw) rfl rfl hl.1 rfl (lv_room (Nat.le_of_ble_eq_true rfl)) dX11_block_85 ⟨Nat.le_of_ble_eq_true rfl, Nat.le_of_ble_eq_true rfl⟩) hw hA (fun r612 S611 H locs hpost hw => ?_)
                    obtain ⟨hr_, hS_⟩ := hpost
                    subst hr_
                    subst hS_
                    refine n_if_eq (tgt := 95) hx hb (by split <;> decide) dX11_block_88 (by decide) (fun h_88 => ?_) (fun h_88 => ?_)
                    · skip
                      have hf4 := fF_f hn16 h_88
                      have hnok : ¬ okB6 (nI kN) (nI nN) a1 a2 a3 a4 := fun h => hf4 (by have h1 := h.2.2.2.2.2 (by omega); rw [hnn] at h1; exact h1)
                      refine lv_iconst (v := nI 0) hx hb dX11_block_95 (by decide) ?_
                      refine lv_istore (lv' := [(7, .int (nI 0)), (0, .ref x), (1, .int (nI kN)), (2, .int (nI nN)), (3, .int a1), (4, .int a2), (5, .int a3), (6, .int a4)]) hx hb dX11_block_96 hl (by decide) rfl (fun ls hl => ?_)
                      refine lv_iload hx hb dX11_block_98 (lv_at hl 0 rfl) ?_
                      refine n_if_ne (tgt := 113) hx hb (by first | decide | omega) dX11_block_100 (by decide) (fun h_100 => ?_) (fun h_100 => ?_)
                      · exact absurd h_100 (by first | decide | omega)
                      · skip
                        exact x_throw (y := yX11_block) C hflags hw hE (kS := 7) (kT := 0) mw_119 mw_120 tIA_x rfl rfl (by decide) tIA_n tIA_g hl.1.symm dX11_block_103 dX11_block_106 dX11_block_107 dX11_block_109 dX11_block_112 htab (Nat.le_of_ble_eq_true rfl) (Nat.le_of_ble_eq_true rfl) (Nat.le_of_ble_eq_true rfl) (Nat.le_of_ble_eq_true rfl) hlocks (⟨rfl, hnok, rfl⟩) (Nat.le_of_ble_eq_true rfl) (Nat.le_of_ble_eq_true rfl)
                    · skip
                      have hf4 := fF_t hn16 h_88
                      refine lv_iconst (v := nI 1) hx hb dX11_block_91 (by decide) ?_
                      refine lv_goto (tgt := 96) hx hb dX11_block_92 (by decide) ?_
                      refine lv_istore (lv' := [(7, .int (nI 1)), (0, .ref x), (1, .int (nI kN)), (2, .int (nI nN)), (3, .int a1), (4, .int a2), (5, .int a3), (6, .int a4)]) hx hb dX11_block_96 hl (by decide) rfl (fun ls hl => ?_)
                      refine lv_iload hx hb dX11_block_98 (lv_at hl 0 rfl) ?_
                      refine n_if_ne (tgt := 113) hx hb (by first | decide | omega) dX11_block_100 (by decide) (fun h_100 => ?_) (fun h_100 => ?_)
                      · skip
                        refine lv_aload_n hx hb dX11_block_113 rfl (lv_at hl 1 rfl) ?_
                        refine p_new C hw hA (ci := 1) (Cn := RX0) (T := TX0) (N := 3) (fs := [.int (nI 0), .int (nI 0), .null]) tyX0 tyX0_ok rfl hin_RX0 (mU mw_619) (mU mw_620) (mU mw_146) (fun j hj => by rcases (show j = 0 ∨ j = 1 ∨ j = 2 by omega) with rfl | rfl | rfl <;> rfl) (Nat.le_of_ble_eq_true rfl) (Nat.le_of_ble_eq_true rfl) dX11_block_114 (fun st H hq_st hw => ?_)
                        obtain ⟨S613, hS613⟩ : ∃ z, z = pnew S st (.inr (1, [.int (nI 0), .int (nI 0), .null])) := ⟨_, rfl⟩
                        replace hw : pW D (pA S s.heap.size) s.heap S613 H locs := by rw [hS613]; exact hw
                        have hL614 : st ∈ S613.1 := by rw [hS613]; exact List.mem_append_right _ List.mem_cons_self
                        have hf615 : S613.2 st = .inr (1, [.int (nI 0), .int (nI 0), .null]) := by rw [hS613]; exact pnew_s
                        refine lv_dup hx hb dX11_block_117 rfl ?_
                        refine lv_iload_n hx hb dX11_block_118 rfl (lv_at hl 2 rfl) ?_
                        refine lv_iload_n hx hb dX11_block_119 rfl (lv_at hl 3 rfl) ?_
                        refine lv_iload_n hx hb dX11_block_120 rfl (lv_at hl 4 rfl) ?_
                        refine lv_iload hx hb dX11_block_121 (lv_at hl 5 rfl) ?_
                        refine lv_iload hx hb dX11_block_123 (lv_at hl 6 rfl) ?_
                        refine lv_iload hx hb dX11_block_125 (lv_at hl 7 rfl) ?_
                        refine p_callv (va_runI (As := [.int (nI kN), .int (nI nN), .int a1, .int a2, .int a3, .int a4]) (rest := [.ref st, .ref x]) C.fix (c_X0_init l D cy S613 H.size st 0 0 kN nN a1.toInt.toNat a2.toInt.toNat a3.toInt.toNat a4.toInt.toNat a1 a2 a3 a4 hL614 hf615 (by first | assumption | decide | omega) (fun _ => z_self hf1.1) (fun q => by first | exact z_self hf2.1 | (exfalso; omega)) (fun q => by first | exact z_self hf3.1 | (exfalso; omega)) (fun q => by first | exact z_self hf4.1 | (exfalso; omega))) (cwI 6 C.2.2.2.2.1 (gU_sub sub_X0_init) rfl rfl rfl (C.2.2.2.2.1 (.initialized RX0) (mU mw_146)) (C.2.2.2.2.1 (.methodLink RX11 114 yX0_init) (mU mw_621)) (C.2.2.2.2.1 (.instanceMethod yX0_init) (mU mw_622)) rfl (by decide +kernel) ⟨Nat.le_of_ble_eq_true rfl, Nat.le_of_ble_eq_true rfl⟩) (p_preS C hw) rfl rfl hl.1 rfl (lv_room (Nat.le_of_ble_eq_true rfl)) dX11_block_127 ⟨Nat.le_of_ble_eq_true rfl, Nat.le_of_ble_eq_true rfl⟩) hw hA (fun S616 H locs hpost hw => ?_)
                        obtain ⟨sw, hp618, hS_⟩ := hpost
                        obtain ⟨S619, hS619⟩ : ∃ z, z = pnew S613 sw (aN (cy 0) 16 (bwt kN a1.toInt.toNat a2.toInt.toNat a3.toInt.toNat a4.toInt.toNat 16)) := ⟨_, rfl⟩
                        rw [← hS619] at hS_
                        have hL620 : sw ∈ S619.1 := by rw [hS619]; exact List.mem_append_right _ List.mem_cons_self
                        have hf621 : S619.2 sw = aN (cy 0) 16 (bwt kN a1.toInt.toNat a2.toInt.toNat a3.toInt.toNat a4.toInt.toNat 16) := by rw [hS619]; exact pnew_s
                        have hL622 : st ∈ S619.1 := by rw [hS619]; exact List.mem_append_left _ hL614
                        have hf623 : S619.2 st = .inr (1, [.int (nI 0), .int (nI 0), .null]) := by rw [hS619]; exact (pnew_n (fun z : st = sw => hp618 (by rw [← z]; exact hL614))).trans hf615
                        have hS624 := hS_
                        have hL625 : st ∈ S616.1 := by rw [hS624]; exact hL622
                        have hf626 : S616.2 st = .inr (1, [.int (nI kN), .int (nI nN), .ref sw]) := by rw [hS624]; exact pup_s
                        have hL627 : x ∈ S613.1 := by rw [hS613]; exact List.mem_append_left _ hL_x
                        have hf628 : S613.2 x = .inr (11, [.ref ch, .ref ln, .ref sl, .ref mk, .ref co, .ref ca, .ref su, .ref lt]) := by rw [hS613]; exact (pnew_n (fun z : x = st => hq_st (by rw [← z]; exact hL_x))).trans hf_x
                        have hL629 : x ∈ S619.1 := by rw [hS619]; exact List.mem_append_left _ hL627
                        have hf630 : S619.2 x = .inr (11, [.ref ch, .ref ln, .ref sl, .ref mk, .ref co, .ref ca, .ref su, .ref lt]) := by rw [hS619]; exact (pnew_n (fun z : x = sw => hp618 (by rw [← z]; exact hL627))).trans hf628
                        have hL631 : x ∈ S616.1 := by rw [hS624]; exact hL629
                        have hf632 : S616.2 x = .inr (11, [.ref ch, .ref ln, .ref sl, .ref mk, .ref co, .ref ca, .ref su, .ref lt]) := by rw [hS624]; exact (pup_n (fun z : x = st => hq_st (by rw [← z]; exact hL_x))).trans hf630
                        have hL633 : ch ∈ S613.1 := by rw [hS613]; exact List.mem_append_left _ hL_ch
                        have hf634 : S613.2 ch = .inr (2, [.ref lk, .int (nI 0)]) := by rw [hS613]; exact (pnew_n (fun z : ch = st => hq_st (by rw [← z]; exact hL_ch))).trans hf_ch
                        have hL635 : ch ∈ S619.1 := by rw [hS619]; exact List.mem_append_left _ hL633
                        have hf636 : S619.2 ch = .inr (2, [.ref lk, .int (nI 0)]) := by rw [hS619]; exact (pnew_n (fun z : ch = sw => hp618 (by rw [← z]; exact hL633))).trans hf634
                        have hL637 : ch ∈ S616.1 := by rw [hS624]; exact hL635
                        have hf638 : S616.2 ch = .inr (2, [.ref lk, .int (nI 0)]) := by rw [hS624]; exact (pup_n (fun z : ch = st => hq_st (by rw [← z]; exact hL_ch))).trans hf636
                        have hL639 : lk ∈ S613.1 := by rw [hS613]; exact List.mem_append_left _ hL_lk
                        have hf640 : S613.2 lk = aQ (cy 3) 4 (fun _ => none) := by rw [hS613]; exact (pnew_n (fun z : lk = st => hq_st (by rw [← z]; exact hL_lk))).trans hf_lk
                        have hL641 : lk ∈ S619.1 := by rw [hS619]; exact List.mem_append_left _ hL639
                        have hf642 : S619.2 lk = aQ (cy 3) 4 (fun _ => none) := by rw [hS619]; exact (pnew_n (fun z : lk = sw => hp618 (by rw [← z]; exact hL639))).trans hf640
                        have hL643 : lk ∈ S616.1 := by rw [hS624]; exact hL641
                        have hf644 : S616.2 lk = aQ (cy 3) 4 (fun _ => none) := by rw [hS624]; exact (pup_n (fun z : lk = st => hq_st (by rw [← z]; exact hL_lk))).trans hf642
                        have hL645 : ln ∈ S613.1 := by rw [hS613]; exact List.mem_append_left _ hL_ln
                        have hf646 : S613.2 ln = .inr (6, [.int (nI 0), .int (nI 0), .int (nI 0), .int (nI 0)]) := by rw [hS613]; exact (pnew_n (fun z : ln = st => hq_st (by rw [← z]; exact hL_ln))).trans hf_ln
                        have hL647 : ln ∈ S619.1 := by rw [hS619]; exact List.mem_append_left _ hL645
                        have hf648 : S619.2 ln = .inr (6, [.int (nI 0), .int (nI 0), .int (nI 0), .int (nI 0)]) := by rw [hS619]; exact (pnew_n (fun z : ln = sw => hp618 (by rw [← z]; exact hL645))).trans hf646
                        have hL649 : ln ∈ S616.1 := by rw [hS624]; exact hL647
                        have hf650 : S616.2 ln = .inr (6, [.int (nI 0), .int (nI 0), .int (nI 0), .int (nI 0)]) := by rw [hS624]; exact (pup_n (fun z : ln = st => hq_st (by rw [← z]; exact hL_ln))).trans hf648
                        have hL651 : mk ∈ S613.1 := by rw [hS613]; exact List.mem_append_left _ hL_mk
                        have hf652 : S613.2 mk = .inr (8, [.ref mb, .int (nI 320)]) := by rw [hS613]; exact (pnew_n (fun z : mk = st => hq_st (by rw [← z]; exact hL_mk))).trans hf_mk
                        have hL653 : mk ∈ S619.1 := by rw [hS619]; exact List.mem_append_left _ hL651
                        have hf654 : S619.2 mk = .inr (8, [.ref mb, .int (nI 320)]) := by rw [hS619]; exact (pnew_n (fun z : mk = sw => hp618 (by rw [← z]; exact hL651))).trans hf652
                        have hL655 : mk ∈ S616.1 := by rw [hS624]; exact hL653
                        have hf656 : S616.2 mk = .inr (8, [.ref mb, .int (nI 320)]) := by rw [hS624]; exact (pup_n (fun z : mk = st => hq_st (by rw [← z]; exact hL_mk))).trans hf654
                        have hL657 : mb ∈ S613.1 := by rw [hS613]; exact List.mem_append_left _ hL_mb
                        have hf658 : S613.2 mb = aN (cy 0) 320 (fun _ => 0) := by rw [hS613]; exact (pnew_n (fun z : mb = st => hq_st (by rw [← z]; exact hL_mb))).trans hf_mb
                        have hL659 : mb ∈ S619.1 := by rw [hS619]; exact List.mem_append_left _ hL657
                        have hf660 : S619.2 mb = aN (cy 0) 320 (fun _ => 0) := by rw [hS619]; exact (pnew_n (fun z : mb = sw => hp618 (by rw [← z]; exact hL657))).trans hf658
                        have hL661 : mb ∈ S616.1 := by rw [hS624]; exact hL659
                        have hf662 : S616.2 mb = aN (cy 0) 320 (fun _ => 0) := by rw [hS624]; exact (pup_n (fun z : mb = st => hq_st (by rw [← z]; exact hL_mb))).trans hf660
                        have hL663 : co ∈ S613.1 := by rw [hS613]; exact List.mem_append_left _ hL_co
                        have hf664 : S613.2 co = .inr (5, [.ref col, .ref con]) := by rw [hS613]; exact (pnew_n (fun z : co = st => hq_st (by rw [← z]; exact hL_co))).trans hf_co
                        have hL665 : co ∈ S619.1 := by rw [hS619]; exact List.mem_append_left _ hL663
                        have hf666 : S619.2 co = .inr (5, [.ref col, .ref con]) := by rw [hS619]; exact (pnew_n (fun z : co = sw => hp618 (by rw [← z]; exact hL663))).trans hf664
                        have hL667 : co ∈ S616.1 := by rw [hS624]; exact hL665
                        have hf668 : S616.2 co = .inr (5, [.ref col, .ref con]) := by rw [hS624]; exact (pup_n (fun z : co = st => hq_st (by rw [← z]; exact hL_co))).trans hf666
                        have hL669 : col ∈ S613.1 := by rw [hS613]; exact List.mem_append_left _ hL_col
                        have hf670 : S613.2 col = aQ (cy 2) 5 (va_up (va_up (va_up (va_up (va_up (fun _ => none) 0 (some cor0)) 1 (some cor1)) 2 (some cor2)) 3 (some cor3)) 4 (some cor4)) := by rw [hS613]; exact (pnew_n (fun z : col = st => hq_st (by rw [← z]; exact hL_col))).trans hf_col
                        have hL671 : col ∈ S619.1 := by rw [hS619]; exact List.mem_append_left _ hL669
                        have hf672 : S619.2 col = aQ (cy 2) 5 (va_up (va_up (va_up (va_up (va_up (fun _ => none) 0 (some cor0)) 1 (some cor1)) 2 (some cor2)) 3 (some cor3)) 4 (some cor4)) := by rw [hS619]; exact (pnew_n (fun z : col = sw => hp618 (by rw [← z]; exact hL669))).trans hf670
                        have hL673 : col ∈ S616.1 := by rw [hS624]; exact hL671
                        have hf674 : S616.2 col = aQ (cy 2) 5 (va_up (va_up (va_up (va_up (va_up (fun _ => none) 0 (some cor0)) 1 (some cor1)) 2 (some cor2)) 3 (some cor3)) 4 (some cor4)) := by rw [hS624]; exact (pup_n (fun z : col = st => hq_st (by rw [← z]; exact hL_col))).trans hf672
                        have hL675 : cor0 ∈ S613.1 := by rw [hS613]; exact List.mem_append_left _ hL_cor0
                        have hf676 : S613.2 cor0 = .inr (8, [.ref cob0, .int (nI 0)]) := by rw [hS613]; exact (pnew_n (fun z : cor0 = st => hq_st (by rw [← z]; exact hL_cor0))).trans hf_cor0
                        have hL677 : cor0 ∈ S619.1 := by rw [hS619]; exact List.mem_append_left _ hL675
                        have hf678 : S619.2 cor0 = .inr (8, [.ref cob0, .int (nI 0)]) := by rw [hS619]; exact (pnew_n (fun z : cor0 = sw => hp618 (by rw [← z]; exact hL675))).trans hf676
                        have hL679 : cor0 ∈ S616.1 := by rw [hS624]; exact hL677
                        have hf680 : S616.2 cor0 = .inr (8, [.ref cob0, .int (nI 0)]) := by rw [hS624]; exact (pup_n (fun z : cor0 = st => hq_st (by rw [← z]; exact hL_cor0))).trans hf678
                        have hL681 : cor1 ∈ S613.1 := by rw [hS613]; exact List.mem_append_left _ hL_cor1
                        have hf682 : S613.2 cor1 = .inr (8, [.ref cob1, .int (nI 0)]) := by rw [hS613]; exact (pnew_n (fun z : cor1 = st => hq_st (by rw [← z]; exact hL_cor1))).trans hf_cor1
                        have hL683 : cor1 ∈ S619.1 := by rw [hS619]; exact List.mem_append_left _ hL681
                        have hf684 : S619.2 cor1 = .inr (8, [.ref cob1, .int (nI 0)]) := by rw [hS619]; exact (pnew_n (fun z : cor1 = sw => hp618 (by rw [← z]; exact hL681))).trans hf682
                        have hL685 : cor1 ∈ S616.1 := by rw [hS624]; exact hL683
                        have hf686 : S616.2 cor1 = .inr (8, [.ref cob1, .int (nI 0)]) := by rw [hS624]; exact (pup_n (fun z : cor1 = st => hq_st (by rw [← z]; exact hL_cor1))).trans hf684
                        have hL687 : cob1 ∈ S613.1 := by rw [hS613]; exact List.mem_append_left _ hL_cob1
                        have hf688 : S613.2 cob1 = aN (cy 0) 320 (fun _ => 0) := by rw [hS613]; exact (pnew_n (fun z : cob1 = st => hq_st (by rw [← z]; exact hL_cob1))).trans hf_cob1
                        have hL689 : cob1 ∈ S619.1 := by rw [hS619]; exact List.mem_append_left _ hL687
                        have hf690 : S619.2 cob1 = aN (cy 0) 320 (fun _ => 0) := by rw [hS619]; exact (pnew_n (fun z : cob1 = sw => hp618 (by rw [← z]; exact hL687))).trans hf688
                        have hL691 : cob1 ∈ S616.1 := by rw [hS624]; exact hL689
                        have hf692 : S616.2 cob1 = aN (cy 0) 320 (fun _ => 0) := by rw [hS624]; exact (pup_n (fun z : cob1 = st => hq_st (by rw [← z]; exact hL_cob1))).trans hf690
                        have hL693 : ca ∈ S613.1 := by rw [hS613]; exact List.mem_append_left _ hL_ca
                        have hf694 : S613.2 ca = .inr (5, [.ref cal, .ref can]) := by rw [hS613]; exact (pnew_n (fun z : ca = st => hq_st (by rw [← z]; exact hL_ca))).trans hf_ca
                        have hL695 : ca ∈ S619.1 := by rw [hS619]; exact List.mem_append_left _ hL693
                        have hf696 : S619.2 ca = .inr (5, [.ref cal, .ref can]) := by rw [hS619]; exact (pnew_n (fun z : ca = sw => hp618 (by rw [← z]; exact hL693))).trans hf694
                        have hL697 : ca ∈ S616.1 := by rw [hS624]; exact hL695
                        have hf698 : S616.2 ca = .inr (5, [.ref cal, .ref can]) := by rw [hS624]; exact (pup_n (fun z : ca = st => hq_st (by rw [← z]; exact hL_ca))).trans hf696
                        have hL699 : cal ∈ S613.1 := by rw [hS613]; exact List.mem_append_left _ hL_cal
                        have hf700 : S613.2 cal = aQ (cy 2) 5 (va_up (va_up (va_up (va_up (va_up (fun _ => none) 0 (some car0)) 1 (some car1)) 2 (some car2)) 3 (some car3)) 4 (some car4)) := by rw [hS613]; exact (pnew_n (fun z : cal = st => hq_st (by rw [← z]; exact hL_cal))).trans hf_cal
                        have hL701 : cal ∈ S619.1 := by rw [hS619]; exact List.mem_append_left _ hL699
                        have hf702 : S619.2 cal = aQ (cy 2) 5 (va_up (va_up (va_up (va_up (va_up (fun _ => none) 0 (some car0)) 1 (some car1)) 2 (some car2)) 3 (some car3)) 4 (some car4)) := by rw [hS619]; exact (pnew_n (fun z : cal = sw => hp618 (by rw [← z]; exact hL699))).trans hf700
                        have hL703 : cal ∈ S616.1 := by rw [hS624]; exact hL701
                        have hf704 : S616.2 cal = aQ (cy 2) 5 (va_up (va_up (va_up (va_up (va_up (fun _ => none) 0 (some car0)) 1 (some car1)) 2 (some car2)) 3 (some car3)) 4 (some car4)) := by rw [hS624]; exact (pup_n (fun z : cal = st => hq_st (by rw [← z]; exact hL_cal))).trans hf702
                        have hL705 : car0 ∈ S613.1 := by rw [hS613]; exact List.mem_append_left _ hL_car0
                        have hf706 : S613.2 car0 = .inr (8, [.ref cab0, .int (nI 0)]) := by rw [hS613]; exact (pnew_n (fun z : car0 = st => hq_st (by rw [← z]; exact hL_car0))).trans hf_car0
                        have hL707 : car0 ∈ S619.1 := by rw [hS619]; exact List.mem_append_left _ hL705
                        have hf708 : S619.2 car0 = .inr (8, [.ref cab0, .int (nI 0)]) := by rw [hS619]; exact (pnew_n (fun z : car0 = sw => hp618 (by rw [← z]; exact hL705))).trans hf706
                        have hL709 : car0 ∈ S616.1 := by rw [hS624]; exact hL707
                        have hf710 : S616.2 car0 = .inr (8, [.ref cab0, .int (nI 0)]) := by rw [hS624]; exact (pup_n (fun z : car0 = st => hq_st (by rw [← z]; exact hL_car0))).trans hf708
                        have hL711 : cab0 ∈ S613.1 := by rw [hS613]; exact List.mem_append_left _ hL_cab0
                        have hf712 : S613.2 cab0 = aN (cy 0) 32 (fun _ => 0) := by rw [hS613]; exact (pnew_n (fun z : cab0 = st => hq_st (by rw [← z]; exact hL_cab0))).trans hf_cab0
                        have hL713 : cab0 ∈ S619.1 := by rw [hS619]; exact List.mem_append_left _ hL711
                        have hf714 : S619.2 cab0 = aN (cy 0) 32 (fun _ => 0) := by rw [hS619]; exact (pnew_n (fun z : cab0 = sw => hp618 (by rw [← z]; exact hL711))).trans hf712
                        have hL715 : cab0 ∈ S616.1 := by rw [hS624]; exact hL713
                        have hf716 : S616.2 cab0 = aN (cy 0) 32 (fun _ => 0) := by rw [hS624]; exact (pup_n (fun z : cab0 = st => hq_st (by rw [← z]; exact hL_cab0))).trans hf714
                        have hL717 : car1 ∈ S613.1 := by rw [hS613]; exact List.mem_append_left _ hL_car1
                        have hf718 : S613.2 car1 = .inr (8, [.ref cab1, .int (nI 0)]) := by rw [hS613]; exact (pnew_n (fun z : car1 = st => hq_st (by rw [← z]; exact hL_car1))).trans hf_car1
                        have hL719 : car1 ∈ S619.1 := by rw [hS619]; exact List.mem_append_left _ hL717
                        have hf720 : S619.2 car1 = .inr (8, [.ref cab1, .int (nI 0)]) := by rw [hS619]; exact (pnew_n (fun z : car1 = sw => hp618 (by rw [← z]; exact hL717))).trans hf718
                        have hL721 : car1 ∈ S616.1 := by rw [hS624]; exact hL719
                        have hf722 : S616.2 car1 = .inr (8, [.ref cab1, .int (nI 0)]) := by rw [hS624]; exact (pup_n (fun z : car1 = st => hq_st (by rw [← z]; exact hL_car1))).trans hf720
                        have hL723 : cab1 ∈ S613.1 := by rw [hS613]; exact List.mem_append_left _ hL_cab1
                        have hf724 : S613.2 cab1 = aN (cy 0) 320 (fun _ => 0) := by rw [hS613]; exact (pnew_n (fun z : cab1 = st => hq_st (by rw [← z]; exact hL_cab1))).trans hf_cab1
                        have hL725 : cab1 ∈ S619.1 := by rw [hS619]; exact List.mem_append_left _ hL723
                        have hf726 : S619.2 cab1 = aN (cy 0) 320 (fun _ => 0) := by rw [hS619]; exact (pnew_n (fun z : cab1 = sw => hp618 (by rw [← z]; exact hL723))).trans hf724
                        have hL727 : cab1 ∈ S616.1 := by rw [hS624]; exact hL725
                        have hf728 : S616.2 cab1 = aN (cy 0) 320 (fun _ => 0) := by rw [hS624]; exact (pup_n (fun z : cab1 = st => hq_st (by rw [← z]; exact hL_cab1))).trans hf726
                        refine p_calli (va_runV (As := [.ref st]) (rest := []) C.fix (e_X11_putBehindblk l D cy S616 H.size x st ch ln sl mk co ca su lt lk mb col con cor0 cor1 cor2 cor3 cor4 cob0 cob1 cal can car0 car1 car2 car3 car4 cab0 cab1 sw kN nN hL631 hf632 hL637 hf638 hL643 hf644 hL649 hf650 hL655 hf656 hL661 hf662 hL667 hf668 hL673 hf674 hL679 hf680 hL685 hf686 hL691 hf692 hL697 hf698 hL703 hf704 hL709 hf710 hL715 hf716 hL721 hf722 hL727 hf728 hL625 hf626 hne_col_lk hne_cal_lk hne_cor0_cor1 hne_mk_cor1 hne_car1_cor1 hne_cob1_cab1 hne_mk_car1 hne_mb_cab1 hne_cor0_car1 hne_car0_cor1 hne_car0_car1 hne_cab0_cab1 (by first | assumption | decide | omega)) (cwV 1 C.2.2.2.2.1 (gU_V mw_576 mw_577 mw_578 mw_2 (subU mw_579)) rfl rfl rfl hde_X11_block_V_1 ⟨Nat.le_of_ble_eq_true rfl, Nat.le_of_ble_eq_true rfl⟩) (p_preV C hw hL631 hf632 rfl) rfl rfl hl.1 rfl (lv_room (Nat.le_of_ble_eq_true rfl)) dX11_block_130 ⟨Nat.le_of_ble_eq_true rfl, Nat.le_of_ble_eq_true rfl⟩) hw hA (fun r730 S729 H locs hpost hw => ?_)
                        obtain ⟨hr_, hS731, hfr732⟩ := hpost
                        subst hr_
                        refine vx_ret ?_
                        exact (p_iret C hw (⟨st, sw, ⟨⟨by omega, by omega⟩, ⟨by omega, by omega⟩, by rw [hnn]; exact hf1, (fun q => by rw [hnn]; first | exact hf2 | (exfalso; omega)), (fun q => by rw [hnn]; first | exact hf3 | (exfalso; omega)), (fun q => by rw [hnn]; first | exact hf4 | (exfalso; omega))⟩, rfl, (by simp only [hS731, hS624, hS619, hS613, pup, pnew, List.append_nil, List.append_assoc, List.cons_append, List.nil_append]), (fun a_ ha_ hn_0 hn_1 hn_2 hn_3 hn_4 hn_5 => ((hfr732 a_ (show a_ ∈ S616.1 from by rw [hS624]; exact (show a_ ∈ S619.1 from by rw [hS619]; exact List.mem_append_left _ (show a_ ∈ S613.1 from by rw [hS613]; exact List.mem_append_left _ ha_))) hn_0 hn_1 hn_2 hn_3 hn_4 hn_5).trans ((show S616.2 a_ = S619.2 a_ from by rw [hS624]; exact pup_n (fun z : a_ = st => hq_st (by rw [← z]; exact ha_))).trans ((show S619.2 a_ = S613.2 a_ from by rw [hS619]; exact pnew_n (fun z : a_ = sw => hp618 (by rw [← z]; exact (show a_ ∈ S613.1 from by rw [hS613]; exact List.mem_append_left _ ha_)))).trans (show S613.2 a_ = S.2 a_ from by rw [hS613]; exact pnew_n (fun z : a_ = st => hq_st (by rw [← z]; exact ha_)))))))⟩) hr hlocks dX11_block_133)
                      · exact absurd h_100 (by first | decide | omega)
                · skip
                  refine lv_iload hx hb dX11_block_68 (lv_at hl 5 rfl) ?_
                  refine lv_iload_n hx hb dX11_block_70 rfl (lv_at hl 2 rfl) ?_
                  refine p_calli (va_runS (As := [.int a3, .int (nI nN)]) (rest := []) C.fix (c_X11_fits l D cy S H.size a3 nN (by first | assumption | decide | omega)) (va_cwS 2 C.2.2.2.2.1 (gU_S mw_123 mw_124 mw_2 sub_X11_fits) rfl rfl rfl hde_X11_block_S_0 ⟨Nat.le_of_ble_eq_true rfl, Nat.le_of_ble_eq_true rfl⟩) (p_preS C hw) rfl rfl hl.1 rfl (lv_room (Nat.le_of_ble_eq_true rfl)) dX11_block_71 ⟨Nat.le_of_ble_eq_true rfl, Nat.le_of_ble_eq_true rfl⟩) hw hA (fun r734 S733 H locs hpost hw => ?_)
                  obtain ⟨hr_, hS_⟩ := hpost
                  subst hr_
                  subst hS_
                  refine n_if_eq (tgt := 95) hx hb (by split <;> decide) dX11_block_74 (by decide) (fun h_74 => ?_) (fun h_74 => ?_)
                  · skip
                    have hf3 := fF_f hn16 h_74
                    have hnok : ¬ okB6 (nI kN) (nI nN) a1 a2 a3 a4 := fun h => hf3 (by have h1 := h.2.2.2.2.1 (by omega); rw [hnn] at h1; exact h1)
                    refine lv_iconst (v := nI 0) hx hb dX11_block_95 (by decide) ?_
                    refine lv_istore (lv' := [(7, .int (nI 0)), (0, .ref x), (1, .int (nI kN)), (2, .int (nI nN)), (3, .int a1), (4, .int a2), (5, .int a3), (6, .int a4)]) hx hb dX11_block_96 hl (by decide) rfl (fun ls hl => ?_)
                    refine lv_iload hx hb dX11_block_98 (lv_at hl 0 rfl) ?_
                    refine n_if_ne (tgt := 113) hx hb (by first | decide | omega) dX11_block_100 (by decide) (fun h_100 => ?_) (fun h_100 => ?_)
                    · exact absurd h_100 (by first | decide | omega)
                    · skip
                      exact x_throw (y := yX11_block) C hflags hw hE (kS := 7) (kT := 0) mw_119 mw_120 tIA_x rfl rfl (by decide) tIA_n tIA_g hl.1.symm dX11_block_103 dX11_block_106 dX11_block_107 dX11_block_109 dX11_block_112 htab (Nat.le_of_ble_eq_true rfl) (Nat.le_of_ble_eq_true rfl) (Nat.le_of_ble_eq_true rfl) (Nat.le_of_ble_eq_true rfl) hlocks (⟨rfl, hnok, rfl⟩) (Nat.le_of_ble_eq_true rfl) (Nat.le_of_ble_eq_true rfl)
                  · skip
                    have hf3 := fF_t hn16 h_74
                    refine lv_iload_n hx hb dX11_block_77 rfl (lv_at hl 1 rfl) ?_
                    refine lv_iconst (v := nI 4) hx hb dX11_block_78 (by decide) ?_
                    refine n_icmp_lt (tgt := 91) hx hb (by first | decide | omega) (by first | decide | omega) dX11_block_79 (by decide) (fun h_79 => ?_) (fun h_79 => ?_)
                    · skip
                      refine lv_iconst (v := nI 1) hx hb dX11_block_91 (by decide) ?_
                      refine lv_goto (tgt := 96) hx hb dX11_block_92 (by decide) ?_
                      refine lv_istore (lv' := [(7, .int (nI 1)), (0, .ref x), (1, .int (nI kN)), (2, .int (nI nN)), (3, .int a1), (4, .int a2), (5, .int a3), (6, .int a4)]) hx hb dX11_block_96 hl (by decide) rfl (fun ls hl => ?_)
                      refine lv_iload hx hb dX11_block_98 (lv_at hl 0 rfl) ?_
                      refine n_if_ne (tgt := 113) hx hb (by first | decide | omega) dX11_block_100 (by decide) (fun h_100 => ?_) (fun h_100 => ?_)
                      · skip
                        refine lv_aload_n hx hb dX11_block_113 rfl (lv_at hl 1 rfl) ?_
                        refine p_new C hw hA (ci := 1) (Cn := RX0) (T := TX0) (N := 3) (fs := [.int (nI 0), .int (nI 0), .null]) tyX0 tyX0_ok rfl hin_RX0 (mU mw_619) (mU mw_620) (mU mw_146) (fun j hj => by rcases (show j = 0 ∨ j = 1 ∨ j = 2 by omega) with rfl | rfl | rfl <;> rfl) (Nat.le_of_ble_eq_true rfl) (Nat.le_of_ble_eq_true rfl) dX11_block_114 (fun st H hq_st hw => ?_)
                        obtain ⟨S735, hS735⟩ : ∃ z, z = pnew S st (.inr (1, [.int (nI 0), .int (nI 0), .null])) := ⟨_, rfl⟩
                        replace hw : pW D (pA S s.heap.size) s.heap S735 H locs := by rw [hS735]; exact hw
                        have hL736 : st ∈ S735.1 := by rw [hS735]; exact List.mem_append_right _ List.mem_cons_self
                        have hf737 : S735.2 st = .inr (1, [.int (nI 0), .int (nI 0), .null]) := by rw [hS735]; exact pnew_s
                        refine lv_dup hx hb dX11_block_117 rfl ?_
                        refine lv_iload_n hx hb dX11_block_118 rfl (lv_at hl 2 rfl) ?_
                        refine lv_iload_n hx hb dX11_block_119 rfl (lv_at hl 3 rfl) ?_
                        refine lv_iload_n hx hb dX11_block_120 rfl (lv_at hl 4 rfl) ?_
                        refine lv_iload hx hb dX11_block_121 (lv_at hl 5 rfl) ?_
                        refine lv_iload hx hb dX11_block_123 (lv_at hl 6 rfl) ?_
                        refine lv_iload hx hb dX11_block_125 (lv_at hl 7 rfl) ?_
                        refine p_callv (va_runI (As := [.int (nI kN), .int (nI nN), .int a1, .int a2, .int a3, .int a4]) (rest := [.ref st, .ref x]) C.fix (c_X0_init l D cy S735 H.size st 0 0 kN nN a1.toInt.toNat a2.toInt.toNat a3.toInt.toNat a4.toInt.toNat a1 a2 a3 a4 hL736 hf737 (by first | assumption | decide | omega) (fun _ => z_self hf1.1) (fun q => by first | exact z_self hf2.1 | (exfalso; omega)) (fun q => by first | exact z_self hf3.1 | (exfalso; omega)) (fun q => by first | exact z_self hf4.1 | (exfalso; omega))) (cwI 6 C.2.2.2.2.1 (gU_sub sub_X0_init) rfl rfl rfl (C.2.2.2.2.1 (.initialized RX0) (mU mw_146)) (C.2.2.2.2.1 (.methodLink RX11 114 yX0_init) (mU mw_621)) (C.2.2.2.2.1 (.instanceMethod yX0_init) (mU mw_622)) rfl (by decide +kernel) ⟨Nat.le_of_ble_eq_true rfl, Nat.le_of_ble_eq_true rfl⟩) (p_preS C hw) rfl rfl hl.1 rfl (lv_room (Nat.le_of_ble_eq_true rfl)) dX11_block_127 ⟨Nat.le_of_ble_eq_true rfl, Nat.le_of_ble_eq_true rfl⟩) hw hA (fun S738 H locs hpost hw => ?_)
                        obtain ⟨sw, hp740, hS_⟩ := hpost
                        obtain ⟨S741, hS741⟩ : ∃ z, z = pnew S735 sw (aN (cy 0) 16 (bwt kN a1.toInt.toNat a2.toInt.toNat a3.toInt.toNat a4.toInt.toNat 16)) := ⟨_, rfl⟩
                        rw [← hS741] at hS_
                        have hL742 : sw ∈ S741.1 := by rw [hS741]; exact List.mem_append_right _ List.mem_cons_self
                        have hf743 : S741.2 sw = aN (cy 0) 16 (bwt kN a1.toInt.toNat a2.toInt.toNat a3.toInt.toNat a4.toInt.toNat 16) := by rw [hS741]; exact pnew_s
                        have hL744 : st ∈ S741.1 := by rw [hS741]; exact List.mem_append_left _ hL736
                        have hf745 : S741.2 st = .inr (1, [.int (nI 0), .int (nI 0), .null]) := by rw [hS741]; exact (pnew_n (fun z : st = sw => hp740 (by rw [← z]; exact hL736))).trans hf737
                        have hS746 := hS_
                        have hL747 : st ∈ S738.1 := by rw [hS746]; exact hL744
                        have hf748 : S738.2 st = .inr (1, [.int (nI kN), .int (nI nN), .ref sw]) := by rw [hS746]; exact pup_s
                        have hL749 : x ∈ S735.1 := by rw [hS735]; exact List.mem_append_left _ hL_x
                        have hf750 : S735.2 x = .inr (11, [.ref ch, .ref ln, .ref sl, .ref mk, .ref co, .ref ca, .ref su, .ref lt]) := by rw [hS735]; exact (pnew_n (fun z : x = st => hq_st (by rw [← z]; exact hL_x))).trans hf_x
                        have hL751 : x ∈ S741.1 := by rw [hS741]; exact List.mem_append_left _ hL749
                        have hf752 : S741.2 x = .inr (11, [.ref ch, .ref ln, .ref sl, .ref mk, .ref co, .ref ca, .ref su, .ref lt]) := by rw [hS741]; exact (pnew_n (fun z : x = sw => hp740 (by rw [← z]; exact hL749))).trans hf750
                        have hL753 : x ∈ S738.1 := by rw [hS746]; exact hL751
                        have hf754 : S738.2 x = .inr (11, [.ref ch, .ref ln, .ref sl, .ref mk, .ref co, .ref ca, .ref su, .ref lt]) := by rw [hS746]; exact (pup_n (fun z : x = st => hq_st (by rw [← z]; exact hL_x))).trans hf752
                        have hL755 : ch ∈ S735.1 := by rw [hS735]; exact List.mem_append_left _ hL_ch
                        have hf756 : S735.2 ch = .inr (2, [.ref lk, .int (nI 0)]) := by rw [hS735]; exact (pnew_n (fun z : ch = st => hq_st (by rw [← z]; exact hL_ch))).trans hf_ch
                        have hL757 : ch ∈ S741.1 := by rw [hS741]; exact List.mem_append_left _ hL755
                        have hf758 : S741.2 ch = .inr (2, [.ref lk, .int (nI 0)]) := by rw [hS741]; exact (pnew_n (fun z : ch = sw => hp740 (by rw [← z]; exact hL755))).trans hf756
                        have hL759 : ch ∈ S738.1 := by rw [hS746]; exact hL757
                        have hf760 : S738.2 ch = .inr (2, [.ref lk, .int (nI 0)]) := by rw [hS746]; exact (pup_n (fun z : ch = st => hq_st (by rw [← z]; exact hL_ch))).trans hf758
                        have hL761 : lk ∈ S735.1 := by rw [hS735]; exact List.mem_append_left _ hL_lk
                        have hf762 : S735.2 lk = aQ (cy 3) 4 (fun _ => none) := by rw [hS735]; exact (pnew_n (fun z : lk = st => hq_st (by rw [← z]; exact hL_lk))).trans hf_lk
                        have hL763 : lk ∈ S741.1 := by rw [hS741]; exact List.mem_append_left _ hL761
                        have hf764 : S741.2 lk = aQ (cy 3) 4 (fun _ => none) := by rw [hS741]; exact (pnew_n (fun z : lk = sw => hp740 (by rw [← z]; exact hL761))).trans hf762
                        have hL765 : lk ∈ S738.1 := by rw [hS746]; exact hL763
                        have hf766 : S738.2 lk = aQ (cy 3) 4 (fun _ => none) := by rw [hS746]; exact (pup_n (fun z : lk = st => hq_st (by rw [← z]; exact hL_lk))).trans hf764
                        have hL767 : ln ∈ S735.1 := by rw [hS735]; exact List.mem_append_left _ hL_ln
                        have hf768 : S735.2 ln = .inr (6, [.int (nI 0), .int (nI 0), .int (nI 0), .int (nI 0)]) := by rw [hS735]; exact (pnew_n (fun z : ln = st => hq_st (by rw [← z]; exact hL_ln))).trans hf_ln
                        have hL769 : ln ∈ S741.1 := by rw [hS741]; exact List.mem_append_left _ hL767
                        have hf770 : S741.2 ln = .inr (6, [.int (nI 0), .int (nI 0), .int (nI 0), .int (nI 0)]) := by rw [hS741]; exact (pnew_n (fun z : ln = sw => hp740 (by rw [← z]; exact hL767))).trans hf768
                        have hL771 : ln ∈ S738.1 := by rw [hS746]; exact hL769
                        have hf772 : S738.2 ln = .inr (6, [.int (nI 0), .int (nI 0), .int (nI 0), .int (nI 0)]) := by rw [hS746]; exact (pup_n (fun z : ln = st => hq_st (by rw [← z]; exact hL_ln))).trans hf770
                        have hL773 : mk ∈ S735.1 := by rw [hS735]; exact List.mem_append_left _ hL_mk
                        have hf774 : S735.2 mk = .inr (8, [.ref mb, .int (nI 320)]) := by rw [hS735]; exact (pnew_n (fun z : mk = st => hq_st (by rw [← z]; exact hL_mk))).trans hf_mk
                        have hL775 : mk ∈ S741.1 := by rw [hS741]; exact List.mem_append_left _ hL773
                        have hf776 : S741.2 mk = .inr (8, [.ref mb, .int (nI 320)]) := by rw [hS741]; exact (pnew_n (fun z : mk = sw => hp740 (by rw [← z]; exact hL773))).trans hf774
                        have hL777 : mk ∈ S738.1 := by rw [hS746]; exact hL775
                        have hf778 : S738.2 mk = .inr (8, [.ref mb, .int (nI 320)]) := by rw [hS746]; exact (pup_n (fun z : mk = st => hq_st (by rw [← z]; exact hL_mk))).trans hf776
                        have hL779 : mb ∈ S735.1 := by rw [hS735]; exact List.mem_append_left _ hL_mb
                        have hf780 : S735.2 mb = aN (cy 0) 320 (fun _ => 0) := by rw [hS735]; exact (pnew_n (fun z : mb = st => hq_st (by rw [← z]; exact hL_mb))).trans hf_mb
                        have hL781 : mb ∈ S741.1 := by rw [hS741]; exact List.mem_append_left _ hL779
                        have hf782 : S741.2 mb = aN (cy 0) 320 (fun _ => 0) := by rw [hS741]; exact (pnew_n (fun z : mb = sw => hp740 (by rw [← z]; exact hL779))).trans hf780
                        have hL783 : mb ∈ S738.1 := by rw [hS746]; exact hL781
                        have hf784 : S738.2 mb = aN (cy 0) 320 (fun _ => 0) := by rw [hS746]; exact (pup_n (fun z : mb = st => hq_st (by rw [← z]; exact hL_mb))).trans hf782
                        have hL785 : co ∈ S735.1 := by rw [hS735]; exact List.mem_append_left _ hL_co
                        have hf786 : S735.2 co = .inr (5, [.ref col, .ref con]) := by rw [hS735]; exact (pnew_n (fun z : co = st => hq_st (by rw [← z]; exact hL_co))).trans hf_co
                        have hL787 : co ∈ S741.1 := by rw [hS741]; exact List.mem_append_left _ hL785
                        have hf788 : S741.2 co = .inr (5, [.ref col, .ref con]) := by rw [hS741]; exact (pnew_n (fun z : co = sw => hp740 (by rw [← z]; exact hL785))).trans hf786
                        have hL789 : co ∈ S738.1 := by rw [hS746]; exact hL787
                        have hf790 : S738.2 co = .inr (5, [.ref col, .ref con]) := by rw [hS746]; exact (pup_n (fun z : co = st => hq_st (by rw [← z]; exact hL_co))).trans hf788
                        have hL791 : col ∈ S735.1 := by rw [hS735]; exact List.mem_append_left _ hL_col
                        have hf792 : S735.2 col = aQ (cy 2) 5 (va_up (va_up (va_up (va_up (va_up (fun _ => none) 0 (some cor0)) 1 (some cor1)) 2 (some cor2)) 3 (some cor3)) 4 (some cor4)) := by rw [hS735]; exact (pnew_n (fun z : col = st => hq_st (by rw [← z]; exact hL_col))).trans hf_col
                        have hL793 : col ∈ S741.1 := by rw [hS741]; exact List.mem_append_left _ hL791
                        have hf794 : S741.2 col = aQ (cy 2) 5 (va_up (va_up (va_up (va_up (va_up (fun _ => none) 0 (some cor0)) 1 (some cor1)) 2 (some cor2)) 3 (some cor3)) 4 (some cor4)) := by rw [hS741]; exact (pnew_n (fun z : col = sw => hp740 (by rw [← z]; exact hL791))).trans hf792
                        have hL795 : col ∈ S738.1 := by rw [hS746]; exact hL793
                        have hf796 : S738.2 col = aQ (cy 2) 5 (va_up (va_up (va_up (va_up (va_up (fun _ => none) 0 (some cor0)) 1 (some cor1)) 2 (some cor2)) 3 (some cor3)) 4 (some cor4)) := by rw [hS746]; exact (pup_n (fun z : col = st => hq_st (by rw [← z]; exact hL_col))).trans hf794
                        have hL797 : cor0 ∈ S735.1 := by rw [hS735]; exact List.mem_append_left _ hL_cor0
                        have hf798 : S735.2 cor0 = .inr (8, [.ref cob0, .int (nI 0)]) := by rw [hS735]; exact (pnew_n (fun z : cor0 = st => hq_st (by rw [← z]; exact hL_cor0))).trans hf_cor0
                        have hL799 : cor0 ∈ S741.1 := by rw [hS741]; exact List.mem_append_left _ hL797
                        have hf800 : S741.2 cor0 = .inr (8, [.ref cob0, .int (nI 0)]) := by rw [hS741]; exact (pnew_n (fun z : cor0 = sw => hp740 (by rw [← z]; exact hL797))).trans hf798
                        have hL801 : cor0 ∈ S738.1 := by rw [hS746]; exact hL799
                        have hf802 : S738.2 cor0 = .inr (8, [.ref cob0, .int (nI 0)]) := by rw [hS746]; exact (pup_n (fun z : cor0 = st => hq_st (by rw [← z]; exact hL_cor0))).trans hf800
                        have hL803 : cor1 ∈ S735.1 := by rw [hS735]; exact List.mem_append_left _ hL_cor1
                        have hf804 : S735.2 cor1 = .inr (8, [.ref cob1, .int (nI 0)]) := by rw [hS735]; exact (pnew_n (fun z : cor1 = st => hq_st (by rw [← z]; exact hL_cor1))).trans hf_cor1
                        have hL805 : cor1 ∈ S741.1 := by rw [hS741]; exact List.mem_append_left _ hL803
                        have hf806 : S741.2 cor1 = .inr (8, [.ref cob1, .int (nI 0)]) := by rw [hS741]; exact (pnew_n (fun z : cor1 = sw => hp740 (by rw [← z]; exact hL803))).trans hf804
                        have hL807 : cor1 ∈ S738.1 := by rw [hS746]; exact hL805
                        have hf808 : S738.2 cor1 = .inr (8, [.ref cob1, .int (nI 0)]) := by rw [hS746]; exact (pup_n (fun z : cor1 = st => hq_st (by rw [← z]; exact hL_cor1))).trans hf806
                        have hL809 : cob1 ∈ S735.1 := by rw [hS735]; exact List.mem_append_left _ hL_cob1
                        have hf810 : S735.2 cob1 = aN (cy 0) 320 (fun _ => 0) := by rw [hS735]; exact (pnew_n (fun z : cob1 = st => hq_st (by rw [← z]; exact hL_cob1))).trans hf_cob1
                        have hL811 : cob1 ∈ S741.1 := by rw [hS741]; exact List.mem_append_left _ hL809
                        have hf812 : S741.2 cob1 = aN (cy 0) 320 (fun _ => 0) := by rw [hS741]; exact (pnew_n (fun z : cob1 = sw => hp740 (by rw [← z]; exact hL809))).trans hf810
                        have hL813 : cob1 ∈ S738.1 := by rw [hS746]; exact hL811
                        have hf814 : S738.2 cob1 = aN (cy 0) 320 (fun _ => 0) := by rw [hS746]; exact (pup_n (fun z : cob1 = st => hq_st (by rw [← z]; exact hL_cob1))).trans hf812
                        have hL815 : ca ∈ S735.1 := by rw [hS735]; exact List.mem_append_left _ hL_ca
                        have hf816 : S735.2 ca = .inr (5, [.ref cal, .ref can]) := by rw [hS735]; exact (pnew_n (fun z : ca = st => hq_st (by rw [← z]; exact hL_ca))).trans hf_ca
                        have hL817 : ca ∈ S741.1 := by rw [hS741]; exact List.mem_append_left _ hL815
                        have hf818 : S741.2 ca = .inr (5, [.ref cal, .ref can]) := by rw [hS741]; exact (pnew_n (fun z : ca = sw => hp740 (by rw [← z]; exact hL815))).trans hf816
                        have hL819 : ca ∈ S738.1 := by rw [hS746]; exact hL817
                        have hf820 : S738.2 ca = .inr (5, [.ref cal, .ref can]) := by rw [hS746]; exact (pup_n (fun z : ca = st => hq_st (by rw [← z]; exact hL_ca))).trans hf818
                        have hL821 : cal ∈ S735.1 := by rw [hS735]; exact List.mem_append_left _ hL_cal
                        have hf822 : S735.2 cal = aQ (cy 2) 5 (va_up (va_up (va_up (va_up (va_up (fun _ => none) 0 (some car0)) 1 (some car1)) 2 (some car2)) 3 (some car3)) 4 (some car4)) := by rw [hS735]; exact (pnew_n (fun z : cal = st => hq_st (by rw [← z]; exact hL_cal))).trans hf_cal
                        have hL823 : cal ∈ S741.1 := by rw [hS741]; exact List.mem_append_left _ hL821
                        have hf824 : S741.2 cal = aQ (cy 2) 5 (va_up (va_up (va_up (va_up (va_up (fun _ => none) 0 (some car0)) 1 (some car1)) 2 (some car2)) 3 (some car3)) 4 (some car4)) := by rw [hS741]; exact (pnew_n (fun z : cal = sw => hp740 (by rw [← z]; exact hL821))).trans hf822
                        have hL825 : cal ∈ S738.1 := by rw [hS746]; exact hL823
                        have hf826 : S738.2 cal = aQ (cy 2) 5 (va_up (va_up (va_up (va_up (va_up (fun _ => none) 0 (some car0)) 1 (some car1)) 2 (some car2)) 3 (some car3)) 4 (some car4)) := by rw [hS746]; exact (pup_n (fun z : cal = st => hq_st (by rw [← z]; exact hL_cal))).trans hf824
                        have hL827 : car0 ∈ S735.1 := by rw [hS735]; exact List.mem_append_left _ hL_car0
                        have hf828 : S735.2 car0 = .inr (8, [.ref cab0, .int (nI 0)]) := by rw [hS735]; exact (pnew_n (fun z : car0 = st => hq_st (by rw [← z]; exact hL_car0))).trans hf_car0
                        have hL829 : car0 ∈ S741.1 := by rw [hS741]; exact List.mem_append_left _ hL827
                        have hf830 : S741.2 car0 = .inr (8, [.ref cab0, .int (nI 0)]) := by rw [hS741]; exact (pnew_n (fun z : car0 = sw => hp740 (by rw [← z]; exact hL827))).trans hf828
                        have hL831 : car0 ∈ S738.1 := by rw [hS746]; exact hL829
                        have hf832 : S738.2 car0 = .inr (8, [.ref cab0, .int (nI 0)]) := by rw [hS746]; exact (pup_n (fun z : car0 = st => hq_st (by rw [← z]; exact hL_car0))).trans hf830
                        have hL833 : cab0 ∈ S735.1 := by rw [hS735]; exact List.mem_append_left _ hL_cab0
                        have hf834 : S735.2 cab0 = aN (cy 0) 32 (fun _ => 0) := by rw [hS735]; exact (pnew_n (fun z : cab0 = st => hq_st (by rw [← z]; exact hL_cab0))).trans hf_cab0
                        have hL835 : cab0 ∈ S741.1 := by rw [hS741]; exact List.mem_append_left _ hL833
                        have hf836 : S741.2 cab0 = aN (cy 0) 32 (fun _ => 0) := by rw [hS741]; exact (pnew_n (fun z : cab0 = sw => hp740 (by rw [← z]; exact hL833))).trans hf834
                        have hL837 : cab0 ∈ S738.1 := by rw [hS746]; exact hL835
                        have hf838 : S738.2 cab0 = aN (cy 0) 32 (fun _ => 0) := by rw [hS746]; exact (pup_n (fun z : cab0 = st => hq_st (by rw [← z]; exact hL_cab0))).trans hf836
                        have hL839 : car1 ∈ S735.1 := by rw [hS735]; exact List.mem_append_left _ hL_car1
                        have hf840 : S735.2 car1 = .inr (8, [.ref cab1, .int (nI 0)]) := by rw [hS735]; exact (pnew_n (fun z : car1 = st => hq_st (by rw [← z]; exact hL_car1))).trans hf_car1
                        have hL841 : car1 ∈ S741.1 := by rw [hS741]; exact List.mem_append_left _ hL839
                        have hf842 : S741.2 car1 = .inr (8, [.ref cab1, .int (nI 0)]) := by rw [hS741]; exact (pnew_n (fun z : car1 = sw => hp740 (by rw [← z]; exact hL839))).trans hf840
                        have hL843 : car1 ∈ S738.1 := by rw [hS746]; exact hL841
                        have hf844 : S738.2 car1 = .inr (8, [.ref cab1, .int (nI 0)]) := by rw [hS746]; exact (pup_n (fun z : car1 = st => hq_st (by rw [← z]; exact hL_car1))).trans hf842
                        have hL845 : cab1 ∈ S735.1 := by rw [hS735]; exact List.mem_append_left _ hL_cab1
                        have hf846 : S735.2 cab1 = aN (cy 0) 320 (fun _ => 0) := by rw [hS735]; exact (pnew_n (fun z : cab1 = st => hq_st (by rw [← z]; exact hL_cab1))).trans hf_cab1
                        have hL847 : cab1 ∈ S741.1 := by rw [hS741]; exact List.mem_append_left _ hL845
                        have hf848 : S741.2 cab1 = aN (cy 0) 320 (fun _ => 0) := by rw [hS741]; exact (pnew_n (fun z : cab1 = sw => hp740 (by rw [← z]; exact hL845))).trans hf846
                        have hL849 : cab1 ∈ S738.1 := by rw [hS746]; exact hL847
                        have hf850 : S738.2 cab1 = aN (cy 0) 320 (fun _ => 0) := by rw [hS746]; exact (pup_n (fun z : cab1 = st => hq_st (by rw [← z]; exact hL_cab1))).trans hf848
                        refine p_calli (va_runV (As := [.ref st]) (rest := []) C.fix (e_X11_putBehindblk l D cy S738 H.size x st ch ln sl mk co ca su lt lk mb col con cor0 cor1 cor2 cor3 cor4 cob0 cob1 cal can car0 car1 car2 car3 car4 cab0 cab1 sw kN nN hL753 hf754 hL759 hf760 hL765 hf766 hL771 hf772 hL777 hf778 hL783 hf784 hL789 hf790 hL795 hf796 hL801 hf802 hL807 hf808 hL813 hf814 hL819 hf820 hL825 hf826 hL831 hf832 hL837 hf838 hL843 hf844 hL849 hf850 hL747 hf748 hne_col_lk hne_cal_lk hne_cor0_cor1 hne_mk_cor1 hne_car1_cor1 hne_cob1_cab1 hne_mk_car1 hne_mb_cab1 hne_cor0_car1 hne_car0_cor1 hne_car0_car1 hne_cab0_cab1 (by first | assumption | decide | omega)) (cwV 1 C.2.2.2.2.1 (gU_V mw_576 mw_577 mw_578 mw_2 (subU mw_579)) rfl rfl rfl hde_X11_block_V_1 ⟨Nat.le_of_ble_eq_true rfl, Nat.le_of_ble_eq_true rfl⟩) (p_preV C hw hL753 hf754 rfl) rfl rfl hl.1 rfl (lv_room (Nat.le_of_ble_eq_true rfl)) dX11_block_130 ⟨Nat.le_of_ble_eq_true rfl, Nat.le_of_ble_eq_true rfl⟩) hw hA (fun r852 S851 H locs hpost hw => ?_)
                        obtain ⟨hr_, hS853, hfr854⟩ := hpost
                        subst hr_
                        refine vx_ret ?_
                        exact (p_iret C hw (⟨st, sw, ⟨⟨by omega, by omega⟩, ⟨by omega, by omega⟩, by rw [hnn]; exact hf1, (fun q => by rw [hnn]; first | exact hf2 | (exfalso; omega)), (fun q => by rw [hnn]; first | exact hf3 | (exfalso; omega)), (fun q => by rw [hnn]; first | exact hf4 | (exfalso; omega))⟩, rfl, (by simp only [hS853, hS746, hS741, hS735, pup, pnew, List.append_nil, List.append_assoc, List.cons_append, List.nil_append]), (fun a_ ha_ hn_0 hn_1 hn_2 hn_3 hn_4 hn_5 => ((hfr854 a_ (show a_ ∈ S738.1 from by rw [hS746]; exact (show a_ ∈ S741.1 from by rw [hS741]; exact List.mem_append_left _ (show a_ ∈ S735.1 from by rw [hS735]; exact List.mem_append_left _ ha_))) hn_0 hn_1 hn_2 hn_3 hn_4 hn_5).trans ((show S738.2 a_ = S741.2 a_ from by rw [hS746]; exact pup_n (fun z : a_ = st => hq_st (by rw [← z]; exact ha_))).trans ((show S741.2 a_ = S735.2 a_ from by rw [hS741]; exact pnew_n (fun z : a_ = sw => hp740 (by rw [← z]; exact (show a_ ∈ S735.1 from by rw [hS735]; exact List.mem_append_left _ ha_)))).trans (show S735.2 a_ = S.2 a_ from by rw [hS735]; exact pnew_n (fun z : a_ = st => hq_st (by rw [← z]; exact ha_)))))))⟩) hr hlocks dX11_block_133)
                      · exact absurd h_100 (by first | decide | omega)
                    · skip
                      refine lv_iload hx hb dX11_block_82 (lv_at hl 6 rfl) ?_
                      refine lv_iload_n hx hb dX11_block_84 rfl (lv_at hl 2 rfl) ?_
                      refine p_calli (va_runS (As := [.int a4, .int (nI nN)]) (rest := []) C.fix (c_X11_fits l D cy S H.size a4 nN (by first | assumption | decide | omega)) (va_cwS 2 C.2.2.2.2.1 (gU_S mw_123 mw_124 mw_2 sub_X11_fits) rfl rfl rfl hde_X11_block_S_0 ⟨Nat.le_of_ble_eq_true rfl, Nat.le_of_ble_eq_true rfl⟩) (p_preS C hw) rfl rfl hl.1 rfl (lv_room (Nat.le_of_ble_eq_true rfl)) dX11_block_85 ⟨Nat.le_of_ble_eq_true rfl, Nat.le_of_ble_eq_true rfl⟩) hw hA (fun r856 S855 H locs hpost hw => ?_)
                      obtain ⟨hr_, hS_⟩ := hpost
                      subst hr_
                      subst hS_
                      refine n_if_eq (tgt := 95) hx hb (by split <;> decide) dX11_block_88 (by decide) (fun h_88 => ?_) (fun h_88 => ?_)
                      · skip
                        have hf4 := fF_f hn16 h_88
                        have hnok : ¬ okB6 (nI kN) (nI nN) a1 a2 a3 a4 := fun h => hf4 (by have h1 := h.2.2.2.2.2 (by omega); rw [hnn] at h1; exact h1)
                        refine lv_iconst (v := nI 0) hx hb dX11_block_95 (by decide) ?_
                        refine lv_istore (lv' := [(7, .int (nI 0)), (0, .ref x), (1, .int (nI kN)), (2, .int (nI nN)), (3, .int a1), (4, .int a2), (5, .int a3), (6, .int a4)]) hx hb dX11_block_96 hl (by decide) rfl (fun ls hl => ?_)
                        refine lv_iload hx hb dX11_block_98 (lv_at hl 0 rfl) ?_
                        refine n_if_ne (tgt := 113) hx hb (by first | decide | omega) dX11_block_100 (by decide) (fun h_100 => ?_) (fun h_100 => ?_)
                        · exact absurd h_100 (by first | decide | omega)
                        · skip
                          exact x_throw (y := yX11_block) C hflags hw hE (kS := 7) (kT := 0) mw_119 mw_120 tIA_x rfl rfl (by decide) tIA_n tIA_g hl.1.symm dX11_block_103 dX11_block_106 dX11_block_107 dX11_block_109 dX11_block_112 htab (Nat.le_of_ble_eq_true rfl) (Nat.le_of_ble_eq_true rfl) (Nat.le_of_ble_eq_true rfl) (Nat.le_of_ble_eq_true rfl) hlocks (⟨rfl, hnok, rfl⟩) (Nat.le_of_ble_eq_true rfl) (Nat.le_of_ble_eq_true rfl)
                      · skip
                        have hf4 := fF_t hn16 h_88
                        refine lv_iconst (v := nI 1) hx hb dX11_block_91 (by decide) ?_
                        refine lv_goto (tgt := 96) hx hb dX11_block_92 (by decide) ?_
                        refine lv_istore (lv' := [(7, .int (nI 1)), (0, .ref x), (1, .int (nI kN)), (2, .int (nI nN)), (3, .int a1), (4, .int a2), (5, .int a3), (6, .int a4)]) hx hb dX11_block_96 hl (by decide) rfl (fun ls hl => ?_)
                        refine lv_iload hx hb dX11_block_98 (lv_at hl 0 rfl) ?_
                        refine n_if_ne (tgt := 113) hx hb (by first | decide | omega) dX11_block_100 (by decide) (fun h_100 => ?_) (fun h_100 => ?_)
                        · skip
                          refine lv_aload_n hx hb dX11_block_113 rfl (lv_at hl 1 rfl) ?_
                          refine p_new C hw hA (ci := 1) (Cn := RX0) (T := TX0) (N := 3) (fs := [.int (nI 0), .int (nI 0), .null]) tyX0 tyX0_ok rfl hin_RX0 (mU mw_619) (mU mw_620) (mU mw_146) (fun j hj => by rcases (show j = 0 ∨ j = 1 ∨ j = 2 by omega) with rfl | rfl | rfl <;> rfl) (Nat.le_of_ble_eq_true rfl) (Nat.le_of_ble_eq_true rfl) dX11_block_114 (fun st H hq_st hw => ?_)
                          obtain ⟨S857, hS857⟩ : ∃ z, z = pnew S st (.inr (1, [.int (nI 0), .int (nI 0), .null])) := ⟨_, rfl⟩
                          replace hw : pW D (pA S s.heap.size) s.heap S857 H locs := by rw [hS857]; exact hw
                          have hL858 : st ∈ S857.1 := by rw [hS857]; exact List.mem_append_right _ List.mem_cons_self
                          have hf859 : S857.2 st = .inr (1, [.int (nI 0), .int (nI 0), .null]) := by rw [hS857]; exact pnew_s
                          refine lv_dup hx hb dX11_block_117 rfl ?_
                          refine lv_iload_n hx hb dX11_block_118 rfl (lv_at hl 2 rfl) ?_
                          refine lv_iload_n hx hb dX11_block_119 rfl (lv_at hl 3 rfl) ?_
                          refine lv_iload_n hx hb dX11_block_120 rfl (lv_at hl 4 rfl) ?_
                          refine lv_iload hx hb dX11_block_121 (lv_at hl 5 rfl) ?_
                          refine lv_iload hx hb dX11_block_123 (lv_at hl 6 rfl) ?_
                          refine lv_iload hx hb dX11_block_125 (lv_at hl 7 rfl) ?_
                          refine p_callv (va_runI (As := [.int (nI kN), .int (nI nN), .int a1, .int a2, .int a3, .int a4]) (rest := [.ref st, .ref x]) C.fix (c_X0_init l D cy S857 H.size st 0 0 kN nN a1.toInt.toNat a2.toInt.toNat a3.toInt.toNat a4.toInt.toNat a1 a2 a3 a4 hL858 hf859 (by first | assumption | decide | omega) (fun _ => z_self hf1.1) (fun q => by first | exact z_self hf2.1 | (exfalso; omega)) (fun q => by first | exact z_self hf3.1 | (exfalso; omega)) (fun q => by first | exact z_self hf4.1 | (exfalso; omega))) (cwI 6 C.2.2.2.2.1 (gU_sub sub_X0_init) rfl rfl rfl (C.2.2.2.2.1 (.initialized RX0) (mU mw_146)) (C.2.2.2.2.1 (.methodLink RX11 114 yX0_init) (mU mw_621)) (C.2.2.2.2.1 (.instanceMethod yX0_init) (mU mw_622)) rfl (by decide +kernel) ⟨Nat.le_of_ble_eq_true rfl, Nat.le_of_ble_eq_true rfl⟩) (p_preS C hw) rfl rfl hl.1 rfl (lv_room (Nat.le_of_ble_eq_true rfl)) dX11_block_127 ⟨Nat.le_of_ble_eq_true rfl, Nat.le_of_ble_eq_true rfl⟩) hw hA (fun S860 H locs hpost hw => ?_)
                          obtain ⟨sw, hp862, hS_⟩ := hpost
                          obtain ⟨S863, hS863⟩ : ∃ z, z = pnew S857 sw (aN (cy 0) 16 (bwt kN a1.toInt.toNat a2.toInt.toNat a3.toInt.toNat a4.toInt.toNat 16)) := ⟨_, rfl⟩
                          rw [← hS863] at hS_
                          have hL864 : sw ∈ S863.1 := by rw [hS863]; exact List.mem_append_right _ List.mem_cons_self
                          have hf865 : S863.2 sw = aN (cy 0) 16 (bwt kN a1.toInt.toNat a2.toInt.toNat a3.toInt.toNat a4.toInt.toNat 16) := by rw [hS863]; exact pnew_s
                          have hL866 : st ∈ S863.1 := by rw [hS863]; exact List.mem_append_left _ hL858
                          have hf867 : S863.2 st = .inr (1, [.int (nI 0), .int (nI 0), .null]) := by rw [hS863]; exact (pnew_n (fun z : st = sw => hp862 (by rw [← z]; exact hL858))).trans hf859
                          have hS868 := hS_
                          have hL869 : st ∈ S860.1 := by rw [hS868]; exact hL866
                          have hf870 : S860.2 st = .inr (1, [.int (nI kN), .int (nI nN), .ref sw]) := by rw [hS868]; exact pup_s
                          have hL871 : x ∈ S857.1 := by rw [hS857]; exact List.mem_append_left _ hL_x
                          have hf872 : S857.2 x = .inr (11, [.ref ch, .ref ln, .ref sl, .ref mk, .ref co, .ref ca, .ref su, .ref lt]) := by rw [hS857]; exact (pnew_n (fun z : x = st => hq_st (by rw [← z]; exact hL_x))).trans hf_x
                          have hL873 : x ∈ S863.1 := by rw [hS863]; exact List.mem_append_left _ hL871
                          have hf874 : S863.2 x = .inr (11, [.ref ch, .ref ln, .ref sl, .ref mk, .ref co, .ref ca, .ref su, .ref lt]) := by rw [hS863]; exact (pnew_n (fun z : x = sw => hp862 (by rw [← z]; exact hL871))).trans hf872
                          have hL875 : x ∈ S860.1 := by rw [hS868]; exact hL873
                          have hf876 : S860.2 x = .inr (11, [.ref ch, .ref ln, .ref sl, .ref mk, .ref co, .ref ca, .ref su, .ref lt]) := by rw [hS868]; exact (pup_n (fun z : x = st => hq_st (by rw [← z]; exact hL_x))).trans hf874
                          have hL877 : ch ∈ S857.1 := by rw [hS857]; exact List.mem_append_left _ hL_ch
                          have hf878 : S857.2 ch = .inr (2, [.ref lk, .int (nI 0)]) := by rw [hS857]; exact (pnew_n (fun z : ch = st => hq_st (by rw [← z]; exact hL_ch))).trans hf_ch
                          have hL879 : ch ∈ S863.1 := by rw [hS863]; exact List.mem_append_left _ hL877
                          have hf880 : S863.2 ch = .inr (2, [.ref lk, .int (nI 0)]) := by rw [hS863]; exact (pnew_n (fun z : ch = sw => hp862 (by rw [← z]; exact hL877))).trans hf878
                          have hL881 : ch ∈ S860.1 := by rw [hS868]; exact hL879
                          have hf882 : S860.2 ch = .inr (2, [.ref lk, .int (nI 0)]) := by rw [hS868]; exact (pup_n (fun z : ch = st => hq_st (by rw [← z]; exact hL_ch))).trans hf880
                          have hL883 : lk ∈ S857.1 := by rw [hS857]; exact List.mem_append_left _ hL_lk
                          have hf884 : S857.2 lk = aQ (cy 3) 4 (fun _ => none) := by rw [hS857]; exact (pnew_n (fun z : lk = st => hq_st (by rw [← z]; exact hL_lk))).trans hf_lk
                          have hL885 : lk ∈ S863.1 := by rw [hS863]; exact List.mem_append_left _ hL883
                          have hf886 : S863.2 lk = aQ (cy 3) 4 (fun _ => none) := by rw [hS863]; exact (pnew_n (fun z : lk = sw => hp862 (by rw [← z]; exact hL883))).trans hf884
                          have hL887 : lk ∈ S860.1 := by rw [hS868]; exact hL885
                          have hf888 : S860.2 lk = aQ (cy 3) 4 (fun _ => none) := by rw [hS868]; exact (pup_n (fun z : lk = st => hq_st (by rw [← z]; exact hL_lk))).trans hf886
                          have hL889 : ln ∈ S857.1 := by rw [hS857]; exact List.mem_append_left _ hL_ln
                          have hf890 : S857.2 ln = .inr (6, [.int (nI 0), .int (nI 0), .int (nI 0), .int (nI 0)]) := by rw [hS857]; exact (pnew_n (fun z : ln = st => hq_st (by rw [← z]; exact hL_ln))).trans hf_ln
                          have hL891 : ln ∈ S863.1 := by rw [hS863]; exact List.mem_append_left _ hL889
                          have hf892 : S863.2 ln = .inr (6, [.int (nI 0), .int (nI 0), .int (nI 0), .int (nI 0)]) := by rw [hS863]; exact (pnew_n (fun z : ln = sw => hp862 (by rw [← z]; exact hL889))).trans hf890
                          have hL893 : ln ∈ S860.1 := by rw [hS868]; exact hL891
                          have hf894 : S860.2 ln = .inr (6, [.int (nI 0), .int (nI 0), .int (nI 0), .int (nI 0)]) := by rw [hS868]; exact (pup_n (fun z : ln = st => hq_st (by rw [← z]; exact hL_ln))).trans hf892
                          have hL895 : mk ∈ S857.1 := by rw [hS857]; exact List.mem_append_left _ hL_mk
                          have hf896 : S857.2 mk = .inr (8, [.ref mb, .int (nI 320)]) := by rw [hS857]; exact (pnew_n (fun z : mk = st => hq_st (by rw [← z]; exact hL_mk))).trans hf_mk
                          have hL897 : mk ∈ S863.1 := by rw [hS863]; exact List.mem_append_left _ hL895
                          have hf898 : S863.2 mk = .inr (8, [.ref mb, .int (nI 320)]) := by rw [hS863]; exact (pnew_n (fun z : mk = sw => hp862 (by rw [← z]; exact hL895))).trans hf896
                          have hL899 : mk ∈ S860.1 := by rw [hS868]; exact hL897
                          have hf900 : S860.2 mk = .inr (8, [.ref mb, .int (nI 320)]) := by rw [hS868]; exact (pup_n (fun z : mk = st => hq_st (by rw [← z]; exact hL_mk))).trans hf898
                          have hL901 : mb ∈ S857.1 := by rw [hS857]; exact List.mem_append_left _ hL_mb
                          have hf902 : S857.2 mb = aN (cy 0) 320 (fun _ => 0) := by rw [hS857]; exact (pnew_n (fun z : mb = st => hq_st (by rw [← z]; exact hL_mb))).trans hf_mb
                          have hL903 : mb ∈ S863.1 := by rw [hS863]; exact List.mem_append_left _ hL901
                          have hf904 : S863.2 mb = aN (cy 0) 320 (fun _ => 0) := by rw [hS863]; exact (pnew_n (fun z : mb = sw => hp862 (by rw [← z]; exact hL901))).trans hf902
                          have hL905 : mb ∈ S860.1 := by rw [hS868]; exact hL903
                          have hf906 : S860.2 mb = aN (cy 0) 320 (fun _ => 0) := by rw [hS868]; exact (pup_n (fun z : mb = st => hq_st (by rw [← z]; exact hL_mb))).trans hf904
                          have hL907 : co ∈ S857.1 := by rw [hS857]; exact List.mem_append_left _ hL_co
                          have hf908 : S857.2 co = .inr (5, [.ref col, .ref con]) := by rw [hS857]; exact (pnew_n (fun z : co = st => hq_st (by rw [← z]; exact hL_co))).trans hf_co
                          have hL909 : co ∈ S863.1 := by rw [hS863]; exact List.mem_append_left _ hL907
                          have hf910 : S863.2 co = .inr (5, [.ref col, .ref con]) := by rw [hS863]; exact (pnew_n (fun z : co = sw => hp862 (by rw [← z]; exact hL907))).trans hf908
                          have hL911 : co ∈ S860.1 := by rw [hS868]; exact hL909
                          have hf912 : S860.2 co = .inr (5, [.ref col, .ref con]) := by rw [hS868]; exact (pup_n (fun z : co = st => hq_st (by rw [← z]; exact hL_co))).trans hf910
                          have hL913 : col ∈ S857.1 := by rw [hS857]; exact List.mem_append_left _ hL_col
                          have hf914 : S857.2 col = aQ (cy 2) 5 (va_up (va_up (va_up (va_up (va_up (fun _ => none) 0 (some cor0)) 1 (some cor1)) 2 (some cor2)) 3 (some cor3)) 4 (some cor4)) := by rw [hS857]; exact (pnew_n (fun z : col = st => hq_st (by rw [← z]; exact hL_col))).trans hf_col
                          have hL915 : col ∈ S863.1 := by rw [hS863]; exact List.mem_append_left _ hL913
                          have hf916 : S863.2 col = aQ (cy 2) 5 (va_up (va_up (va_up (va_up (va_up (fun _ => none) 0 (some cor0)) 1 (some cor1)) 2 (some cor2)) 3 (some cor3)) 4 (some cor4)) := by rw [hS863]; exact (pnew_n (fun z : col = sw => hp862 (by rw [← z]; exact hL913))).trans hf914
                          have hL917 : col ∈ S860.1 := by rw [hS868]; exact hL915
                          have hf918 : S860.2 col = aQ (cy 2) 5 (va_up (va_up (va_up (va_up (va_up (fun _ => none) 0 (some cor0)) 1 (some cor1)) 2 (some cor2)) 3 (some cor3)) 4 (some cor4)) := by rw [hS868]; exact (pup_n (fun z : col = st => hq_st (by rw [← z]; exact hL_col))).trans hf916
                          have hL919 : cor0 ∈ S857.1 := by rw [hS857]; exact List.mem_append_left _ hL_cor0
                          have hf920 : S857.2 cor0 = .inr (8, [.ref cob0, .int (nI 0)]) := by rw [hS857]; exact (pnew_n (fun z : cor0 = st => hq_st (by rw [← z]; exact hL_cor0))).trans hf_cor0
                          have hL921 : cor0 ∈ S863.1 := by rw [hS863]; exact List.mem_append_left _ hL919
                          have hf922 : S863.2 cor0 = .inr (8, [.ref cob0, .int (nI 0)]) := by rw [hS863]; exact (pnew_n (fun z : cor0 = sw => hp862 (by rw [← z]; exact hL919))).trans hf920
                          have hL923 : cor0 ∈ S860.1 := by rw [hS868]; exact hL921
                          have hf924 : S860.2 cor0 = .inr (8, [.ref cob0, .int (nI 0)]) := by rw [hS868]; exact (pup_n (fun z : cor0 = st => hq_st (by rw [← z]; exact hL_cor0))).trans hf922
                          have hL925 : cor1 ∈ S857.1 := by rw [hS857]; exact List.mem_append_left _ hL_cor1
                          have hf926 : S857.2 cor1 = .inr (8, [.ref cob1, .int (nI 0)]) := by rw [hS857]; exact (pnew_n (fun z : cor1 = st => hq_st (by rw [← z]; exact hL_cor1))).trans hf_cor1
                          have hL927 : cor1 ∈ S863.1 := by rw [hS863]; exact List.mem_append_left _ hL925
                          have hf928 : S863.2 cor1 = .inr (8, [.ref cob1, .int (nI 0)]) := by rw [hS863]; exact (pnew_n (fun z : cor1 = sw => hp862 (by rw [← z]; exact hL925))).trans hf926
                          have hL929 : cor1 ∈ S860.1 := by rw [hS868]; exact hL927
                          have hf930 : S860.2 cor1 = .inr (8, [.ref cob1, .int (nI 0)]) := by rw [hS868]; exact (pup_n (fun z : cor1 = st => hq_st (by rw [← z]; exact hL_cor1))).trans hf928
                          have hL931 : cob1 ∈ S857.1 := by rw [hS857]; exact List.mem_append_left _ hL_cob1
                          have hf932 : S857.2 cob1 = aN (cy 0) 320 (fun _ => 0) := by rw [hS857]; exact (pnew_n (fun z : cob1 = st => hq_st (by rw [← z]; exact hL_cob1))).trans hf_cob1
                          have hL933 : cob1 ∈ S863.1 := by rw [hS863]; exact List.mem_append_left _ hL931
                          have hf934 : S863.2 cob1 = aN (cy 0) 320 (fun _ => 0) := by rw [hS863]; exact (pnew_n (fun z : cob1 = sw => hp862 (by rw [← z]; exact hL931))).trans hf932
                          have hL935 : cob1 ∈ S860.1 := by rw [hS868]; exact hL933
                          have hf936 : S860.2 cob1 = aN (cy 0) 320 (fun _ => 0) := by rw [hS868]; exact (pup_n (fun z : cob1 = st => hq_st (by rw [← z]; exact hL_cob1))).trans hf934
                          have hL937 : ca ∈ S857.1 := by rw [hS857]; exact List.mem_append_left _ hL_ca
                          have hf938 : S857.2 ca = .inr (5, [.ref cal, .ref can]) := by rw [hS857]; exact (pnew_n (fun z : ca = st => hq_st (by rw [← z]; exact hL_ca))).trans hf_ca
                          have hL939 : ca ∈ S863.1 := by rw [hS863]; exact List.mem_append_left _ hL937
                          have hf940 : S863.2 ca = .inr (5, [.ref cal, .ref can]) := by rw [hS863]; exact (pnew_n (fun z : ca = sw => hp862 (by rw [← z]; exact hL937))).trans hf938
                          have hL941 : ca ∈ S860.1 := by rw [hS868]; exact hL939
                          have hf942 : S860.2 ca = .inr (5, [.ref cal, .ref can]) := by rw [hS868]; exact (pup_n (fun z : ca = st => hq_st (by rw [← z]; exact hL_ca))).trans hf940
                          have hL943 : cal ∈ S857.1 := by rw [hS857]; exact List.mem_append_left _ hL_cal
                          have hf944 : S857.2 cal = aQ (cy 2) 5 (va_up (va_up (va_up (va_up (va_up (fun _ => none) 0 (some car0)) 1 (some car1)) 2 (some car2)) 3 (some car3)) 4 (some car4)) := by rw [hS857]; exact (pnew_n (fun z : cal = st => hq_st (by rw [← z]; exact hL_cal))).trans hf_cal
                          have hL945 : cal ∈ S863.1 := by rw [hS863]; exact List.mem_append_left _ hL943
                          have hf946 : S863.2 cal = aQ (cy 2) 5 (va_up (va_up (va_up (va_up (va_up (fun _ => none) 0 (some car0)) 1 (some car1)) 2 (some car2)) 3 (some car3)) 4 (some car4)) := by rw [hS863]; exact (pnew_n (fun z : cal = sw => hp862 (by rw [← z]; exact hL943))).trans hf944
                          have hL947 : cal ∈ S860.1 := by rw [hS868]; exact hL945
                          have hf948 : S860.2 cal = aQ (cy 2) 5 (va_up (va_up (va_up (va_up (va_up (fun _ => none) 0 (some car0)) 1 (some car1)) 2 (some car2)) 3 (some car3)) 4 (some car4)) := by rw [hS868]; exact (pup_n (fun z : cal = st => hq_st (by rw [← z]; exact hL_cal))).trans hf946
                          have hL949 : car0 ∈ S857.1 := by rw [hS857]; exact List.mem_append_left _ hL_car0
                          have hf950 : S857.2 car0 = .inr (8, [.ref cab0, .int (nI 0)]) := by rw [hS857]; exact (pnew_n (fun z : car0 = st => hq_st (by rw [← z]; exact hL_car0))).trans hf_car0
                          have hL951 : car0 ∈ S863.1 := by rw [hS863]; exact List.mem_append_left _ hL949
                          have hf952 : S863.2 car0 = .inr (8, [.ref cab0, .int (nI 0)]) := by rw [hS863]; exact (pnew_n (fun z : car0 = sw => hp862 (by rw [← z]; exact hL949))).trans hf950
                          have hL953 : car0 ∈ S860.1 := by rw [hS868]; exact hL951
                          have hf954 : S860.2 car0 = .inr (8, [.ref cab0, .int (nI 0)]) := by rw [hS868]; exact (pup_n (fun z : car0 = st => hq_st (by rw [← z]; exact hL_car0))).trans hf952
                          have hL955 : cab0 ∈ S857.1 := by rw [hS857]; exact List.mem_append_left _ hL_cab0
                          have hf956 : S857.2 cab0 = aN (cy 0) 32 (fun _ => 0) := by rw [hS857]; exact (pnew_n (fun z : cab0 = st => hq_st (by rw [← z]; exact hL_cab0))).trans hf_cab0
                          have hL957 : cab0 ∈ S863.1 := by rw [hS863]; exact List.mem_append_left _ hL955
                          have hf958 : S863.2 cab0 = aN (cy 0) 32 (fun _ => 0) := by rw [hS863]; exact (pnew_n (fun z : cab0 = sw => hp862 (by rw [← z]; exact hL955))).trans hf956
                          have hL959 : cab0 ∈ S860.1 := by rw [hS868]; exact hL957
                          have hf960 : S860.2 cab0 = aN (cy 0) 32 (fun _ => 0) := by rw [hS868]; exact (pup_n (fun z : cab0 = st => hq_st (by rw [← z]; exact hL_cab0))).trans hf958
                          have hL961 : car1 ∈ S857.1 := by rw [hS857]; exact List.mem_append_left _ hL_car1
                          have hf962 : S857.2 car1 = .inr (8, [.ref cab1, .int (nI 0)]) := by rw [hS857]; exact (pnew_n (fun z : car1 = st => hq_st (by rw [← z]; exact hL_car1))).trans hf_car1
                          have hL963 : car1 ∈ S863.1 := by rw [hS863]; exact List.mem_append_left _ hL961
                          have hf964 : S863.2 car1 = .inr (8, [.ref cab1, .int (nI 0)]) := by rw [hS863]; exact (pnew_n (fun z : car1 = sw => hp862 (by rw [← z]; exact hL961))).trans hf962
                          have hL965 : car1 ∈ S860.1 := by rw [hS868]; exact hL963
                          have hf966 : S860.2 car1 = .inr (8, [.ref cab1, .int (nI 0)]) := by rw [hS868]; exact (pup_n (fun z : car1 = st => hq_st (by rw [← z]; exact hL_car1))).trans hf964
                          have hL967 : cab1 ∈ S857.1 := by rw [hS857]; exact List.mem_append_left _ hL_cab1
                          have hf968 : S857.2 cab1 = aN (cy 0) 320 (fun _ => 0) := by rw [hS857]; exact (pnew_n (fun z : cab1 = st => hq_st (by rw [← z]; exact hL_cab1))).trans hf_cab1
                          have hL969 : cab1 ∈ S863.1 := by rw [hS863]; exact List.mem_append_left _ hL967
                          have hf970 : S863.2 cab1 = aN (cy 0) 320 (fun _ => 0) := by rw [hS863]; exact (pnew_n (fun z : cab1 = sw => hp862 (by rw [← z]; exact hL967))).trans hf968
                          have hL971 : cab1 ∈ S860.1 := by rw [hS868]; exact hL969
                          have hf972 : S860.2 cab1 = aN (cy 0) 320 (fun _ => 0) := by rw [hS868]; exact (pup_n (fun z : cab1 = st => hq_st (by rw [← z]; exact hL_cab1))).trans hf970
                          refine p_calli (va_runV (As := [.ref st]) (rest := []) C.fix (e_X11_putBehindblk l D cy S860 H.size x st ch ln sl mk co ca su lt lk mb col con cor0 cor1 cor2 cor3 cor4 cob0 cob1 cal can car0 car1 car2 car3 car4 cab0 cab1 sw kN nN hL875 hf876 hL881 hf882 hL887 hf888 hL893 hf894 hL899 hf900 hL905 hf906 hL911 hf912 hL917 hf918 hL923 hf924 hL929 hf930 hL935 hf936 hL941 hf942 hL947 hf948 hL953 hf954 hL959 hf960 hL965 hf966 hL971 hf972 hL869 hf870 hne_col_lk hne_cal_lk hne_cor0_cor1 hne_mk_cor1 hne_car1_cor1 hne_cob1_cab1 hne_mk_car1 hne_mb_cab1 hne_cor0_car1 hne_car0_cor1 hne_car0_car1 hne_cab0_cab1 (by first | assumption | decide | omega)) (cwV 1 C.2.2.2.2.1 (gU_V mw_576 mw_577 mw_578 mw_2 (subU mw_579)) rfl rfl rfl hde_X11_block_V_1 ⟨Nat.le_of_ble_eq_true rfl, Nat.le_of_ble_eq_true rfl⟩) (p_preV C hw hL875 hf876 rfl) rfl rfl hl.1 rfl (lv_room (Nat.le_of_ble_eq_true rfl)) dX11_block_130 ⟨Nat.le_of_ble_eq_true rfl, Nat.le_of_ble_eq_true rfl⟩) hw hA (fun r974 S973 H locs hpost hw => ?_)
                          obtain ⟨hr_, hS975, hfr976⟩ := hpost
                          subst hr_
                          refine vx_ret ?_
                          exact (p_iret C hw (⟨st, sw, ⟨⟨by omega, by omega⟩, ⟨by omega, by omega⟩, by rw [hnn]; exact hf1, (fun q => by rw [hnn]; first | exact hf2 | (exfalso; omega)), (fun q => by rw [hnn]; first | exact hf3 | (exfalso; omega)), (fun q => by rw [hnn]; first | exact hf4 | (exfalso; omega))⟩, rfl, (by simp only [hS975, hS868, hS863, hS857, pup, pnew, List.append_nil, List.append_assoc, List.cons_append, List.nil_append]), (fun a_ ha_ hn_0 hn_1 hn_2 hn_3 hn_4 hn_5 => ((hfr976 a_ (show a_ ∈ S860.1 from by rw [hS868]; exact (show a_ ∈ S863.1 from by rw [hS863]; exact List.mem_append_left _ (show a_ ∈ S857.1 from by rw [hS857]; exact List.mem_append_left _ ha_))) hn_0 hn_1 hn_2 hn_3 hn_4 hn_5).trans ((show S860.2 a_ = S863.2 a_ from by rw [hS868]; exact pup_n (fun z : a_ = st => hq_st (by rw [← z]; exact ha_))).trans ((show S863.2 a_ = S857.2 a_ from by rw [hS863]; exact pnew_n (fun z : a_ = sw => hp862 (by rw [← z]; exact (show a_ ∈ S857.1 from by rw [hS857]; exact List.mem_append_left _ ha_)))).trans (show S857.2 a_ = S.2 a_ from by rw [hS857]; exact pnew_n (fun z : a_ = st => hq_st (by rw [← z]; exact ha_)))))))⟩) hr hlocks dX11_block_133)
                        · exact absurd h_100 (by first | decide | omega)
        · skip
          exact x_throw (y := yX11_block) C hflags hw hE (kS := 6) (kT := 0) mw_119 mw_120 tIA_x rfl rfl (by decide) tIA_n tIA_g hl.1.symm dX11_block_31 dX11_block_34 dX11_block_35 dX11_block_37 dX11_block_40 htab (Nat.le_of_ble_eq_true rfl) (Nat.le_of_ble_eq_true rfl) (Nat.le_of_ble_eq_true rfl) (Nat.le_of_ble_eq_true rfl) hlocks (⟨rfl, (fun h => by have h1 := h.2.1; omega), rfl⟩) (Nat.le_of_ble_eq_true rfl) (Nat.le_of_ble_eq_true rfl)
    · skip
      exact x_throw (y := yX11_block) C hflags hw hE (kS := 5) (kT := 0) mw_119 mw_120 tIA_x rfl rfl (by decide) tIA_n tIA_g hl.1.symm dX11_block_10 dX11_block_13 dX11_block_14 dX11_block_16 dX11_block_19 htab (Nat.le_of_ble_eq_true rfl) (Nat.le_of_ble_eq_true rfl) (Nat.le_of_ble_eq_true rfl) (Nat.le_of_ble_eq_true rfl) hlocks (⟨rfl, (fun h => by have h1 := h.1; omega), rfl⟩) (Nat.le_of_ble_eq_true rfl) (Nat.le_of_ble_eq_true rfl)

theorem hde_X11_trail_S_0 : yX11_fits.cls ≠ "java/lang/invoke/MethodHandle" ∧ yX11_fits.cls ≠ "java/lang/invoke/VarHandle" ∧ (parseMethodDescriptor yX11_fits.desc).map (fun d => d.parameters.length) = some 2 := by decide +kernel
theorem hde_X11_trail_V_1 : yX11_putBehind.cls = RX11 ∧ yX11_putBehind.cls ≠ "java/lang/invoke/MethodHandle" ∧ yX11_putBehind.cls ≠ "java/lang/invoke/VarHandle" ∧ (parseMethodDescriptor yX11_putBehind.desc).map (fun d => d.parameters.length) = some 1 := by decide +kernel
set_option maxHeartbeats 4000000 in
set_option maxRecDepth 100000 in
/-- trail -/
theorem e_X11_trail (l : Launch) (hflags : l.stackTraces = false) (D : va_G) (cy : Nat → ClassId) (ed : Nat) (S : pS) (sz : Nat) (x : Nat) (ch : Nat) (ln : Nat) (sl : Nat) (mk : Nat) (co : Nat) (ca : Nat) (su : Nat) (lt : Nat) (lk : Nat) (mb : Nat) (col : Nat) (con : Nat) (cor0 : Nat) (cor1 : Nat) (cor2 : Nat) (cor3 : Nat) (cor4 : Nat) (cob0 : Nat) (cob1 : Nat) (cal : Nat) (can : Nat) (car0 : Nat) (car1 : Nat) (car2 : Nat) (car3 : Nat) (car4 : Nat) (cab0 : Nat) (cab1 : Nat) (lf : Nat) (lx : Nat) (lw : Nat) (m9 : Int32) (a1 : Int32) (a2 : Int32) (a3 : Int32) (hL_x : x ∈ S.1) (hf_x : S.2 x = .inr (11, [.ref ch, .ref ln, .ref sl, .ref mk, .ref co, .ref ca, .ref su, .ref lt])) (hL_ch : ch ∈ S.1) (hf_ch : S.2 ch = .inr (2, [.ref lk, .int (nI 0)])) (hL_lk : lk ∈ S.1) (hf_lk : S.2 lk = aQ (cy 3) 4 (fun _ => none)) (hL_ln : ln ∈ S.1) (hf_ln : S.2 ln = .inr (6, [.int (nI 0), .int (nI 0), .int (nI 0), .int (nI 0)])) (hL_mk : mk ∈ S.1) (hf_mk : S.2 mk = .inr (8, [.ref mb, .int (nI 320)])) (hL_mb : mb ∈ S.1) (hf_mb : S.2 mb = aN (cy 0) 320 (fun _ => 0)) (hL_co : co ∈ S.1) (hf_co : S.2 co = .inr (5, [.ref col, .ref con])) (hL_col : col ∈ S.1) (hf_col : S.2 col = aQ (cy 2) 5 (va_up (va_up (va_up (va_up (va_up (fun _ => none) 0 (some cor0)) 1 (some cor1)) 2 (some cor2)) 3 (some cor3)) 4 (some cor4))) (hL_cor0 : cor0 ∈ S.1) (hf_cor0 : S.2 cor0 = .inr (8, [.ref cob0, .int (nI 0)])) (hL_cor1 : cor1 ∈ S.1) (hf_cor1 : S.2 cor1 = .inr (8, [.ref cob1, .int (nI 0)])) (hL_cob1 : cob1 ∈ S.1) (hf_cob1 : S.2 cob1 = aN (cy 0) 320 (fun _ => 0)) (hL_ca : ca ∈ S.1) (hf_ca : S.2 ca = .inr (5, [.ref cal, .ref can])) (hL_cal : cal ∈ S.1) (hf_cal : S.2 cal = aQ (cy 2) 5 (va_up (va_up (va_up (va_up (va_up (fun _ => none) 0 (some car0)) 1 (some car1)) 2 (some car2)) 3 (some car3)) 4 (some car4))) (hL_car0 : car0 ∈ S.1) (hf_car0 : S.2 car0 = .inr (8, [.ref cab0, .int (nI 0)])) (hL_cab0 : cab0 ∈ S.1) (hf_cab0 : S.2 cab0 = aN (cy 0) 32 (fun _ => 0)) (hL_car1 : car1 ∈ S.1) (hf_car1 : S.2 car1 = .inr (8, [.ref cab1, .int (nI 0)])) (hL_cab1 : cab1 ∈ S.1) (hf_cab1 : S.2 cab1 = aN (cy 0) 320 (fun _ => 0)) (hL_lt : lt ∈ S.1) (hf_lt : S.2 lt = .inr (4, [.ref lf, .ref lx, .ref lw])) (hL_lf : lf ∈ S.1) (hf_lf : S.2 lf = aN (cy 0) 16 (fun _ => 0)) (hne_col_lk : col ≠ lk) (hne_cal_lk : cal ≠ lk) (hne_cor0_cor1 : cor0 ≠ cor1) (hne_mk_cor1 : mk ≠ cor1) (hne_car1_cor1 : car1 ≠ cor1) (hne_cob1_cab1 : cob1 ≠ cab1) (hne_mk_car1 : mk ≠ car1) (hne_mb_cab1 : mb ≠ cab1) (hne_lf_cab1 : lf ≠ cab1) (hne_cor0_car1 : cor0 ≠ car1) (hne_car0_cor1 : car0 ≠ cor1) (hne_car0_car1 : car0 ≠ car1) (hne_cab0_cab1 : cab0 ≠ cab1) : vx_Met l yX11_trail (Cond.code yX11_trail cX11_trail 6 (some .int) :: lwU) ({ frames := 7, cells := 2, slots := 36, locals := 152 }) (ePc D cy ed S sz [.ref x, .int m9, .int a1, .int a2, .int a3]) (pQi D cy S sz (fun r S' => ∃ (st : Nat) (sw : Nat), (okT m9 a1 a2 a3) ∧ r = (nI 0) ∧ S'.1 = S.1 ++ [st, sw] ∧ (∀ a_, a_ ∈ S.1 → a_ ≠ lk → a_ ≠ ch → a_ ≠ cor1 → a_ ≠ car1 → a_ ≠ cab1 → a_ ≠ car0 → a_ ≠ lf → S'.2 a_ = S.2 a_))) (pX D S sz (fun E S' => (E = "java/lang/IllegalArgumentException" ∧ (¬ okT m9 a1 a2 a3) ∧ S = S'))) 2 36 (pA S sz) := by
  refine vx_ofW (cc := cX11_trail) (maxL := 6) (ret := (some .int)) (by decide) rfl ?_
  intro p e s m args below meth c s₁ B hml htab hv
  obtain ⟨rfl, rfl, C, hw, hA, hr, hlocks, hE⟩ := e_start B hml hv
  have hx := C.1
  have hb := C.2.1
  have hl := lv_entry ([.ref x, .int m9, .int a1, .int a2, .int a3]) (n := 6) (Nat.le_of_ble_eq_true rfl)
  rw [lg_entry_eq]
  generalize (lg_sl ([.ref x, .int m9, .int a1, .int a2, .int a3]) ++ List.replicate (6 - (lg_sl ([.ref x, .int m9, .int a1, .int a2, .int a3])).length) Slot.unset).toArray = ls at hl ⊢
  have hl : lv_has ls 6 [(0, .ref x), (1, .int m9), (2, .int a1), (3, .int a2), (4, .int a3)] := hl
  have hin_RX11 : ∀ w ∈ u_ws RX11 TX11 8, w ∈ (Cond.code yX11_trail cX11_trail 6 (some .int) :: lwU) := fun w h => mU (sub_RX11 w h)
  have hin_RX9 : ∀ w ∈ u_ws RX9 TX9 4, w ∈ (Cond.code yX11_trail cX11_trail 6 (some .int) :: lwU) := fun w h => mU (sub_RX9 w h)
  refine lv_iload_n hx hb dX11_trail_0 rfl (lv_at hl 1 rfl) ?_
  refine lv_iconst (v := nI 1) hx hb dX11_trail_1 (by decide) ?_
  refine z_icmp_lt (tgt := 10) hx hb rfl (nI_toInt (by first | decide | omega)) dX11_trail_2 (by decide) (fun h_2 => ?_) (fun h_2 => ?_)
  · skip
    exact x_throw (y := yX11_trail) C hflags hw hE (kS := 10) (kT := 0) mw_119 mw_120 tIA_x rfl rfl (by decide) tIA_n tIA_g hl.1.symm dX11_trail_10 dX11_trail_13 dX11_trail_14 dX11_trail_16 dX11_trail_19 htab (Nat.le_of_ble_eq_true rfl) (Nat.le_of_ble_eq_true rfl) (Nat.le_of_ble_eq_true rfl) (Nat.le_of_ble_eq_true rfl) hlocks (⟨rfl, (fun h => by have h1 := h.1; omega), rfl⟩) (Nat.le_of_ble_eq_true rfl) (Nat.le_of_ble_eq_true rfl)
  · skip
    refine lv_iload_n hx hb dX11_trail_5 rfl (lv_at hl 1 rfl) ?_
    refine lv_iconst (v := nI 4) hx hb dX11_trail_6 (by decide) ?_
    refine z_icmp_le (tgt := 20) hx hb rfl (nI_toInt (by first | decide | omega)) dX11_trail_7 (by decide) (fun h_7 => ?_) (fun h_7 => ?_)
    · skip
      obtain ⟨mN, hm931, rfl, hm9i⟩ := z_nat (x := m9) (by omega)
      have hm16 : mN + 1 ≤ 16 := by omega
      have hmm : (nI mN).toInt.toNat = mN := by rw [hm9i]; rfl
      refine lv_iload_n hx hb dX11_trail_20 rfl (lv_at hl 1 rfl) ?_
      refine lv_iconst (v := nI 1) hx hb dX11_trail_21 (by decide) ?_
      refine n_iadd hx hb dX11_trail_22 ?_
      refine lv_istore (lv' := [(5, .int (nI (mN + 1))), (0, .ref x), (1, .int (nI mN)), (2, .int a1), (3, .int a2), (4, .int a3)]) hx hb dX11_trail_23 hl (by decide) rfl (fun ls hl => ?_)
      refine lv_iload_n hx hb dX11_trail_25 rfl (lv_at hl 3 rfl) ?_
      refine z_if_eq (tgt := 51) hx hb rfl dX11_trail_26 (by decide) (fun h_26 => ?_) (fun h_26 => ?_)
      · skip
        have hnok : ¬ okT (nI mN) a1 a2 a3 := fun h => h.2.1.1 h_26
        exact x_throw (y := yX11_trail) C hflags hw hE (kS := 11) (kT := 0) mw_119 mw_120 tIA_x rfl rfl (by decide) tIA_n tIA_g hl.1.symm dX11_trail_51 dX11_trail_54 dX11_trail_55 dX11_trail_57 dX11_trail_60 htab (Nat.le_of_ble_eq_true rfl) (Nat.le_of_ble_eq_true rfl) (Nat.le_of_ble_eq_true rfl) (Nat.le_of_ble_eq_true rfl) hlocks (⟨rfl, hnok, rfl⟩) (Nat.le_of_ble_eq_true rfl) (Nat.le_of_ble_eq_true rfl)
      · skip
        refine lv_iload_n hx hb dX11_trail_29 rfl (lv_at hl 4 rfl) ?_
        refine z_if_eq (tgt := 51) hx hb rfl dX11_trail_30 (by decide) (fun h_30 => ?_) (fun h_30 => ?_)
        · skip
          have hnok : ¬ okT (nI mN) a1 a2 a3 := fun h => h.2.2.1.1 h_30
          exact x_throw (y := yX11_trail) C hflags hw hE (kS := 11) (kT := 0) mw_119 mw_120 tIA_x rfl rfl (by decide) tIA_n tIA_g hl.1.symm dX11_trail_51 dX11_trail_54 dX11_trail_55 dX11_trail_57 dX11_trail_60 htab (Nat.le_of_ble_eq_true rfl) (Nat.le_of_ble_eq_true rfl) (Nat.le_of_ble_eq_true rfl) (Nat.le_of_ble_eq_true rfl) hlocks (⟨rfl, hnok, rfl⟩) (Nat.le_of_ble_eq_true rfl) (Nat.le_of_ble_eq_true rfl)
        · skip
          refine lv_iload_n hx hb dX11_trail_33 rfl (lv_at hl 3 rfl) ?_
          refine lv_iload hx hb dX11_trail_34 (lv_at hl 0 rfl) ?_
          refine p_calli (va_runS (As := [.int a1, .int (nI (mN + 1))]) (rest := []) C.fix (c_X11_fits l D cy S s.heap.size a1 (mN + 1) (by first | assumption | decide | omega)) (va_cwS 2 C.2.2.2.2.1 (gU_S mw_123 mw_124 mw_2 sub_X11_fits) rfl rfl rfl hde_X11_trail_S_0 ⟨Nat.le_of_ble_eq_true rfl, Nat.le_of_ble_eq_true rfl⟩) (p_preS C hw) rfl rfl hl.1 rfl (lv_room (Nat.le_of_ble_eq_true rfl)) dX11_trail_36 ⟨Nat.le_of_ble_eq_true rfl, Nat.le_of_ble_eq_true rfl⟩) hw hA (fun r2 S1 H locs hpost hw => ?_)
          obtain ⟨hr_, hS_⟩ := hpost
          subst hr_
          subst hS_
          refine n_if_eq (tgt := 51) hx hb (by split <;> decide) dX11_trail_39 (by decide) (fun h_39 => ?_) (fun h_39 => ?_)
          · skip
            have hf1 := fF_f hm16 h_39
            have hnok : ¬ okT (nI mN) a1 a2 a3 := fun h => hf1 (by have h1 := h.2.1.2; rw [hmm] at h1; exact h1)
            exact x_throw (y := yX11_trail) C hflags hw hE (kS := 11) (kT := 0) mw_119 mw_120 tIA_x rfl rfl (by decide) tIA_n tIA_g hl.1.symm dX11_trail_51 dX11_trail_54 dX11_trail_55 dX11_trail_57 dX11_trail_60 htab (Nat.le_of_ble_eq_true rfl) (Nat.le_of_ble_eq_true rfl) (Nat.le_of_ble_eq_true rfl) (Nat.le_of_ble_eq_true rfl) hlocks (⟨rfl, hnok, rfl⟩) (Nat.le_of_ble_eq_true rfl) (Nat.le_of_ble_eq_true rfl)
          · skip
            have hf1 := fF_t hm16 h_39
            refine lv_iload_n hx hb dX11_trail_42 rfl (lv_at hl 4 rfl) ?_
            refine lv_iload hx hb dX11_trail_43 (lv_at hl 0 rfl) ?_
            refine p_calli (va_runS (As := [.int a2, .int (nI (mN + 1))]) (rest := []) C.fix (c_X11_fits l D cy S H.size a2 (mN + 1) (by first | assumption | decide | omega)) (va_cwS 2 C.2.2.2.2.1 (gU_S mw_123 mw_124 mw_2 sub_X11_fits) rfl rfl rfl hde_X11_trail_S_0 ⟨Nat.le_of_ble_eq_true rfl, Nat.le_of_ble_eq_true rfl⟩) (p_preS C hw) rfl rfl hl.1 rfl (lv_room (Nat.le_of_ble_eq_true rfl)) dX11_trail_45 ⟨Nat.le_of_ble_eq_true rfl, Nat.le_of_ble_eq_true rfl⟩) hw hA (fun r4 S3 H locs hpost hw => ?_)
            obtain ⟨hr_, hS_⟩ := hpost
            subst hr_
            subst hS_
            refine n_if_ne (tgt := 61) hx hb (by split <;> decide) dX11_trail_48 (by decide) (fun h_48 => ?_) (fun h_48 => ?_)
            · skip
              have hf2 := fF_t hm16 h_48
              refine lv_iload hx hb dX11_trail_61 (lv_at hl 5 rfl) ?_
              refine lv_iload hx hb dX11_trail_63 (lv_at hl 0 rfl) ?_
              refine p_calli (va_runS (As := [.int a3, .int (nI (mN + 1))]) (rest := []) C.fix (c_X11_fits l D cy S H.size a3 (mN + 1) (by first | assumption | decide | omega)) (va_cwS 2 C.2.2.2.2.1 (gU_S mw_123 mw_124 mw_2 sub_X11_fits) rfl rfl rfl hde_X11_trail_S_0 ⟨Nat.le_of_ble_eq_true rfl, Nat.le_of_ble_eq_true rfl⟩) (p_preS C hw) rfl rfl hl.1 rfl (lv_room (Nat.le_of_ble_eq_true rfl)) dX11_trail_65 ⟨Nat.le_of_ble_eq_true rfl, Nat.le_of_ble_eq_true rfl⟩) hw hA (fun r6 S5 H locs hpost hw => ?_)
              obtain ⟨hr_, hS_⟩ := hpost
              subst hr_
              subst hS_
              refine n_if_ne (tgt := 81) hx hb (by split <;> decide) dX11_trail_68 (by decide) (fun h_68 => ?_) (fun h_68 => ?_)
              · skip
                have hf3 := fF_t hm16 h_68
                have hok : okT (nI mN) a1 a2 a3 := ⟨⟨by omega, by omega⟩, ⟨h_26, by rw [hmm]; exact hf1⟩, ⟨h_30, by rw [hmm]; exact hf2⟩, by rw [hmm]; exact hf3⟩
                obtain ⟨f1, hg1, rfl, hf1i⟩ := z_nat (x := a1) hf1.1
                obtain ⟨f2, hg2, rfl, hf2i⟩ := z_nat (x := a2) hf2.1
                obtain ⟨f3, hg3, rfl, hf3i⟩ := z_nat (x := a3) hf3.1
                refine lv_aload_n hx hb dX11_trail_81 rfl (lv_at hl 1 rfl) ?_
                refine p_new C hw hA (ci := 9) (Cn := RX9) (T := TX9) (N := 4) (fs := [.int (nI 0), .int (nI 0), .null, .null]) tyX9 tyX9_ok rfl hin_RX9 (mU mw_657) (mU mw_658) (mU mw_165) (fun j hj => by rcases (show j = 0 ∨ j = 1 ∨ j = 2 ∨ j = 3 by omega) with rfl | rfl | rfl | rfl <;> rfl) (Nat.le_of_ble_eq_true rfl) (Nat.le_of_ble_eq_true rfl) dX11_trail_82 (fun st H hq_st hw => ?_)
                obtain ⟨S7, hS7⟩ : ∃ z, z = pnew S st (.inr (9, [.int (nI 0), .int (nI 0), .null, .null])) := ⟨_, rfl⟩
                replace hw : pW D (pA S s.heap.size) s.heap S7 H locs := by rw [hS7]; exact hw
                have hL8 : st ∈ S7.1 := by rw [hS7]; exact List.mem_append_right _ List.mem_cons_self
                have hf9 : S7.2 st = .inr (9, [.int (nI 0), .int (nI 0), .null, .null]) := by rw [hS7]; exact pnew_s
                refine lv_dup hx hb dX11_trail_85 rfl ?_
                refine lv_iload_n hx hb dX11_trail_86 rfl (lv_at hl 2 rfl) ?_
                refine lv_iload_n hx hb dX11_trail_87 rfl (lv_at hl 3 rfl) ?_
                refine lv_iload_n hx hb dX11_trail_88 rfl (lv_at hl 4 rfl) ?_
                refine lv_iload hx hb dX11_trail_89 (lv_at hl 5 rfl) ?_
                refine lv_aload_n hx hb dX11_trail_91 rfl (lv_at hl 1 rfl) ?_
                have hL10 : x ∈ S7.1 := by rw [hS7]; exact List.mem_append_left _ hL_x
                have hf11 : S7.2 x = .inr (11, [.ref ch, .ref ln, .ref sl, .ref mk, .ref co, .ref ca, .ref su, .ref lt]) := by rw [hS7]; exact (pnew_n (fun z : x = st => hq_st (by rw [← z]; exact hL_x))).trans hf_x
                refine p_get C hw (ci := 11) (Cn := RX11) (T := TX11) (N := 8) hL10 hf11 rfl hin_RX11 7 (by decide) (mU mw_36) rfl rfl dX11_trail_92 ?_
                refine p_callv (va_runI (As := [.int (nI mN), .int (nI f1), .int (nI f2), .int (nI f3), .ref lt]) (rest := [.ref st, .ref x]) C.fix (c_X9_init l D cy S7 H.size st 0 0 lt mN f1 f2 f3 hL8 hf9 (by first | assumption | decide | omega)) (cwI 5 C.2.2.2.2.1 (gU_sub sub_X9_init) rfl rfl rfl (C.2.2.2.2.1 (.initialized RX9) (mU mw_165)) (C.2.2.2.2.1 (.methodLink RX11 134 yX9_init) (mU mw_659)) (C.2.2.2.2.1 (.instanceMethod yX9_init) (mU mw_660)) rfl (by decide +kernel) ⟨Nat.le_of_ble_eq_true rfl, Nat.le_of_ble_eq_true rfl⟩) (p_preS C hw) rfl rfl hl.1 rfl (lv_room (Nat.le_of_ble_eq_true rfl)) dX11_trail_95 ⟨Nat.le_of_ble_eq_true rfl, Nat.le_of_ble_eq_true rfl⟩) hw hA (fun S12 H locs hpost hw => ?_)
                obtain ⟨sw, hp14, hS_⟩ := hpost
                obtain ⟨S15, hS15⟩ : ∃ z, z = pnew S7 sw (aN (cy 0) 32 (ttab f1 f2 f3 32)) := ⟨_, rfl⟩
                rw [← hS15] at hS_
                have hL16 : sw ∈ S15.1 := by rw [hS15]; exact List.mem_append_right _ List.mem_cons_self
                have hf17 : S15.2 sw = aN (cy 0) 32 (ttab f1 f2 f3 32) := by rw [hS15]; exact pnew_s
                have hL18 : st ∈ S15.1 := by rw [hS15]; exact List.mem_append_left _ hL8
                have hf19 : S15.2 st = .inr (9, [.int (nI 0), .int (nI 0), .null, .null]) := by rw [hS15]; exact (pnew_n (fun z : st = sw => hp14 (by rw [← z]; exact hL8))).trans hf9
                have hS20 := hS_
                have hL21 : st ∈ S12.1 := by rw [hS20]; exact hL18
                have hf22 : S12.2 st = .inr (9, [.int (nI mN), .int (nI (mk3 f3)), .ref sw, .ref lt]) := by rw [hS20]; exact pup_s
                have hL23 : x ∈ S15.1 := by rw [hS15]; exact List.mem_append_left _ hL10
                have hf24 : S15.2 x = .inr (11, [.ref ch, .ref ln, .ref sl, .ref mk, .ref co, .ref ca, .ref su, .ref lt]) := by rw [hS15]; exact (pnew_n (fun z : x = sw => hp14 (by rw [← z]; exact hL10))).trans hf11
                have hL25 : x ∈ S12.1 := by rw [hS20]; exact hL23
                have hf26 : S12.2 x = .inr (11, [.ref ch, .ref ln, .ref sl, .ref mk, .ref co, .ref ca, .ref su, .ref lt]) := by rw [hS20]; exact (pup_n (fun z : x = st => hq_st (by rw [← z]; exact hL_x))).trans hf24
                have hL27 : ch ∈ S7.1 := by rw [hS7]; exact List.mem_append_left _ hL_ch
                have hf28 : S7.2 ch = .inr (2, [.ref lk, .int (nI 0)]) := by rw [hS7]; exact (pnew_n (fun z : ch = st => hq_st (by rw [← z]; exact hL_ch))).trans hf_ch
                have hL29 : ch ∈ S15.1 := by rw [hS15]; exact List.mem_append_left _ hL27
                have hf30 : S15.2 ch = .inr (2, [.ref lk, .int (nI 0)]) := by rw [hS15]; exact (pnew_n (fun z : ch = sw => hp14 (by rw [← z]; exact hL27))).trans hf28
                have hL31 : ch ∈ S12.1 := by rw [hS20]; exact hL29
                have hf32 : S12.2 ch = .inr (2, [.ref lk, .int (nI 0)]) := by rw [hS20]; exact (pup_n (fun z : ch = st => hq_st (by rw [← z]; exact hL_ch))).trans hf30
                have hL33 : lk ∈ S7.1 := by rw [hS7]; exact List.mem_append_left _ hL_lk
                have hf34 : S7.2 lk = aQ (cy 3) 4 (fun _ => none) := by rw [hS7]; exact (pnew_n (fun z : lk = st => hq_st (by rw [← z]; exact hL_lk))).trans hf_lk
                have hL35 : lk ∈ S15.1 := by rw [hS15]; exact List.mem_append_left _ hL33
                have hf36 : S15.2 lk = aQ (cy 3) 4 (fun _ => none) := by rw [hS15]; exact (pnew_n (fun z : lk = sw => hp14 (by rw [← z]; exact hL33))).trans hf34
                have hL37 : lk ∈ S12.1 := by rw [hS20]; exact hL35
                have hf38 : S12.2 lk = aQ (cy 3) 4 (fun _ => none) := by rw [hS20]; exact (pup_n (fun z : lk = st => hq_st (by rw [← z]; exact hL_lk))).trans hf36
                have hL39 : ln ∈ S7.1 := by rw [hS7]; exact List.mem_append_left _ hL_ln
                have hf40 : S7.2 ln = .inr (6, [.int (nI 0), .int (nI 0), .int (nI 0), .int (nI 0)]) := by rw [hS7]; exact (pnew_n (fun z : ln = st => hq_st (by rw [← z]; exact hL_ln))).trans hf_ln
                have hL41 : ln ∈ S15.1 := by rw [hS15]; exact List.mem_append_left _ hL39
                have hf42 : S15.2 ln = .inr (6, [.int (nI 0), .int (nI 0), .int (nI 0), .int (nI 0)]) := by rw [hS15]; exact (pnew_n (fun z : ln = sw => hp14 (by rw [← z]; exact hL39))).trans hf40
                have hL43 : ln ∈ S12.1 := by rw [hS20]; exact hL41
                have hf44 : S12.2 ln = .inr (6, [.int (nI 0), .int (nI 0), .int (nI 0), .int (nI 0)]) := by rw [hS20]; exact (pup_n (fun z : ln = st => hq_st (by rw [← z]; exact hL_ln))).trans hf42
                have hL45 : mk ∈ S7.1 := by rw [hS7]; exact List.mem_append_left _ hL_mk
                have hf46 : S7.2 mk = .inr (8, [.ref mb, .int (nI 320)]) := by rw [hS7]; exact (pnew_n (fun z : mk = st => hq_st (by rw [← z]; exact hL_mk))).trans hf_mk
                have hL47 : mk ∈ S15.1 := by rw [hS15]; exact List.mem_append_left _ hL45
                have hf48 : S15.2 mk = .inr (8, [.ref mb, .int (nI 320)]) := by rw [hS15]; exact (pnew_n (fun z : mk = sw => hp14 (by rw [← z]; exact hL45))).trans hf46
                have hL49 : mk ∈ S12.1 := by rw [hS20]; exact hL47
                have hf50 : S12.2 mk = .inr (8, [.ref mb, .int (nI 320)]) := by rw [hS20]; exact (pup_n (fun z : mk = st => hq_st (by rw [← z]; exact hL_mk))).trans hf48
                have hL51 : mb ∈ S7.1 := by rw [hS7]; exact List.mem_append_left _ hL_mb
                have hf52 : S7.2 mb = aN (cy 0) 320 (fun _ => 0) := by rw [hS7]; exact (pnew_n (fun z : mb = st => hq_st (by rw [← z]; exact hL_mb))).trans hf_mb
                have hL53 : mb ∈ S15.1 := by rw [hS15]; exact List.mem_append_left _ hL51
                have hf54 : S15.2 mb = aN (cy 0) 320 (fun _ => 0) := by rw [hS15]; exact (pnew_n (fun z : mb = sw => hp14 (by rw [← z]; exact hL51))).trans hf52
                have hL55 : mb ∈ S12.1 := by rw [hS20]; exact hL53
                have hf56 : S12.2 mb = aN (cy 0) 320 (fun _ => 0) := by rw [hS20]; exact (pup_n (fun z : mb = st => hq_st (by rw [← z]; exact hL_mb))).trans hf54
                have hL57 : co ∈ S7.1 := by rw [hS7]; exact List.mem_append_left _ hL_co
                have hf58 : S7.2 co = .inr (5, [.ref col, .ref con]) := by rw [hS7]; exact (pnew_n (fun z : co = st => hq_st (by rw [← z]; exact hL_co))).trans hf_co
                have hL59 : co ∈ S15.1 := by rw [hS15]; exact List.mem_append_left _ hL57
                have hf60 : S15.2 co = .inr (5, [.ref col, .ref con]) := by rw [hS15]; exact (pnew_n (fun z : co = sw => hp14 (by rw [← z]; exact hL57))).trans hf58
                have hL61 : co ∈ S12.1 := by rw [hS20]; exact hL59
                have hf62 : S12.2 co = .inr (5, [.ref col, .ref con]) := by rw [hS20]; exact (pup_n (fun z : co = st => hq_st (by rw [← z]; exact hL_co))).trans hf60
                have hL63 : col ∈ S7.1 := by rw [hS7]; exact List.mem_append_left _ hL_col
                have hf64 : S7.2 col = aQ (cy 2) 5 (va_up (va_up (va_up (va_up (va_up (fun _ => none) 0 (some cor0)) 1 (some cor1)) 2 (some cor2)) 3 (some cor3)) 4 (some cor4)) := by rw [hS7]; exact (pnew_n (fun z : col = st => hq_st (by rw [← z]; exact hL_col))).trans hf_col
                have hL65 : col ∈ S15.1 := by rw [hS15]; exact List.mem_append_left _ hL63
                have hf66 : S15.2 col = aQ (cy 2) 5 (va_up (va_up (va_up (va_up (va_up (fun _ => none) 0 (some cor0)) 1 (some cor1)) 2 (some cor2)) 3 (some cor3)) 4 (some cor4)) := by rw [hS15]; exact (pnew_n (fun z : col = sw => hp14 (by rw [← z]; exact hL63))).trans hf64
                have hL67 : col ∈ S12.1 := by rw [hS20]; exact hL65
                have hf68 : S12.2 col = aQ (cy 2) 5 (va_up (va_up (va_up (va_up (va_up (fun _ => none) 0 (some cor0)) 1 (some cor1)) 2 (some cor2)) 3 (some cor3)) 4 (some cor4)) := by rw [hS20]; exact (pup_n (fun z : col = st => hq_st (by rw [← z]; exact hL_col))).trans hf66
                have hL69 : cor0 ∈ S7.1 := by rw [hS7]; exact List.mem_append_left _ hL_cor0
                have hf70 : S7.2 cor0 = .inr (8, [.ref cob0, .int (nI 0)]) := by rw [hS7]; exact (pnew_n (fun z : cor0 = st => hq_st (by rw [← z]; exact hL_cor0))).trans hf_cor0
                have hL71 : cor0 ∈ S15.1 := by rw [hS15]; exact List.mem_append_left _ hL69
                have hf72 : S15.2 cor0 = .inr (8, [.ref cob0, .int (nI 0)]) := by rw [hS15]; exact (pnew_n (fun z : cor0 = sw => hp14 (by rw [← z]; exact hL69))).trans hf70
                have hL73 : cor0 ∈ S12.1 := by rw [hS20]; exact hL71
                have hf74 : S12.2 cor0 = .inr (8, [.ref cob0, .int (nI 0)]) := by rw [hS20]; exact (pup_n (fun z : cor0 = st => hq_st (by rw [← z]; exact hL_cor0))).trans hf72
                have hL75 : cor1 ∈ S7.1 := by rw [hS7]; exact List.mem_append_left _ hL_cor1
                have hf76 : S7.2 cor1 = .inr (8, [.ref cob1, .int (nI 0)]) := by rw [hS7]; exact (pnew_n (fun z : cor1 = st => hq_st (by rw [← z]; exact hL_cor1))).trans hf_cor1
                have hL77 : cor1 ∈ S15.1 := by rw [hS15]; exact List.mem_append_left _ hL75
                have hf78 : S15.2 cor1 = .inr (8, [.ref cob1, .int (nI 0)]) := by rw [hS15]; exact (pnew_n (fun z : cor1 = sw => hp14 (by rw [← z]; exact hL75))).trans hf76
                have hL79 : cor1 ∈ S12.1 := by rw [hS20]; exact hL77
                have hf80 : S12.2 cor1 = .inr (8, [.ref cob1, .int (nI 0)]) := by rw [hS20]; exact (pup_n (fun z : cor1 = st => hq_st (by rw [← z]; exact hL_cor1))).trans hf78
                have hL81 : cob1 ∈ S7.1 := by rw [hS7]; exact List.mem_append_left _ hL_cob1
                have hf82 : S7.2 cob1 = aN (cy 0) 320 (fun _ => 0) := by rw [hS7]; exact (pnew_n (fun z : cob1 = st => hq_st (by rw [← z]; exact hL_cob1))).trans hf_cob1
                have hL83 : cob1 ∈ S15.1 := by rw [hS15]; exact List.mem_append_left _ hL81
                have hf84 : S15.2 cob1 = aN (cy 0) 320 (fun _ => 0) := by rw [hS15]; exact (pnew_n (fun z : cob1 = sw => hp14 (by rw [← z]; exact hL81))).trans hf82
                have hL85 : cob1 ∈ S12.1 := by rw [hS20]; exact hL83
                have hf86 : S12.2 cob1 = aN (cy 0) 320 (fun _ => 0) := by rw [hS20]; exact (pup_n (fun z : cob1 = st => hq_st (by rw [← z]; exact hL_cob1))).trans hf84
                have hL87 : ca ∈ S7.1 := by rw [hS7]; exact List.mem_append_left _ hL_ca
                have hf88 : S7.2 ca = .inr (5, [.ref cal, .ref can]) := by rw [hS7]; exact (pnew_n (fun z : ca = st => hq_st (by rw [← z]; exact hL_ca))).trans hf_ca
                have hL89 : ca ∈ S15.1 := by rw [hS15]; exact List.mem_append_left _ hL87
                have hf90 : S15.2 ca = .inr (5, [.ref cal, .ref can]) := by rw [hS15]; exact (pnew_n (fun z : ca = sw => hp14 (by rw [← z]; exact hL87))).trans hf88
                have hL91 : ca ∈ S12.1 := by rw [hS20]; exact hL89
                have hf92 : S12.2 ca = .inr (5, [.ref cal, .ref can]) := by rw [hS20]; exact (pup_n (fun z : ca = st => hq_st (by rw [← z]; exact hL_ca))).trans hf90
                have hL93 : cal ∈ S7.1 := by rw [hS7]; exact List.mem_append_left _ hL_cal
                have hf94 : S7.2 cal = aQ (cy 2) 5 (va_up (va_up (va_up (va_up (va_up (fun _ => none) 0 (some car0)) 1 (some car1)) 2 (some car2)) 3 (some car3)) 4 (some car4)) := by rw [hS7]; exact (pnew_n (fun z : cal = st => hq_st (by rw [← z]; exact hL_cal))).trans hf_cal
                have hL95 : cal ∈ S15.1 := by rw [hS15]; exact List.mem_append_left _ hL93
                have hf96 : S15.2 cal = aQ (cy 2) 5 (va_up (va_up (va_up (va_up (va_up (fun _ => none) 0 (some car0)) 1 (some car1)) 2 (some car2)) 3 (some car3)) 4 (some car4)) := by rw [hS15]; exact (pnew_n (fun z : cal = sw => hp14 (by rw [← z]; exact hL93))).trans hf94
                have hL97 : cal ∈ S12.1 := by rw [hS20]; exact hL95
                have hf98 : S12.2 cal = aQ (cy 2) 5 (va_up (va_up (va_up (va_up (va_up (fun _ => none) 0 (some car0)) 1 (some car1)) 2 (some car2)) 3 (some car3)) 4 (some car4)) := by rw [hS20]; exact (pup_n (fun z : cal = st => hq_st (by rw [← z]; exact hL_cal))).trans hf96
                have hL99 : car0 ∈ S7.1 := by rw [hS7]; exact List.mem_append_left _ hL_car0
                have hf100 : S7.2 car0 = .inr (8, [.ref cab0, .int (nI 0)]) := by rw [hS7]; exact (pnew_n (fun z : car0 = st => hq_st (by rw [← z]; exact hL_car0))).trans hf_car0
                have hL101 : car0 ∈ S15.1 := by rw [hS15]; exact List.mem_append_left _ hL99
                have hf102 : S15.2 car0 = .inr (8, [.ref cab0, .int (nI 0)]) := by rw [hS15]; exact (pnew_n (fun z : car0 = sw => hp14 (by rw [← z]; exact hL99))).trans hf100
                have hL103 : car0 ∈ S12.1 := by rw [hS20]; exact hL101
                have hf104 : S12.2 car0 = .inr (8, [.ref cab0, .int (nI 0)]) := by rw [hS20]; exact (pup_n (fun z : car0 = st => hq_st (by rw [← z]; exact hL_car0))).trans hf102
                have hL105 : cab0 ∈ S7.1 := by rw [hS7]; exact List.mem_append_left _ hL_cab0
                have hf106 : S7.2 cab0 = aN (cy 0) 32 (fun _ => 0) := by rw [hS7]; exact (pnew_n (fun z : cab0 = st => hq_st (by rw [← z]; exact hL_cab0))).trans hf_cab0
                have hL107 : cab0 ∈ S15.1 := by rw [hS15]; exact List.mem_append_left _ hL105
                have hf108 : S15.2 cab0 = aN (cy 0) 32 (fun _ => 0) := by rw [hS15]; exact (pnew_n (fun z : cab0 = sw => hp14 (by rw [← z]; exact hL105))).trans hf106
                have hL109 : cab0 ∈ S12.1 := by rw [hS20]; exact hL107
                have hf110 : S12.2 cab0 = aN (cy 0) 32 (fun _ => 0) := by rw [hS20]; exact (pup_n (fun z : cab0 = st => hq_st (by rw [← z]; exact hL_cab0))).trans hf108
                have hL111 : car1 ∈ S7.1 := by rw [hS7]; exact List.mem_append_left _ hL_car1
                have hf112 : S7.2 car1 = .inr (8, [.ref cab1, .int (nI 0)]) := by rw [hS7]; exact (pnew_n (fun z : car1 = st => hq_st (by rw [← z]; exact hL_car1))).trans hf_car1
                have hL113 : car1 ∈ S15.1 := by rw [hS15]; exact List.mem_append_left _ hL111
                have hf114 : S15.2 car1 = .inr (8, [.ref cab1, .int (nI 0)]) := by rw [hS15]; exact (pnew_n (fun z : car1 = sw => hp14 (by rw [← z]; exact hL111))).trans hf112
                have hL115 : car1 ∈ S12.1 := by rw [hS20]; exact hL113
                have hf116 : S12.2 car1 = .inr (8, [.ref cab1, .int (nI 0)]) := by rw [hS20]; exact (pup_n (fun z : car1 = st => hq_st (by rw [← z]; exact hL_car1))).trans hf114
                have hL117 : cab1 ∈ S7.1 := by rw [hS7]; exact List.mem_append_left _ hL_cab1
                have hf118 : S7.2 cab1 = aN (cy 0) 320 (fun _ => 0) := by rw [hS7]; exact (pnew_n (fun z : cab1 = st => hq_st (by rw [← z]; exact hL_cab1))).trans hf_cab1
                have hL119 : cab1 ∈ S15.1 := by rw [hS15]; exact List.mem_append_left _ hL117
                have hf120 : S15.2 cab1 = aN (cy 0) 320 (fun _ => 0) := by rw [hS15]; exact (pnew_n (fun z : cab1 = sw => hp14 (by rw [← z]; exact hL117))).trans hf118
                have hL121 : cab1 ∈ S12.1 := by rw [hS20]; exact hL119
                have hf122 : S12.2 cab1 = aN (cy 0) 320 (fun _ => 0) := by rw [hS20]; exact (pup_n (fun z : cab1 = st => hq_st (by rw [← z]; exact hL_cab1))).trans hf120
                have hL123 : lt ∈ S7.1 := by rw [hS7]; exact List.mem_append_left _ hL_lt
                have hf124 : S7.2 lt = .inr (4, [.ref lf, .ref lx, .ref lw]) := by rw [hS7]; exact (pnew_n (fun z : lt = st => hq_st (by rw [← z]; exact hL_lt))).trans hf_lt
                have hL125 : lt ∈ S15.1 := by rw [hS15]; exact List.mem_append_left _ hL123
                have hf126 : S15.2 lt = .inr (4, [.ref lf, .ref lx, .ref lw]) := by rw [hS15]; exact (pnew_n (fun z : lt = sw => hp14 (by rw [← z]; exact hL123))).trans hf124
                have hL127 : lt ∈ S12.1 := by rw [hS20]; exact hL125
                have hf128 : S12.2 lt = .inr (4, [.ref lf, .ref lx, .ref lw]) := by rw [hS20]; exact (pup_n (fun z : lt = st => hq_st (by rw [← z]; exact hL_lt))).trans hf126
                have hL129 : lf ∈ S7.1 := by rw [hS7]; exact List.mem_append_left _ hL_lf
                have hf130 : S7.2 lf = aN (cy 0) 16 (fun _ => 0) := by rw [hS7]; exact (pnew_n (fun z : lf = st => hq_st (by rw [← z]; exact hL_lf))).trans hf_lf
                have hL131 : lf ∈ S15.1 := by rw [hS15]; exact List.mem_append_left _ hL129
                have hf132 : S15.2 lf = aN (cy 0) 16 (fun _ => 0) := by rw [hS15]; exact (pnew_n (fun z : lf = sw => hp14 (by rw [← z]; exact hL129))).trans hf130
                have hL133 : lf ∈ S12.1 := by rw [hS20]; exact hL131
                have hf134 : S12.2 lf = aN (cy 0) 16 (fun _ => 0) := by rw [hS20]; exact (pup_n (fun z : lf = st => hq_st (by rw [← z]; exact hL_lf))).trans hf132
                refine p_calli (va_runV (As := [.ref st]) (rest := []) C.fix (e_X11_putBehindtrl l D cy S12 H.size x st ch ln sl mk co ca su lt lk mb col con cor0 cor1 cor2 cor3 cor4 cob0 cob1 cal can car0 car1 car2 car3 car4 cab0 cab1 lf lx lw sw mN (mk3 f3) (fun _ => 0) hL25 hf26 hL31 hf32 hL37 hf38 hL43 hf44 hL49 hf50 hL55 hf56 hL61 hf62 hL67 hf68 hL73 hf74 hL79 hf80 hL85 hf86 hL91 hf92 hL97 hf98 hL103 hf104 hL109 hf110 hL115 hf116 hL121 hf122 hL127 hf128 hL133 hf134 hL21 hf22 hne_col_lk hne_cal_lk hne_cor0_cor1 hne_mk_cor1 hne_car1_cor1 hne_cob1_cab1 hne_mk_car1 hne_mb_cab1 hne_lf_cab1 hne_cor0_car1 hne_car0_cor1 hne_car0_car1 hne_cab0_cab1) (cwV 1 C.2.2.2.2.1 (gU_V mw_576 mw_577 mw_578 mw_2 (subU mw_579)) rfl rfl rfl hde_X11_trail_V_1 ⟨Nat.le_of_ble_eq_true rfl, Nat.le_of_ble_eq_true rfl⟩) (p_preV C hw hL25 hf26 rfl) rfl rfl hl.1 rfl (lv_room (Nat.le_of_ble_eq_true rfl)) dX11_trail_98 ⟨Nat.le_of_ble_eq_true rfl, Nat.le_of_ble_eq_true rfl⟩) hw hA (fun r136 S135 H locs hpost hw => ?_)
                obtain ⟨hr_, hS137, hfr138⟩ := hpost
                subst hr_
                refine vx_ret ?_
                exact (p_iret C hw (⟨st, sw, hok, rfl, (by simp only [hS137, hS20, hS15, hS7, pup, pnew, List.append_nil, List.append_assoc, List.cons_append, List.nil_append]), (fun a_ ha_ hn_0 hn_1 hn_2 hn_3 hn_4 hn_5 hn_6 => ((hfr138 a_ (show a_ ∈ S12.1 from by rw [hS20]; exact (show a_ ∈ S15.1 from by rw [hS15]; exact List.mem_append_left _ (show a_ ∈ S7.1 from by rw [hS7]; exact List.mem_append_left _ ha_))) hn_0 hn_1 hn_2 hn_3 hn_4 hn_5 hn_6).trans ((show S12.2 a_ = S15.2 a_ from by rw [hS20]; exact pup_n (fun z : a_ = st => hq_st (by rw [← z]; exact ha_))).trans ((show S15.2 a_ = S7.2 a_ from by rw [hS15]; exact pnew_n (fun z : a_ = sw => hp14 (by rw [← z]; exact (show a_ ∈ S7.1 from by rw [hS7]; exact List.mem_append_left _ ha_)))).trans (show S7.2 a_ = S.2 a_ from by rw [hS7]; exact pnew_n (fun z : a_ = st => hq_st (by rw [← z]; exact ha_)))))))⟩) hr hlocks dX11_trail_101)
              · skip
                have hf3 := fF_f hm16 h_68
                have hnok : ¬ okT (nI mN) a1 a2 a3 := fun h => hf3 (by have h1 := h.2.2.2; rw [hmm] at h1; exact h1)
                exact x_throw (y := yX11_trail) C hflags hw hE (kS := 12) (kT := 0) mw_119 mw_120 tIA_x rfl rfl (by decide) tIA_n tIA_g hl.1.symm dX11_trail_71 dX11_trail_74 dX11_trail_75 dX11_trail_77 dX11_trail_80 htab (Nat.le_of_ble_eq_true rfl) (Nat.le_of_ble_eq_true rfl) (Nat.le_of_ble_eq_true rfl) (Nat.le_of_ble_eq_true rfl) hlocks (⟨rfl, hnok, rfl⟩) (Nat.le_of_ble_eq_true rfl) (Nat.le_of_ble_eq_true rfl)
            · skip
              have hf2 := fF_f hm16 h_48
              have hnok : ¬ okT (nI mN) a1 a2 a3 := fun h => hf2 (by have h1 := h.2.2.1.2; rw [hmm] at h1; exact h1)
              exact x_throw (y := yX11_trail) C hflags hw hE (kS := 11) (kT := 0) mw_119 mw_120 tIA_x rfl rfl (by decide) tIA_n tIA_g hl.1.symm dX11_trail_51 dX11_trail_54 dX11_trail_55 dX11_trail_57 dX11_trail_60 htab (Nat.le_of_ble_eq_true rfl) (Nat.le_of_ble_eq_true rfl) (Nat.le_of_ble_eq_true rfl) (Nat.le_of_ble_eq_true rfl) hlocks (⟨rfl, hnok, rfl⟩) (Nat.le_of_ble_eq_true rfl) (Nat.le_of_ble_eq_true rfl)
    · skip
      exact x_throw (y := yX11_trail) C hflags hw hE (kS := 10) (kT := 0) mw_119 mw_120 tIA_x rfl rfl (by decide) tIA_n tIA_g hl.1.symm dX11_trail_10 dX11_trail_13 dX11_trail_14 dX11_trail_16 dX11_trail_19 htab (Nat.le_of_ble_eq_true rfl) (Nat.le_of_ble_eq_true rfl) (Nat.le_of_ble_eq_true rfl) (Nat.le_of_ble_eq_true rfl) hlocks (⟨rfl, (fun h => by have h1 := h.1; omega), rfl⟩) (Nat.le_of_ble_eq_true rfl) (Nat.le_of_ble_eq_true rfl)
