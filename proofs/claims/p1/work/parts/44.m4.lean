theorem hde_X13_repeat_S_0 : yX13_isIn.cls ≠ "java/lang/invoke/MethodHandle" ∧ yX13_isIn.cls ≠ "java/lang/invoke/VarHandle" ∧ (parseMethodDescriptor yX13_isIn.desc).map (fun d => d.parameters.length) = some 3 := by decide +kernel
theorem hde_X13_repeat_V_1 : yX13_start.cls = RX13 ∧ yX13_start.cls ≠ "java/lang/invoke/MethodHandle" ∧ yX13_start.cls ≠ "java/lang/invoke/VarHandle" ∧ (parseMethodDescriptor yX13_start.desc).map (fun d => d.parameters.length) = some 2 := by decide +kernel
theorem hde_X13_repeat_V_2 : yX13_add.cls = RX13 ∧ yX13_add.cls ≠ "java/lang/invoke/MethodHandle" ∧ yX13_add.cls ≠ "java/lang/invoke/VarHandle" ∧ (parseMethodDescriptor yX13_add.desc).map (fun d => d.parameters.length) = some 1 := by decide +kernel
set_option maxHeartbeats 4000000 in
set_option maxRecDepth 100000 in
theorem e_X13_repeat (l : Launch) (D : va_G) (cy : Nat → ClassId) (ed : Nat) (S : pS) (sz : Nat) (mm : Nat) (me : Nat) (sg : Nat) (cn : Nat) (im : Nat) (n : Int32) (hL_mm : mm ∈ S.1) (hf_mm : S.2 mm = .inr (13, [.int (nI 0), .ref me, .ref sg, .ref cn, .ref im])) (hL_me : me ∈ S.1) (hf_me : S.2 me = .inl (cy 0, 0, .inl (fun _ => 0))) (hL_sg : sg ∈ S.1) (hf_sg : S.2 sg = .inr (0, [.int (nI 0), .ref ed, .int (nI 0)]))  : Met l yX13_repeat (Cond.code yX13_repeat cX13_repeat 2 (some .int) :: lwU) ({ frames := 8, cells := 6, slots := 27, locals := 173 }) (ePc D cy ed S sz [.ref mm, .int n]) (pQi D cy S sz (fun r S' => (∃ (nl : List Nat), (okR n) ∧ r = (nI 0) ∧ S'.1 = S.1 ++ nl ∧ (∀ a_, a_ ∈ S.1 → a_ ≠ mm → a_ ≠ sg → S'.2 a_ = S.2 a_) ∧ S'.2 mm = .inr (13, [.int (nI 0), .ref me, .ref sg, .ref cn, .ref im])) ∨ (∃ (nl : List Nat), (¬ okR n) ∧ r = (nI 0) ∧ S'.1 = S.1 ++ nl ∧ (∀ a_, a_ ∈ S.1 → a_ ≠ mm → S'.2 a_ = S.2 a_) ∧ S'.2 mm = .inr (13, [.int (nI 1), .ref me, .ref sg, .ref cn, .ref im])))) 6 27 (pA S sz) := by
  refine Met.ofW (cc := cX13_repeat) (maxL := 2) (ret := (some .int)) (by decide) rfl ?_
  intro p e s m args below meth c s₁ B hml hv
  obtain ⟨rfl, rfl, C, hw, hA, hr, hlocks, hE⟩ := e_start B hml hv
  have hx := C.1
  have hb := C.2.1
  have hl := lv_entry ([.ref mm, .int n]) (n := 2) (Nat.le_of_ble_eq_true rfl)
  rw [lg_entry_eq]
  generalize (lg_sl ([.ref mm, .int n]) ++ List.replicate (2 - (lg_sl ([.ref mm, .int n])).length) Slot.unset).toArray = ls at hl ⊢
  have hl : lv_has ls 2 [(0, .ref mm), (1, .int n)] := hl
  have hin_RX12 : ∀ w ∈ u_ws RX12 TX12 4, w ∈ (Cond.code yX13_repeat cX13_repeat 2 (some .int) :: lwU) := fun w h => mU (sub_RX12 w h)
  refine lv_aload_n hx hb dX13_repeat_0 rfl (lv_at hl 0 rfl) ?_
  refine lv_iload_n hx hb dX13_repeat_1 rfl (lv_at hl 1 rfl) ?_
  refine lv_iconst (v := nI 2) hx hb dX13_repeat_2 (by decide) ?_
  refine lv_iconst (v := nI 5) hx hb dX13_repeat_3 (by decide) ?_
  refine p_calli (va_runS (As := [.int n, .int (nI 2), .int (nI 5)]) (rest := [.ref mm]) C.fix (e_X13_isIn l D cy S s.heap.size n (nI 2) (nI 5) n.toInt ((2 : Nat) : Int) ((5 : Nat) : Int)  rfl (nI_toInt (by first | decide | omega)) (nI_toInt (by first | decide | omega))) (va_cwS 3 C.2.2.2.2.1 (gU_S mw_394 mw_395 mw_5 (subU mw_396)) rfl rfl rfl hde_X13_repeat_S_0 ⟨Nat.le_of_ble_eq_true rfl, Nat.le_of_ble_eq_true rfl⟩) (p_preS C hw) rfl rfl hl.1 rfl (lv_room (Nat.le_of_ble_eq_true rfl)) dX13_repeat_4 ⟨(Nat.le_of_ble_eq_true rfl), (Nat.le_of_ble_eq_true rfl)⟩) hw hA (fun r2 S1 H locs hpost hw => ?_)
  rcases hpost with hpost | hpost
  · skip
    obtain ⟨hc3, hr_, hS_⟩ := hpost
    subst hr_
    subst hS_
    refine n_if_ne (tgt := 14) hx hb (by first | decide | omega) dX13_repeat_7 (by decide) (fun h_7 => ?_) (fun h_7 => ?_)
    · skip
      refine lv_iconst (v := nI 0) hx hb dX13_repeat_14 (by decide) ?_
      refine lv_iconst (v := nI 1) hx hb dX13_repeat_15 (by decide) ?_
      refine p_calli (va_runV (As := [.int (nI 0), .int (nI 1)]) (rest := []) C.fix (e_X13_start0 l D cy S H.size mm me sg cn im 1 0 hL_mm hf_mm ) (cwV 2 C.2.2.2.2.1 (gU_V mw_397 mw_398 mw_399 mw_5 (subU mw_400)) rfl rfl rfl hde_X13_repeat_V_1 ⟨Nat.le_of_ble_eq_true rfl, Nat.le_of_ble_eq_true rfl⟩) (p_preV C hw hL_mm hf_mm rfl) rfl rfl hl.1 rfl (lv_room (Nat.le_of_ble_eq_true rfl)) dX13_repeat_16 ⟨(Nat.le_of_ble_eq_true rfl), (Nat.le_of_ble_eq_true rfl)⟩) hw hA (fun r5 S4 H locs hpost hw => ?_)
      obtain ⟨hr_, hS6, hfr7, hf8⟩ := hpost
      subst hr_
      have hL9 : mm ∈ S4.1 := by rw [hS6]; exact List.mem_append_left _ hL_mm
      refine n_if_eq (tgt := 26) hx hb (by first | decide | omega) dX13_repeat_19 (by decide) (fun h_19 => ?_) (fun h_19 => ?_)
      · skip
        obtain ⟨nN, hn31, rfl, hni⟩ := z_nat (x := n) (by omega)
        refine lv_aload_n hx hb dX13_repeat_26 rfl (lv_at hl 0 rfl) ?_
        refine p_new C hw hA (ci := 12) (Cn := RX12) (T := TX12) (N := 4) (fs := [.int (nI 0), .int (nI 0), .int (nI 0), .null]) tyX12 tyX12_ok rfl hin_RX12 (mU mw_418) (mU mw_590) (mU mw_407) (fun j hj => by rcases (show j = 0 ∨ j = 1 ∨ j = 2 ∨ j = 3 by omega) with rfl | rfl | rfl | rfl <;> rfl) (Nat.le_of_ble_eq_true rfl) (Nat.le_of_ble_eq_true rfl) dX13_repeat_27 (fun nq10 H hq_nq10 hw => ?_)
        obtain ⟨S11, hS11⟩ : ∃ z, z = pnew S4 nq10 (.inr (12, [.int (nI 0), .int (nI 0), .int (nI 0), .null])) := ⟨_, rfl⟩
        replace hw : pW D (pA S s.heap.size) s.heap S11 H locs := by rw [hS11]; exact hw
        have hL12 : nq10 ∈ S11.1 := by rw [hS11]; exact List.mem_append_right _ List.mem_cons_self
        have hf13 : S11.2 nq10 = .inr (12, [.int (nI 0), .int (nI 0), .int (nI 0), .null]) := by rw [hS11]; exact pnew_s
        refine lv_dup hx hb dX13_repeat_30 rfl ?_
        refine lv_iconst (v := nI 0) hx hb dX13_repeat_31 (by decide) ?_
        refine lv_iload_n hx hb dX13_repeat_32 rfl (lv_at hl 1 rfl) ?_
        refine lv_iconst (v := nI 0) hx hb dX13_repeat_33 (by decide) ?_
        refine lv_iconst (v := nI 0) hx hb dX13_repeat_34 (by decide) ?_
        refine p_newa C hw hA (mU mw_59) 0 rfl (n := 0) (by first | decide | omega) (Nat.le_of_ble_eq_true rfl) (Nat.le_of_ble_eq_true rfl) dX13_repeat_35 (fun na14 H hq_na14 hw => ?_)
        obtain ⟨S15, hS15⟩ : ∃ z, z = pnew S11 na14 (.inl (cy 0, 0, .inl (fun _ => 0))) := ⟨_, rfl⟩
        replace hw : pW D (pA S s.heap.size) s.heap S15 H locs := by rw [hS15]; exact hw
        have hL16 : na14 ∈ S15.1 := by rw [hS15]; exact List.mem_append_right _ List.mem_cons_self
        have hf17 : S15.2 na14 = .inl (cy 0, 0, .inl (fun _ => 0)) := by rw [hS15]; exact pnew_s
        have hL18 : nq10 ∈ S15.1 := by rw [hS15]; exact List.mem_append_left _ hL12
        have hf19 : S15.2 nq10 = .inr (12, [.int (nI 0), .int (nI 0), .int (nI 0), .null]) := by rw [hS15]; exact (pnew_n (fun z : nq10 = na14 => hq_na14 (by rw [← z]; exact hL12))).trans hf13
        refine p_callv (va_runI (As := [.int (nI 0), .int (nI nN), .int (nI 0), .ref na14]) (rest := [.ref nq10, .ref mm]) C.fix (e_X12_init l D cy S15 H.size nq10 na14 0 nN 0 hL18 hf19 ) (cwI 4 C.2.2.2.2.1 (gU_sub (subU mw_593)) rfl rfl rfl (C.2.2.2.2.1 (.initialized RX12) (mU mw_407)) (C.2.2.2.2.1 (.methodLink RX13 127 yX12_init) (mU mw_591)) (C.2.2.2.2.1 (.instanceMethod yX12_init) (mU mw_592)) rfl (by decide +kernel) ⟨Nat.le_of_ble_eq_true rfl, Nat.le_of_ble_eq_true rfl⟩) (p_preS C hw) rfl rfl hl.1 rfl (lv_room (Nat.le_of_ble_eq_true rfl)) dX13_repeat_37 ⟨(Nat.le_of_ble_eq_true rfl), (Nat.le_of_ble_eq_true rfl)⟩) hw hA (fun S20 H locs hpost hw => ?_)
        obtain ⟨hS22, hfr23, hf24⟩ := hpost
        have hL25 : nq10 ∈ S20.1 := by rw [hS22]; exact List.mem_append_left _ hL18
        have hL26 : mm ∈ S11.1 := by rw [hS11]; exact List.mem_append_left _ hL9
        have hf27 : S11.2 mm = .inr (13, [.int (nI 0), .ref me, .ref sg, .ref cn, .ref im]) := by rw [hS11]; exact (pnew_n (fun z : mm = nq10 => hq_nq10 (by rw [← z]; exact hL9))).trans hf8
        have hL28 : mm ∈ S15.1 := by rw [hS15]; exact List.mem_append_left _ hL26
        have hf29 : S15.2 mm = .inr (13, [.int (nI 0), .ref me, .ref sg, .ref cn, .ref im]) := by rw [hS15]; exact (pnew_n (fun z : mm = na14 => hq_na14 (by rw [← z]; exact hL26))).trans hf27
        have hL30 : mm ∈ S20.1 := by rw [hS22]; exact List.mem_append_left _ hL28
        have hf31 : S20.2 mm = .inr (13, [.int (nI 0), .ref me, .ref sg, .ref cn, .ref im]) := (hfr23 mm hL28 (fun z : mm = nq10 => hq_nq10 (by rw [← z]; exact hL9))).trans hf29
        have hL32 : me ∈ S4.1 := by rw [hS6]; exact List.mem_append_left _ hL_me
        have hf33 : S4.2 me = .inl (cy 0, 0, .inl (fun _ => 0)) := (hfr7 me hL_me (ne_cells hf_me hf_mm (by nofun))).trans hf_me
        have hL34 : me ∈ S11.1 := by rw [hS11]; exact List.mem_append_left _ hL32
        have hf35 : S11.2 me = .inl (cy 0, 0, .inl (fun _ => 0)) := by rw [hS11]; exact (pnew_n (fun z : me = nq10 => hq_nq10 (by rw [← z]; exact hL32))).trans hf33
        have hL36 : me ∈ S15.1 := by rw [hS15]; exact List.mem_append_left _ hL34
        have hf37 : S15.2 me = .inl (cy 0, 0, .inl (fun _ => 0)) := by rw [hS15]; exact (pnew_n (fun z : me = na14 => hq_na14 (by rw [← z]; exact hL34))).trans hf35
        have hL38 : me ∈ S20.1 := by rw [hS22]; exact List.mem_append_left _ hL36
        have hf39 : S20.2 me = .inl (cy 0, 0, .inl (fun _ => 0)) := (hfr23 me hL36 (fun z : me = nq10 => hq_nq10 (by rw [← z]; exact hL32))).trans hf37
        have hL40 : sg ∈ S4.1 := by rw [hS6]; exact List.mem_append_left _ hL_sg
        have hf41 : S4.2 sg = .inr (0, [.int (nI 0), .ref ed, .int (nI 0)]) := (hfr7 sg hL_sg (ne_cells hf_sg hf_mm (by nofun))).trans hf_sg
        have hL42 : sg ∈ S11.1 := by rw [hS11]; exact List.mem_append_left _ hL40
        have hf43 : S11.2 sg = .inr (0, [.int (nI 0), .ref ed, .int (nI 0)]) := by rw [hS11]; exact (pnew_n (fun z : sg = nq10 => hq_nq10 (by rw [← z]; exact hL40))).trans hf41
        have hL44 : sg ∈ S15.1 := by rw [hS15]; exact List.mem_append_left _ hL42
        have hf45 : S15.2 sg = .inr (0, [.int (nI 0), .ref ed, .int (nI 0)]) := by rw [hS15]; exact (pnew_n (fun z : sg = na14 => hq_na14 (by rw [← z]; exact hL42))).trans hf43
        have hL46 : sg ∈ S20.1 := by rw [hS22]; exact List.mem_append_left _ hL44
        have hf47 : S20.2 sg = .inr (0, [.int (nI 0), .ref ed, .int (nI 0)]) := (hfr23 sg hL44 (fun z : sg = nq10 => hq_nq10 (by rw [← z]; exact hL40))).trans hf45
        refine p_calli (va_runV (As := [.ref nq10]) (rest := []) C.fix (e_X13_addrep l D cy ed S20 H.size mm nq10 me sg cn im na14 nN 0 hL30 hf31 hL38 hf39 hL46 hf47 hL25 hf24 ) (cwV 1 C.2.2.2.2.1 (gU_V mw_595 mw_596 mw_597 mw_5 (subU mw_598)) rfl rfl rfl hde_X13_repeat_V_2 ⟨Nat.le_of_ble_eq_true rfl, Nat.le_of_ble_eq_true rfl⟩) (e_preV C hw hA hE hL30 hf31 rfl) rfl rfl hl.1 rfl (lv_room (Nat.le_of_ble_eq_true rfl)) dX13_repeat_40 ⟨(Nat.le_of_ble_eq_true rfl), (Nat.le_of_ble_eq_true rfl)⟩) hw hA (fun r49 S48 H locs hpost hw => ?_)
        obtain ⟨nl50, hr_, hS51, hfr52⟩ := hpost
        subst hr_
        have hL53 : mm ∈ S48.1 := by rw [hS51]; exact List.mem_append_left _ hL30
        have hf54 : S48.2 mm = .inr (13, [.int (nI 0), .ref me, .ref sg, .ref cn, .ref im]) := (hfr52 mm hL30 (ne_cells hf31 hf47 (by nofun))).trans hf31
        exact (p_iret C hw (by first | exact (Or.inl ⟨([nq10] ++ [na14] ++ nl50), (by unfold okR; omega), rfl, (by simp only [hS51, hS22, hS15, hS11, hS6, pup, pnew, List.append_nil, List.append_assoc, List.cons_append, List.nil_append]), (fun a_ ha_ hn_0 hn_1 => ((hfr52 a_ (show a_ ∈ S20.1 from by rw [hS22]; exact List.mem_append_left _ (show a_ ∈ S15.1 from by rw [hS15]; exact List.mem_append_left _ (show a_ ∈ S11.1 from by rw [hS11]; exact List.mem_append_left _ (show a_ ∈ S4.1 from by rw [hS6]; exact List.mem_append_left _ ha_)))) hn_1).trans ((hfr23 a_ (show a_ ∈ S15.1 from by rw [hS15]; exact List.mem_append_left _ (show a_ ∈ S11.1 from by rw [hS11]; exact List.mem_append_left _ (show a_ ∈ S4.1 from by rw [hS6]; exact List.mem_append_left _ ha_))) (fun z : a_ = nq10 => hq_nq10 (by rw [← z]; exact (show a_ ∈ S4.1 from by rw [hS6]; exact List.mem_append_left _ ha_)))).trans ((show S15.2 a_ = S11.2 a_ from by rw [hS15]; exact pnew_n (fun z : a_ = na14 => hq_na14 (by rw [← z]; exact (show a_ ∈ S11.1 from by rw [hS11]; exact List.mem_append_left _ (show a_ ∈ S4.1 from by rw [hS6]; exact List.mem_append_left _ ha_))))).trans ((show S11.2 a_ = S4.2 a_ from by rw [hS11]; exact pnew_n (fun z : a_ = nq10 => hq_nq10 (by rw [← z]; exact (show a_ ∈ S4.1 from by rw [hS6]; exact List.mem_append_left _ ha_)))).trans (hfr7 a_ ha_ hn_0)))))), hf54⟩)) hr hlocks dX13_repeat_43)
      · exact absurd h_19 (by first | decide | omega)
    · exact absurd h_7 (by first | decide | omega)
  · skip
    obtain ⟨hc55, hr_, hS_⟩ := hpost
    subst hr_
    subst hS_
    refine n_if_ne (tgt := 14) hx hb (by first | decide | omega) dX13_repeat_7 (by decide) (fun h_7 => ?_) (fun h_7 => ?_)
    · exact absurd h_7 (by first | decide | omega)
    · skip
      refine lv_iconst (v := nI 1) hx hb dX13_repeat_10 (by decide) ?_
      refine lv_goto (tgt := 15) hx hb dX13_repeat_11 (by decide) ?_
      refine lv_iconst (v := nI 1) hx hb dX13_repeat_15 (by decide) ?_
      refine p_calli (va_runV (As := [.int (nI 1), .int (nI 1)]) (rest := []) C.fix (e_X13_start1 l D cy S H.size mm me sg cn im 1 0 hL_mm hf_mm (by first | assumption | decide | omega) (by first | assumption | decide | omega)) (cwV 2 C.2.2.2.2.1 (gU_V mw_397 mw_398 mw_399 mw_5 (subU mw_400)) rfl rfl rfl hde_X13_repeat_V_1 ⟨Nat.le_of_ble_eq_true rfl, Nat.le_of_ble_eq_true rfl⟩) (p_preV C hw hL_mm hf_mm rfl) rfl rfl hl.1 rfl (lv_room (Nat.le_of_ble_eq_true rfl)) dX13_repeat_16 ⟨(Nat.le_of_ble_eq_true rfl), (Nat.le_of_ble_eq_true rfl)⟩) hw hA (fun r57 S56 H locs hpost hw => ?_)
      obtain ⟨hr_, hS58, hfr59, hf60⟩ := hpost
      subst hr_
      have hL61 : mm ∈ S56.1 := by rw [hS58]; exact List.mem_append_left _ hL_mm
      refine n_if_eq (tgt := 26) hx hb (by first | decide | omega) dX13_repeat_19 (by decide) (fun h_19 => ?_) (fun h_19 => ?_)
      · exact absurd h_19 (by first | decide | omega)
      · skip
        refine lv_iconst (v := nI 0) hx hb dX13_repeat_22 (by decide) ?_
        refine lv_goto (tgt := 43) hx hb dX13_repeat_23 (by decide) ?_
        refine W.widen (k := 6) (n := 27) (Nat.le_of_ble_eq_true rfl) (Nat.le_of_ble_eq_true rfl) ?_
        exact (p_iret C hw (by first | exact (Or.inl ⟨[], (by unfold okR; omega), rfl, (by simp only [hS58, pup, pnew, List.append_nil, List.append_assoc, List.cons_append, List.nil_append]), (fun a_ ha_ hn_0 hn_1 => (hfr59 a_ ha_ hn_0)), hf60⟩) | exact (Or.inr ⟨[], (by unfold okR; omega), rfl, (by simp only [hS58, pup, pnew, List.append_nil, List.append_assoc, List.cons_append, List.nil_append]), (fun a_ ha_ hn_0 => (hfr59 a_ ha_ hn_0)), hf60⟩)) hr hlocks dX13_repeat_43)

theorem hde_X13_check_S_0 : yX13_isIn.cls ≠ "java/lang/invoke/MethodHandle" ∧ yX13_isIn.cls ≠ "java/lang/invoke/VarHandle" ∧ (parseMethodDescriptor yX13_isIn.desc).map (fun d => d.parameters.length) = some 3 := by decide +kernel
theorem hde_X13_check_V_1 : yX13_start.cls = RX13 ∧ yX13_start.cls ≠ "java/lang/invoke/MethodHandle" ∧ yX13_start.cls ≠ "java/lang/invoke/VarHandle" ∧ (parseMethodDescriptor yX13_start.desc).map (fun d => d.parameters.length) = some 2 := by decide +kernel
theorem hde_X13_check_V_2 : yX13_add.cls = RX13 ∧ yX13_add.cls ≠ "java/lang/invoke/MethodHandle" ∧ yX13_add.cls ≠ "java/lang/invoke/VarHandle" ∧ (parseMethodDescriptor yX13_add.desc).map (fun d => d.parameters.length) = some 1 := by decide +kernel
set_option maxHeartbeats 4000000 in
set_option maxRecDepth 100000 in
theorem e_X13_check (l : Launch) (D : va_G) (cy : Nat → ClassId) (ed : Nat) (S : pS) (sz : Nat) (mm : Nat) (me : Nat) (sg : Nat) (cn : Nat) (im : Nat) (dv : Int32) (n : Int32) (hL_mm : mm ∈ S.1) (hf_mm : S.2 mm = .inr (13, [.int (nI 0), .ref me, .ref sg, .ref cn, .ref im])) (hL_me : me ∈ S.1) (hf_me : S.2 me = .inl (cy 0, 0, .inl (fun _ => 0))) (hL_sg : sg ∈ S.1) (hf_sg : S.2 sg = .inr (0, [.int (nI 0), .ref ed, .int (nI 0)]))  : Met l yX13_check (Cond.code yX13_check cX13_check 3 (some .int) :: lwU) ({ frames := 8, cells := 7, slots := 27, locals := 173 }) (ePc D cy ed S sz [.ref mm, .int dv, .int n]) (pQi D cy S sz (fun r S' => (∃ (nl : List Nat), (okK dv n) ∧ r = (nI 0) ∧ S'.1 = S.1 ++ nl ∧ (∀ a_, a_ ∈ S.1 → a_ ≠ mm → a_ ≠ sg → S'.2 a_ = S.2 a_) ∧ S'.2 mm = .inr (13, [.int (nI 0), .ref me, .ref sg, .ref cn, .ref im])) ∨ (∃ (nl : List Nat), (¬ okK dv n) ∧ r = (nI 0) ∧ S'.1 = S.1 ++ nl ∧ (∀ a_, a_ ∈ S.1 → a_ ≠ mm → S'.2 a_ = S.2 a_) ∧ S'.2 mm = .inr (13, [.int (nI 1), .ref me, .ref sg, .ref cn, .ref im])))) 7 27 (pA S sz) := by
  refine Met.ofW (cc := cX13_check) (maxL := 3) (ret := (some .int)) (by decide) rfl ?_
  intro p e s m args below meth c s₁ B hml hv
  obtain ⟨rfl, rfl, C, hw, hA, hr, hlocks, hE⟩ := e_start B hml hv
  have hx := C.1
  have hb := C.2.1
  have hl := lv_entry ([.ref mm, .int dv, .int n]) (n := 3) (Nat.le_of_ble_eq_true rfl)
  rw [lg_entry_eq]
  generalize (lg_sl ([.ref mm, .int dv, .int n]) ++ List.replicate (3 - (lg_sl ([.ref mm, .int dv, .int n])).length) Slot.unset).toArray = ls at hl ⊢
  have hl : lv_has ls 3 [(0, .ref mm), (1, .int dv), (2, .int n)] := hl
  have hin_RX12 : ∀ w ∈ u_ws RX12 TX12 4, w ∈ (Cond.code yX13_check cX13_check 3 (some .int) :: lwU) := fun w h => mU (sub_RX12 w h)
  refine lv_aload_n hx hb dX13_check_0 rfl (lv_at hl 0 rfl) ?_
  refine lv_iload_n hx hb dX13_check_1 rfl (lv_at hl 1 rfl) ?_
  refine lv_iconst (v := nI 2) hx hb dX13_check_2 (by decide) ?_
  refine lv_sipush (v := nI 511) hx hb dX13_check_3 (by decide) ?_
  refine p_calli (va_runS (As := [.int dv, .int (nI 2), .int (nI 511)]) (rest := [.ref mm]) C.fix (e_X13_isIn l D cy S s.heap.size dv (nI 2) (nI 511) dv.toInt ((2 : Nat) : Int) ((511 : Nat) : Int)  rfl (nI_toInt (by first | decide | omega)) (nI_toInt (by first | decide | omega))) (va_cwS 3 C.2.2.2.2.1 (gU_S mw_394 mw_395 mw_5 (subU mw_396)) rfl rfl rfl hde_X13_check_S_0 ⟨Nat.le_of_ble_eq_true rfl, Nat.le_of_ble_eq_true rfl⟩) (p_preS C hw) rfl rfl hl.1 rfl (lv_room (Nat.le_of_ble_eq_true rfl)) dX13_check_6 ⟨(Nat.le_of_ble_eq_true rfl), (Nat.le_of_ble_eq_true rfl)⟩) hw hA (fun r2 S1 H locs hpost hw => ?_)
  rcases hpost with hpost | hpost
  · skip
    obtain ⟨hc3, hr_, hS_⟩ := hpost
    subst hr_
    subst hS_
    refine n_if_eq (tgt := 22) hx hb (by first | decide | omega) dX13_check_9 (by decide) (fun h_9 => ?_) (fun h_9 => ?_)
    · exact absurd h_9 (by first | decide | omega)
    · skip
      refine lv_iload_n hx hb dX13_check_12 rfl (lv_at hl 2 rfl) ?_
      refine lv_iconst (v := nI 1) hx hb dX13_check_13 (by decide) ?_
      refine lv_bipush (v := nI 32) hx hb dX13_check_14 (by decide) ?_
      refine p_calli (va_runS (As := [.int n, .int (nI 1), .int (nI 32)]) (rest := [.ref mm]) C.fix (e_X13_isIn l D cy S H.size n (nI 1) (nI 32) n.toInt ((1 : Nat) : Int) ((32 : Nat) : Int)  rfl (nI_toInt (by first | decide | omega)) (nI_toInt (by first | decide | omega))) (va_cwS 3 C.2.2.2.2.1 (gU_S mw_394 mw_395 mw_5 (subU mw_396)) rfl rfl rfl hde_X13_check_S_0 ⟨Nat.le_of_ble_eq_true rfl, Nat.le_of_ble_eq_true rfl⟩) (p_preS C hw) rfl rfl hl.1 rfl (lv_room (Nat.le_of_ble_eq_true rfl)) dX13_check_16 ⟨(Nat.le_of_ble_eq_true rfl), (Nat.le_of_ble_eq_true rfl)⟩) hw hA (fun r5 S4 H locs hpost hw => ?_)
      rcases hpost with hpost | hpost
      · skip
        obtain ⟨hc6, hr_, hS_⟩ := hpost
        subst hr_
        subst hS_
        refine n_if_ne (tgt := 26) hx hb (by first | decide | omega) dX13_check_19 (by decide) (fun h_19 => ?_) (fun h_19 => ?_)
        · skip
          refine lv_iconst (v := nI 0) hx hb dX13_check_26 (by decide) ?_
          refine lv_iconst (v := nI 1) hx hb dX13_check_27 (by decide) ?_
          refine p_calli (va_runV (As := [.int (nI 0), .int (nI 1)]) (rest := []) C.fix (e_X13_start0 l D cy S H.size mm me sg cn im 1 0 hL_mm hf_mm ) (cwV 2 C.2.2.2.2.1 (gU_V mw_397 mw_398 mw_399 mw_5 (subU mw_400)) rfl rfl rfl hde_X13_check_V_1 ⟨Nat.le_of_ble_eq_true rfl, Nat.le_of_ble_eq_true rfl⟩) (p_preV C hw hL_mm hf_mm rfl) rfl rfl hl.1 rfl (lv_room (Nat.le_of_ble_eq_true rfl)) dX13_check_28 ⟨(Nat.le_of_ble_eq_true rfl), (Nat.le_of_ble_eq_true rfl)⟩) hw hA (fun r8 S7 H locs hpost hw => ?_)
          obtain ⟨hr_, hS9, hfr10, hf11⟩ := hpost
          subst hr_
          have hL12 : mm ∈ S7.1 := by rw [hS9]; exact List.mem_append_left _ hL_mm
          refine n_if_eq (tgt := 38) hx hb (by first | decide | omega) dX13_check_31 (by decide) (fun h_31 => ?_) (fun h_31 => ?_)
          · skip
            obtain ⟨dN, hd31, rfl, hdi⟩ := z_nat (x := dv) (by omega)
            obtain ⟨nN, hn31, rfl, hni⟩ := z_nat (x := n) (by omega)
            refine lv_aload_n hx hb dX13_check_38 rfl (lv_at hl 0 rfl) ?_
            refine p_new C hw hA (ci := 12) (Cn := RX12) (T := TX12) (N := 4) (fs := [.int (nI 0), .int (nI 0), .int (nI 0), .null]) tyX12 tyX12_ok rfl hin_RX12 (mU mw_418) (mU mw_590) (mU mw_407) (fun j hj => by rcases (show j = 0 ∨ j = 1 ∨ j = 2 ∨ j = 3 by omega) with rfl | rfl | rfl | rfl <;> rfl) (Nat.le_of_ble_eq_true rfl) (Nat.le_of_ble_eq_true rfl) dX13_check_39 (fun nq13 H hq_nq13 hw => ?_)
            obtain ⟨S14, hS14⟩ : ∃ z, z = pnew S7 nq13 (.inr (12, [.int (nI 0), .int (nI 0), .int (nI 0), .null])) := ⟨_, rfl⟩
            replace hw : pW D (pA S s.heap.size) s.heap S14 H locs := by rw [hS14]; exact hw
            have hL15 : nq13 ∈ S14.1 := by rw [hS14]; exact List.mem_append_right _ List.mem_cons_self
            have hf16 : S14.2 nq13 = .inr (12, [.int (nI 0), .int (nI 0), .int (nI 0), .null]) := by rw [hS14]; exact pnew_s
            refine lv_dup hx hb dX13_check_42 rfl ?_
            refine lv_iconst (v := nI 2) hx hb dX13_check_43 (by decide) ?_
            refine lv_iload_n hx hb dX13_check_44 rfl (lv_at hl 1 rfl) ?_
            refine lv_iload_n hx hb dX13_check_45 rfl (lv_at hl 2 rfl) ?_
            refine lv_iconst (v := nI 0) hx hb dX13_check_46 (by decide) ?_
            refine p_newa C hw hA (mU mw_59) 0 rfl (n := 0) (by first | decide | omega) (Nat.le_of_ble_eq_true rfl) (Nat.le_of_ble_eq_true rfl) dX13_check_47 (fun na17 H hq_na17 hw => ?_)
            obtain ⟨S18, hS18⟩ : ∃ z, z = pnew S14 na17 (.inl (cy 0, 0, .inl (fun _ => 0))) := ⟨_, rfl⟩
            replace hw : pW D (pA S s.heap.size) s.heap S18 H locs := by rw [hS18]; exact hw
            have hL19 : na17 ∈ S18.1 := by rw [hS18]; exact List.mem_append_right _ List.mem_cons_self
            have hf20 : S18.2 na17 = .inl (cy 0, 0, .inl (fun _ => 0)) := by rw [hS18]; exact pnew_s
            have hL21 : nq13 ∈ S18.1 := by rw [hS18]; exact List.mem_append_left _ hL15
            have hf22 : S18.2 nq13 = .inr (12, [.int (nI 0), .int (nI 0), .int (nI 0), .null]) := by rw [hS18]; exact (pnew_n (fun z : nq13 = na17 => hq_na17 (by rw [← z]; exact hL15))).trans hf16
            refine p_callv (va_runI (As := [.int (nI 2), .int (nI dN), .int (nI nN), .ref na17]) (rest := [.ref nq13, .ref mm]) C.fix (e_X12_init l D cy S18 H.size nq13 na17 2 dN nN hL21 hf22 ) (cwI 4 C.2.2.2.2.1 (gU_sub (subU mw_593)) rfl rfl rfl (C.2.2.2.2.1 (.initialized RX12) (mU mw_407)) (C.2.2.2.2.1 (.methodLink RX13 127 yX12_init) (mU mw_591)) (C.2.2.2.2.1 (.instanceMethod yX12_init) (mU mw_592)) rfl (by decide +kernel) ⟨Nat.le_of_ble_eq_true rfl, Nat.le_of_ble_eq_true rfl⟩) (p_preS C hw) rfl rfl hl.1 rfl (lv_room (Nat.le_of_ble_eq_true rfl)) dX13_check_49 ⟨(Nat.le_of_ble_eq_true rfl), (Nat.le_of_ble_eq_true rfl)⟩) hw hA (fun S23 H locs hpost hw => ?_)
            obtain ⟨hS25, hfr26, hf27⟩ := hpost
            have hL28 : nq13 ∈ S23.1 := by rw [hS25]; exact List.mem_append_left _ hL21
            have hL29 : mm ∈ S14.1 := by rw [hS14]; exact List.mem_append_left _ hL12
            have hf30 : S14.2 mm = .inr (13, [.int (nI 0), .ref me, .ref sg, .ref cn, .ref im]) := by rw [hS14]; exact (pnew_n (fun z : mm = nq13 => hq_nq13 (by rw [← z]; exact hL12))).trans hf11
            have hL31 : mm ∈ S18.1 := by rw [hS18]; exact List.mem_append_left _ hL29
            have hf32 : S18.2 mm = .inr (13, [.int (nI 0), .ref me, .ref sg, .ref cn, .ref im]) := by rw [hS18]; exact (pnew_n (fun z : mm = na17 => hq_na17 (by rw [← z]; exact hL29))).trans hf30
            have hL33 : mm ∈ S23.1 := by rw [hS25]; exact List.mem_append_left _ hL31
            have hf34 : S23.2 mm = .inr (13, [.int (nI 0), .ref me, .ref sg, .ref cn, .ref im]) := (hfr26 mm hL31 (fun z : mm = nq13 => hq_nq13 (by rw [← z]; exact hL12))).trans hf32
            have hL35 : me ∈ S7.1 := by rw [hS9]; exact List.mem_append_left _ hL_me
            have hf36 : S7.2 me = .inl (cy 0, 0, .inl (fun _ => 0)) := (hfr10 me hL_me (ne_cells hf_me hf_mm (by nofun))).trans hf_me
            have hL37 : me ∈ S14.1 := by rw [hS14]; exact List.mem_append_left _ hL35
            have hf38 : S14.2 me = .inl (cy 0, 0, .inl (fun _ => 0)) := by rw [hS14]; exact (pnew_n (fun z : me = nq13 => hq_nq13 (by rw [← z]; exact hL35))).trans hf36
            have hL39 : me ∈ S18.1 := by rw [hS18]; exact List.mem_append_left _ hL37
            have hf40 : S18.2 me = .inl (cy 0, 0, .inl (fun _ => 0)) := by rw [hS18]; exact (pnew_n (fun z : me = na17 => hq_na17 (by rw [← z]; exact hL37))).trans hf38
            have hL41 : me ∈ S23.1 := by rw [hS25]; exact List.mem_append_left _ hL39
            have hf42 : S23.2 me = .inl (cy 0, 0, .inl (fun _ => 0)) := (hfr26 me hL39 (fun z : me = nq13 => hq_nq13 (by rw [← z]; exact hL35))).trans hf40
            have hL43 : sg ∈ S7.1 := by rw [hS9]; exact List.mem_append_left _ hL_sg
            have hf44 : S7.2 sg = .inr (0, [.int (nI 0), .ref ed, .int (nI 0)]) := (hfr10 sg hL_sg (ne_cells hf_sg hf_mm (by nofun))).trans hf_sg
            have hL45 : sg ∈ S14.1 := by rw [hS14]; exact List.mem_append_left _ hL43
            have hf46 : S14.2 sg = .inr (0, [.int (nI 0), .ref ed, .int (nI 0)]) := by rw [hS14]; exact (pnew_n (fun z : sg = nq13 => hq_nq13 (by rw [← z]; exact hL43))).trans hf44
            have hL47 : sg ∈ S18.1 := by rw [hS18]; exact List.mem_append_left _ hL45
            have hf48 : S18.2 sg = .inr (0, [.int (nI 0), .ref ed, .int (nI 0)]) := by rw [hS18]; exact (pnew_n (fun z : sg = na17 => hq_na17 (by rw [← z]; exact hL45))).trans hf46
            have hL49 : sg ∈ S23.1 := by rw [hS25]; exact List.mem_append_left _ hL47
            have hf50 : S23.2 sg = .inr (0, [.int (nI 0), .ref ed, .int (nI 0)]) := (hfr26 sg hL47 (fun z : sg = nq13 => hq_nq13 (by rw [← z]; exact hL43))).trans hf48
            refine p_calli (va_runV (As := [.ref nq13]) (rest := []) C.fix (e_X13_addchk l D cy ed S23 H.size mm nq13 me sg cn im na17 dN nN hL33 hf34 hL41 hf42 hL49 hf50 hL28 hf27 (by first | assumption | decide | omega) (by first | assumption | decide | omega) (by first | assumption | decide | omega) (by first | assumption | decide | omega)) (cwV 1 C.2.2.2.2.1 (gU_V mw_595 mw_596 mw_597 mw_5 (subU mw_598)) rfl rfl rfl hde_X13_check_V_2 ⟨Nat.le_of_ble_eq_true rfl, Nat.le_of_ble_eq_true rfl⟩) (e_preV C hw hA hE hL33 hf34 rfl) rfl rfl hl.1 rfl (lv_room (Nat.le_of_ble_eq_true rfl)) dX13_check_52 ⟨(Nat.le_of_ble_eq_true rfl), (Nat.le_of_ble_eq_true rfl)⟩) hw hA (fun r52 S51 H locs hpost hw => ?_)
            obtain ⟨nl53, hr_, hS54, hfr55⟩ := hpost
            subst hr_
            have hL56 : mm ∈ S51.1 := by rw [hS54]; exact List.mem_append_left _ hL33
            have hf57 : S51.2 mm = .inr (13, [.int (nI 0), .ref me, .ref sg, .ref cn, .ref im]) := (hfr55 mm hL33 (ne_cells hf34 hf50 (by nofun))).trans hf34
            exact (p_iret C hw (by first | exact (Or.inl ⟨([nq13] ++ [na17] ++ nl53), (by unfold okK; omega), rfl, (by simp only [hS54, hS25, hS18, hS14, hS9, pup, pnew, List.append_nil, List.append_assoc, List.cons_append, List.nil_append]), (fun a_ ha_ hn_0 hn_1 => ((hfr55 a_ (show a_ ∈ S23.1 from by rw [hS25]; exact List.mem_append_left _ (show a_ ∈ S18.1 from by rw [hS18]; exact List.mem_append_left _ (show a_ ∈ S14.1 from by rw [hS14]; exact List.mem_append_left _ (show a_ ∈ S7.1 from by rw [hS9]; exact List.mem_append_left _ ha_)))) hn_1).trans ((hfr26 a_ (show a_ ∈ S18.1 from by rw [hS18]; exact List.mem_append_left _ (show a_ ∈ S14.1 from by rw [hS14]; exact List.mem_append_left _ (show a_ ∈ S7.1 from by rw [hS9]; exact List.mem_append_left _ ha_))) (fun z : a_ = nq13 => hq_nq13 (by rw [← z]; exact (show a_ ∈ S7.1 from by rw [hS9]; exact List.mem_append_left _ ha_)))).trans ((show S18.2 a_ = S14.2 a_ from by rw [hS18]; exact pnew_n (fun z : a_ = na17 => hq_na17 (by rw [← z]; exact (show a_ ∈ S14.1 from by rw [hS14]; exact List.mem_append_left _ (show a_ ∈ S7.1 from by rw [hS9]; exact List.mem_append_left _ ha_))))).trans ((show S14.2 a_ = S7.2 a_ from by rw [hS14]; exact pnew_n (fun z : a_ = nq13 => hq_nq13 (by rw [← z]; exact (show a_ ∈ S7.1 from by rw [hS9]; exact List.mem_append_left _ ha_)))).trans (hfr10 a_ ha_ hn_0)))))), hf57⟩)) hr hlocks dX13_check_55)
          · exact absurd h_31 (by first | decide | omega)
        · exact absurd h_19 (by first | decide | omega)
      · skip
        obtain ⟨hc58, hr_, hS_⟩ := hpost
        subst hr_
        subst hS_
        refine n_if_ne (tgt := 26) hx hb (by first | decide | omega) dX13_check_19 (by decide) (fun h_19 => ?_) (fun h_19 => ?_)
        · exact absurd h_19 (by first | decide | omega)
        · skip
          refine lv_iconst (v := nI 1) hx hb dX13_check_22 (by decide) ?_
          refine lv_goto (tgt := 27) hx hb dX13_check_23 (by decide) ?_
          refine lv_iconst (v := nI 1) hx hb dX13_check_27 (by decide) ?_
          refine p_calli (va_runV (As := [.int (nI 1), .int (nI 1)]) (rest := []) C.fix (e_X13_start1 l D cy S H.size mm me sg cn im 1 0 hL_mm hf_mm (by first | assumption | decide | omega) (by first | assumption | decide | omega)) (cwV 2 C.2.2.2.2.1 (gU_V mw_397 mw_398 mw_399 mw_5 (subU mw_400)) rfl rfl rfl hde_X13_check_V_1 ⟨Nat.le_of_ble_eq_true rfl, Nat.le_of_ble_eq_true rfl⟩) (p_preV C hw hL_mm hf_mm rfl) rfl rfl hl.1 rfl (lv_room (Nat.le_of_ble_eq_true rfl)) dX13_check_28 ⟨(Nat.le_of_ble_eq_true rfl), (Nat.le_of_ble_eq_true rfl)⟩) hw hA (fun r60 S59 H locs hpost hw => ?_)
          obtain ⟨hr_, hS61, hfr62, hf63⟩ := hpost
          subst hr_
          have hL64 : mm ∈ S59.1 := by rw [hS61]; exact List.mem_append_left _ hL_mm
          refine n_if_eq (tgt := 38) hx hb (by first | decide | omega) dX13_check_31 (by decide) (fun h_31 => ?_) (fun h_31 => ?_)
          · exact absurd h_31 (by first | decide | omega)
          · skip
            refine lv_iconst (v := nI 0) hx hb dX13_check_34 (by decide) ?_
            refine lv_goto (tgt := 55) hx hb dX13_check_35 (by decide) ?_
            refine W.widen (k := 7) (n := 27) (Nat.le_of_ble_eq_true rfl) (Nat.le_of_ble_eq_true rfl) ?_
            exact (p_iret C hw (by first | exact (Or.inl ⟨[], (by unfold okK; omega), rfl, (by simp only [hS61, pup, pnew, List.append_nil, List.append_assoc, List.cons_append, List.nil_append]), (fun a_ ha_ hn_0 hn_1 => (hfr62 a_ ha_ hn_0)), hf63⟩) | exact (Or.inr ⟨[], (by unfold okK; omega), rfl, (by simp only [hS61, pup, pnew, List.append_nil, List.append_assoc, List.cons_append, List.nil_append]), (fun a_ ha_ hn_0 => (hfr62 a_ ha_ hn_0)), hf63⟩)) hr hlocks dX13_check_55)
  · skip
    obtain ⟨hc65, hr_, hS_⟩ := hpost
    subst hr_
    subst hS_
    refine n_if_eq (tgt := 22) hx hb (by first | decide | omega) dX13_check_9 (by decide) (fun h_9 => ?_) (fun h_9 => ?_)
    · skip
      refine lv_iconst (v := nI 1) hx hb dX13_check_22 (by decide) ?_
      refine lv_goto (tgt := 27) hx hb dX13_check_23 (by decide) ?_
      refine lv_iconst (v := nI 1) hx hb dX13_check_27 (by decide) ?_
      refine p_calli (va_runV (As := [.int (nI 1), .int (nI 1)]) (rest := []) C.fix (e_X13_start1 l D cy S H.size mm me sg cn im 1 0 hL_mm hf_mm (by first | assumption | decide | omega) (by first | assumption | decide | omega)) (cwV 2 C.2.2.2.2.1 (gU_V mw_397 mw_398 mw_399 mw_5 (subU mw_400)) rfl rfl rfl hde_X13_check_V_1 ⟨Nat.le_of_ble_eq_true rfl, Nat.le_of_ble_eq_true rfl⟩) (p_preV C hw hL_mm hf_mm rfl) rfl rfl hl.1 rfl (lv_room (Nat.le_of_ble_eq_true rfl)) dX13_check_28 ⟨(Nat.le_of_ble_eq_true rfl), (Nat.le_of_ble_eq_true rfl)⟩) hw hA (fun r67 S66 H locs hpost hw => ?_)
      obtain ⟨hr_, hS68, hfr69, hf70⟩ := hpost
      subst hr_
      have hL71 : mm ∈ S66.1 := by rw [hS68]; exact List.mem_append_left _ hL_mm
      refine n_if_eq (tgt := 38) hx hb (by first | decide | omega) dX13_check_31 (by decide) (fun h_31 => ?_) (fun h_31 => ?_)
      · exact absurd h_31 (by first | decide | omega)
      · skip
        refine lv_iconst (v := nI 0) hx hb dX13_check_34 (by decide) ?_
        refine lv_goto (tgt := 55) hx hb dX13_check_35 (by decide) ?_
        refine W.widen (k := 7) (n := 27) (Nat.le_of_ble_eq_true rfl) (Nat.le_of_ble_eq_true rfl) ?_
        exact (p_iret C hw (by first | exact (Or.inl ⟨[], (by unfold okK; omega), rfl, (by simp only [hS68, pup, pnew, List.append_nil, List.append_assoc, List.cons_append, List.nil_append]), (fun a_ ha_ hn_0 hn_1 => (hfr69 a_ ha_ hn_0)), hf70⟩) | exact (Or.inr ⟨[], (by unfold okK; omega), rfl, (by simp only [hS68, pup, pnew, List.append_nil, List.append_assoc, List.cons_append, List.nil_append]), (fun a_ ha_ hn_0 => (hfr69 a_ ha_ hn_0)), hf70⟩)) hr hlocks dX13_check_55)
    · exact absurd h_9 (by first | decide | omega)

theorem hde_X13_weave_S_0 : yX13_isIn.cls ≠ "java/lang/invoke/MethodHandle" ∧ yX13_isIn.cls ≠ "java/lang/invoke/VarHandle" ∧ (parseMethodDescriptor yX13_isIn.desc).map (fun d => d.parameters.length) = some 3 := by decide +kernel
theorem hde_X13_weave_V_1 : yX13_start.cls = RX13 ∧ yX13_start.cls ≠ "java/lang/invoke/MethodHandle" ∧ yX13_start.cls ≠ "java/lang/invoke/VarHandle" ∧ (parseMethodDescriptor yX13_start.desc).map (fun d => d.parameters.length) = some 2 := by decide +kernel
theorem hde_X13_weave_V_2 : yX13_add.cls = RX13 ∧ yX13_add.cls ≠ "java/lang/invoke/MethodHandle" ∧ yX13_add.cls ≠ "java/lang/invoke/VarHandle" ∧ (parseMethodDescriptor yX13_add.desc).map (fun d => d.parameters.length) = some 1 := by decide +kernel
set_option maxHeartbeats 4000000 in
set_option maxRecDepth 100000 in
theorem e_X13_weave (l : Launch) (D : va_G) (cy : Nat → ClassId) (ed : Nat) (S : pS) (sz : Nat) (mm : Nat) (me : Nat) (sg : Nat) (cn : Nat) (im : Nat) (r9 : Int32) (c9 : Int32) (hL_mm : mm ∈ S.1) (hf_mm : S.2 mm = .inr (13, [.int (nI 0), .ref me, .ref sg, .ref cn, .ref im])) (hL_me : me ∈ S.1) (hf_me : S.2 me = .inl (cy 0, 0, .inl (fun _ => 0))) (hL_sg : sg ∈ S.1) (hf_sg : S.2 sg = .inr (0, [.int (nI 0), .ref ed, .int (nI 0)]))  : Met l yX13_weave (Cond.code yX13_weave cX13_weave 3 (some .int) :: lwU) ({ frames := 8, cells := 7, slots := 27, locals := 173 }) (ePc D cy ed S sz [.ref mm, .int r9, .int c9]) (pQi D cy S sz (fun r S' => (∃ (nl : List Nat), (okV r9 c9) ∧ r = (nI 0) ∧ S'.1 = S.1 ++ nl ∧ (∀ a_, a_ ∈ S.1 → a_ ≠ mm → a_ ≠ sg → S'.2 a_ = S.2 a_) ∧ S'.2 mm = .inr (13, [.int (nI 0), .ref me, .ref sg, .ref cn, .ref im])) ∨ (∃ (nl : List Nat), (¬ okV r9 c9) ∧ r = (nI 0) ∧ S'.1 = S.1 ++ nl ∧ (∀ a_, a_ ∈ S.1 → a_ ≠ mm → S'.2 a_ = S.2 a_) ∧ S'.2 mm = .inr (13, [.int (nI 1), .ref me, .ref sg, .ref cn, .ref im])))) 7 27 (pA S sz) := by
  refine Met.ofW (cc := cX13_weave) (maxL := 3) (ret := (some .int)) (by decide) rfl ?_
  intro p e s m args below meth c s₁ B hml hv
  obtain ⟨rfl, rfl, C, hw, hA, hr, hlocks, hE⟩ := e_start B hml hv
  have hx := C.1
  have hb := C.2.1
  have hl := lv_entry ([.ref mm, .int r9, .int c9]) (n := 3) (Nat.le_of_ble_eq_true rfl)
  rw [lg_entry_eq]
  generalize (lg_sl ([.ref mm, .int r9, .int c9]) ++ List.replicate (3 - (lg_sl ([.ref mm, .int r9, .int c9])).length) Slot.unset).toArray = ls at hl ⊢
  have hl : lv_has ls 3 [(0, .ref mm), (1, .int r9), (2, .int c9)] := hl
  have hin_RX12 : ∀ w ∈ u_ws RX12 TX12 4, w ∈ (Cond.code yX13_weave cX13_weave 3 (some .int) :: lwU) := fun w h => mU (sub_RX12 w h)
  refine lv_aload_n hx hb dX13_weave_0 rfl (lv_at hl 0 rfl) ?_
  refine lv_iload_n hx hb dX13_weave_1 rfl (lv_at hl 1 rfl) ?_
  refine lv_iconst (v := nI 1) hx hb dX13_weave_2 (by decide) ?_
  refine lv_bipush (v := nI 10) hx hb dX13_weave_3 (by decide) ?_
  refine p_calli (va_runS (As := [.int r9, .int (nI 1), .int (nI 10)]) (rest := [.ref mm]) C.fix (e_X13_isIn l D cy S s.heap.size r9 (nI 1) (nI 10) r9.toInt ((1 : Nat) : Int) ((10 : Nat) : Int)  rfl (nI_toInt (by first | decide | omega)) (nI_toInt (by first | decide | omega))) (va_cwS 3 C.2.2.2.2.1 (gU_S mw_394 mw_395 mw_5 (subU mw_396)) rfl rfl rfl hde_X13_weave_S_0 ⟨Nat.le_of_ble_eq_true rfl, Nat.le_of_ble_eq_true rfl⟩) (p_preS C hw) rfl rfl hl.1 rfl (lv_room (Nat.le_of_ble_eq_true rfl)) dX13_weave_5 ⟨(Nat.le_of_ble_eq_true rfl), (Nat.le_of_ble_eq_true rfl)⟩) hw hA (fun r2 S1 H locs hpost hw => ?_)
  rcases hpost with hpost | hpost
  · skip
    obtain ⟨hc3, hr_, hS_⟩ := hpost
    subst hr_
    subst hS_
    refine n_if_eq (tgt := 21) hx hb (by first | decide | omega) dX13_weave_8 (by decide) (fun h_8 => ?_) (fun h_8 => ?_)
    · exact absurd h_8 (by first | decide | omega)
    · skip
      refine lv_iload_n hx hb dX13_weave_11 rfl (lv_at hl 2 rfl) ?_
      refine lv_iconst (v := nI 1) hx hb dX13_weave_12 (by decide) ?_
      refine lv_bipush (v := nI 10) hx hb dX13_weave_13 (by decide) ?_
      refine p_calli (va_runS (As := [.int c9, .int (nI 1), .int (nI 10)]) (rest := [.ref mm]) C.fix (e_X13_isIn l D cy S H.size c9 (nI 1) (nI 10) c9.toInt ((1 : Nat) : Int) ((10 : Nat) : Int)  rfl (nI_toInt (by first | decide | omega)) (nI_toInt (by first | decide | omega))) (va_cwS 3 C.2.2.2.2.1 (gU_S mw_394 mw_395 mw_5 (subU mw_396)) rfl rfl rfl hde_X13_weave_S_0 ⟨Nat.le_of_ble_eq_true rfl, Nat.le_of_ble_eq_true rfl⟩) (p_preS C hw) rfl rfl hl.1 rfl (lv_room (Nat.le_of_ble_eq_true rfl)) dX13_weave_15 ⟨(Nat.le_of_ble_eq_true rfl), (Nat.le_of_ble_eq_true rfl)⟩) hw hA (fun r5 S4 H locs hpost hw => ?_)
      rcases hpost with hpost | hpost
      · skip
        obtain ⟨hc6, hr_, hS_⟩ := hpost
        subst hr_
        subst hS_
        refine n_if_ne (tgt := 25) hx hb (by first | decide | omega) dX13_weave_18 (by decide) (fun h_18 => ?_) (fun h_18 => ?_)
        · skip
          refine lv_iconst (v := nI 0) hx hb dX13_weave_25 (by decide) ?_
          refine lv_iconst (v := nI 1) hx hb dX13_weave_26 (by decide) ?_
          refine p_calli (va_runV (As := [.int (nI 0), .int (nI 1)]) (rest := []) C.fix (e_X13_start0 l D cy S H.size mm me sg cn im 1 0 hL_mm hf_mm ) (cwV 2 C.2.2.2.2.1 (gU_V mw_397 mw_398 mw_399 mw_5 (subU mw_400)) rfl rfl rfl hde_X13_weave_V_1 ⟨Nat.le_of_ble_eq_true rfl, Nat.le_of_ble_eq_true rfl⟩) (p_preV C hw hL_mm hf_mm rfl) rfl rfl hl.1 rfl (lv_room (Nat.le_of_ble_eq_true rfl)) dX13_weave_27 ⟨(Nat.le_of_ble_eq_true rfl), (Nat.le_of_ble_eq_true rfl)⟩) hw hA (fun r8 S7 H locs hpost hw => ?_)
          obtain ⟨hr_, hS9, hfr10, hf11⟩ := hpost
          subst hr_
          have hL12 : mm ∈ S7.1 := by rw [hS9]; exact List.mem_append_left _ hL_mm
          refine n_if_eq (tgt := 37) hx hb (by first | decide | omega) dX13_weave_30 (by decide) (fun h_30 => ?_) (fun h_30 => ?_)
          · skip
            obtain ⟨rN, hr931, rfl, hr9i⟩ := z_nat (x := r9) (by omega)
            obtain ⟨cN, hc931, rfl, hc9i⟩ := z_nat (x := c9) (by omega)
            have hrc1 : 1 ≤ rN * cN := Nat.mul_pos (by omega) (by omega)
            have hrc : rN * cN < 2 ^ 31 := Nat.lt_of_le_of_lt (Nat.mul_le_mul (show rN ≤ 10 by omega) (show cN ≤ 10 by omega)) (by decide)
            refine lv_aload_n hx hb dX13_weave_37 rfl (lv_at hl 0 rfl) ?_
            refine p_new C hw hA (ci := 12) (Cn := RX12) (T := TX12) (N := 4) (fs := [.int (nI 0), .int (nI 0), .int (nI 0), .null]) tyX12 tyX12_ok rfl hin_RX12 (mU mw_418) (mU mw_590) (mU mw_407) (fun j hj => by rcases (show j = 0 ∨ j = 1 ∨ j = 2 ∨ j = 3 by omega) with rfl | rfl | rfl | rfl <;> rfl) (Nat.le_of_ble_eq_true rfl) (Nat.le_of_ble_eq_true rfl) dX13_weave_38 (fun nq13 H hq_nq13 hw => ?_)
            obtain ⟨S14, hS14⟩ : ∃ z, z = pnew S7 nq13 (.inr (12, [.int (nI 0), .int (nI 0), .int (nI 0), .null])) := ⟨_, rfl⟩
            replace hw : pW D (pA S s.heap.size) s.heap S14 H locs := by rw [hS14]; exact hw
            have hL15 : nq13 ∈ S14.1 := by rw [hS14]; exact List.mem_append_right _ List.mem_cons_self
            have hf16 : S14.2 nq13 = .inr (12, [.int (nI 0), .int (nI 0), .int (nI 0), .null]) := by rw [hS14]; exact pnew_s
            refine lv_dup hx hb dX13_weave_41 rfl ?_
            refine lv_iconst (v := nI 4) hx hb dX13_weave_42 (by decide) ?_
            refine lv_iload_n hx hb dX13_weave_43 rfl (lv_at hl 1 rfl) ?_
            refine lv_iload_n hx hb dX13_weave_44 rfl (lv_at hl 2 rfl) ?_
            refine lv_iconst (v := nI 0) hx hb dX13_weave_45 (by decide) ?_
            refine p_newa C hw hA (mU mw_59) 0 rfl (n := 0) (by first | decide | omega) (Nat.le_of_ble_eq_true rfl) (Nat.le_of_ble_eq_true rfl) dX13_weave_46 (fun na17 H hq_na17 hw => ?_)
            obtain ⟨S18, hS18⟩ : ∃ z, z = pnew S14 na17 (.inl (cy 0, 0, .inl (fun _ => 0))) := ⟨_, rfl⟩
            replace hw : pW D (pA S s.heap.size) s.heap S18 H locs := by rw [hS18]; exact hw
            have hL19 : na17 ∈ S18.1 := by rw [hS18]; exact List.mem_append_right _ List.mem_cons_self
            have hf20 : S18.2 na17 = .inl (cy 0, 0, .inl (fun _ => 0)) := by rw [hS18]; exact pnew_s
            have hL21 : nq13 ∈ S18.1 := by rw [hS18]; exact List.mem_append_left _ hL15
            have hf22 : S18.2 nq13 = .inr (12, [.int (nI 0), .int (nI 0), .int (nI 0), .null]) := by rw [hS18]; exact (pnew_n (fun z : nq13 = na17 => hq_na17 (by rw [← z]; exact hL15))).trans hf16
            refine p_callv (va_runI (As := [.int (nI 4), .int (nI rN), .int (nI cN), .ref na17]) (rest := [.ref nq13, .ref mm]) C.fix (e_X12_init l D cy S18 H.size nq13 na17 4 rN cN hL21 hf22 ) (cwI 4 C.2.2.2.2.1 (gU_sub (subU mw_593)) rfl rfl rfl (C.2.2.2.2.1 (.initialized RX12) (mU mw_407)) (C.2.2.2.2.1 (.methodLink RX13 127 yX12_init) (mU mw_591)) (C.2.2.2.2.1 (.instanceMethod yX12_init) (mU mw_592)) rfl (by decide +kernel) ⟨Nat.le_of_ble_eq_true rfl, Nat.le_of_ble_eq_true rfl⟩) (p_preS C hw) rfl rfl hl.1 rfl (lv_room (Nat.le_of_ble_eq_true rfl)) dX13_weave_48 ⟨(Nat.le_of_ble_eq_true rfl), (Nat.le_of_ble_eq_true rfl)⟩) hw hA (fun S23 H locs hpost hw => ?_)
            obtain ⟨hS25, hfr26, hf27⟩ := hpost
            have hL28 : nq13 ∈ S23.1 := by rw [hS25]; exact List.mem_append_left _ hL21
            have hL29 : mm ∈ S14.1 := by rw [hS14]; exact List.mem_append_left _ hL12
            have hf30 : S14.2 mm = .inr (13, [.int (nI 0), .ref me, .ref sg, .ref cn, .ref im]) := by rw [hS14]; exact (pnew_n (fun z : mm = nq13 => hq_nq13 (by rw [← z]; exact hL12))).trans hf11
            have hL31 : mm ∈ S18.1 := by rw [hS18]; exact List.mem_append_left _ hL29
            have hf32 : S18.2 mm = .inr (13, [.int (nI 0), .ref me, .ref sg, .ref cn, .ref im]) := by rw [hS18]; exact (pnew_n (fun z : mm = na17 => hq_na17 (by rw [← z]; exact hL29))).trans hf30
            have hL33 : mm ∈ S23.1 := by rw [hS25]; exact List.mem_append_left _ hL31
            have hf34 : S23.2 mm = .inr (13, [.int (nI 0), .ref me, .ref sg, .ref cn, .ref im]) := (hfr26 mm hL31 (fun z : mm = nq13 => hq_nq13 (by rw [← z]; exact hL12))).trans hf32
            have hL35 : me ∈ S7.1 := by rw [hS9]; exact List.mem_append_left _ hL_me
            have hf36 : S7.2 me = .inl (cy 0, 0, .inl (fun _ => 0)) := (hfr10 me hL_me (ne_cells hf_me hf_mm (by nofun))).trans hf_me
            have hL37 : me ∈ S14.1 := by rw [hS14]; exact List.mem_append_left _ hL35
            have hf38 : S14.2 me = .inl (cy 0, 0, .inl (fun _ => 0)) := by rw [hS14]; exact (pnew_n (fun z : me = nq13 => hq_nq13 (by rw [← z]; exact hL35))).trans hf36
            have hL39 : me ∈ S18.1 := by rw [hS18]; exact List.mem_append_left _ hL37
            have hf40 : S18.2 me = .inl (cy 0, 0, .inl (fun _ => 0)) := by rw [hS18]; exact (pnew_n (fun z : me = na17 => hq_na17 (by rw [← z]; exact hL37))).trans hf38
            have hL41 : me ∈ S23.1 := by rw [hS25]; exact List.mem_append_left _ hL39
            have hf42 : S23.2 me = .inl (cy 0, 0, .inl (fun _ => 0)) := (hfr26 me hL39 (fun z : me = nq13 => hq_nq13 (by rw [← z]; exact hL35))).trans hf40
            have hL43 : sg ∈ S7.1 := by rw [hS9]; exact List.mem_append_left _ hL_sg
            have hf44 : S7.2 sg = .inr (0, [.int (nI 0), .ref ed, .int (nI 0)]) := (hfr10 sg hL_sg (ne_cells hf_sg hf_mm (by nofun))).trans hf_sg
            have hL45 : sg ∈ S14.1 := by rw [hS14]; exact List.mem_append_left _ hL43
            have hf46 : S14.2 sg = .inr (0, [.int (nI 0), .ref ed, .int (nI 0)]) := by rw [hS14]; exact (pnew_n (fun z : sg = nq13 => hq_nq13 (by rw [← z]; exact hL43))).trans hf44
            have hL47 : sg ∈ S18.1 := by rw [hS18]; exact List.mem_append_left _ hL45
            have hf48 : S18.2 sg = .inr (0, [.int (nI 0), .ref ed, .int (nI 0)]) := by rw [hS18]; exact (pnew_n (fun z : sg = na17 => hq_na17 (by rw [← z]; exact hL45))).trans hf46
            have hL49 : sg ∈ S23.1 := by rw [hS25]; exact List.mem_append_left _ hL47
            have hf50 : S23.2 sg = .inr (0, [.int (nI 0), .ref ed, .int (nI 0)]) := (hfr26 sg hL47 (fun z : sg = nq13 => hq_nq13 (by rw [← z]; exact hL43))).trans hf48
            refine p_calli (va_runV (As := [.ref nq13]) (rest := []) C.fix (e_X13_addwev l D cy ed S23 H.size mm nq13 me sg cn im na17 rN cN hL33 hf34 hL41 hf42 hL49 hf50 hL28 hf27 (by first | assumption | decide | omega) (by first | assumption | decide | omega)) (cwV 1 C.2.2.2.2.1 (gU_V mw_595 mw_596 mw_597 mw_5 (subU mw_598)) rfl rfl rfl hde_X13_weave_V_2 ⟨Nat.le_of_ble_eq_true rfl, Nat.le_of_ble_eq_true rfl⟩) (e_preV C hw hA hE hL33 hf34 rfl) rfl rfl hl.1 rfl (lv_room (Nat.le_of_ble_eq_true rfl)) dX13_weave_51 ⟨(Nat.le_of_ble_eq_true rfl), (Nat.le_of_ble_eq_true rfl)⟩) hw hA (fun r52 S51 H locs hpost hw => ?_)
            obtain ⟨nl53, hr_, hS54, hfr55⟩ := hpost
            subst hr_
            have hL56 : mm ∈ S51.1 := by rw [hS54]; exact List.mem_append_left _ hL33
            have hf57 : S51.2 mm = .inr (13, [.int (nI 0), .ref me, .ref sg, .ref cn, .ref im]) := (hfr55 mm hL33 (ne_cells hf34 hf50 (by nofun))).trans hf34
            exact (p_iret C hw (by first | exact (Or.inl ⟨([nq13] ++ [na17] ++ nl53), (by unfold okV; omega), rfl, (by simp only [hS54, hS25, hS18, hS14, hS9, pup, pnew, List.append_nil, List.append_assoc, List.cons_append, List.nil_append]), (fun a_ ha_ hn_0 hn_1 => ((hfr55 a_ (show a_ ∈ S23.1 from by rw [hS25]; exact List.mem_append_left _ (show a_ ∈ S18.1 from by rw [hS18]; exact List.mem_append_left _ (show a_ ∈ S14.1 from by rw [hS14]; exact List.mem_append_left _ (show a_ ∈ S7.1 from by rw [hS9]; exact List.mem_append_left _ ha_)))) hn_1).trans ((hfr26 a_ (show a_ ∈ S18.1 from by rw [hS18]; exact List.mem_append_left _ (show a_ ∈ S14.1 from by rw [hS14]; exact List.mem_append_left _ (show a_ ∈ S7.1 from by rw [hS9]; exact List.mem_append_left _ ha_))) (fun z : a_ = nq13 => hq_nq13 (by rw [← z]; exact (show a_ ∈ S7.1 from by rw [hS9]; exact List.mem_append_left _ ha_)))).trans ((show S18.2 a_ = S14.2 a_ from by rw [hS18]; exact pnew_n (fun z : a_ = na17 => hq_na17 (by rw [← z]; exact (show a_ ∈ S14.1 from by rw [hS14]; exact List.mem_append_left _ (show a_ ∈ S7.1 from by rw [hS9]; exact List.mem_append_left _ ha_))))).trans ((show S14.2 a_ = S7.2 a_ from by rw [hS14]; exact pnew_n (fun z : a_ = nq13 => hq_nq13 (by rw [← z]; exact (show a_ ∈ S7.1 from by rw [hS9]; exact List.mem_append_left _ ha_)))).trans (hfr10 a_ ha_ hn_0)))))), hf57⟩)) hr hlocks dX13_weave_54)
          · exact absurd h_30 (by first | decide | omega)
        · exact absurd h_18 (by first | decide | omega)
      · skip
        obtain ⟨hc58, hr_, hS_⟩ := hpost
        subst hr_
        subst hS_
        refine n_if_ne (tgt := 25) hx hb (by first | decide | omega) dX13_weave_18 (by decide) (fun h_18 => ?_) (fun h_18 => ?_)
        · exact absurd h_18 (by first | decide | omega)
        · skip
          refine lv_iconst (v := nI 1) hx hb dX13_weave_21 (by decide) ?_
          refine lv_goto (tgt := 26) hx hb dX13_weave_22 (by decide) ?_
          refine lv_iconst (v := nI 1) hx hb dX13_weave_26 (by decide) ?_
          refine p_calli (va_runV (As := [.int (nI 1), .int (nI 1)]) (rest := []) C.fix (e_X13_start1 l D cy S H.size mm me sg cn im 1 0 hL_mm hf_mm (by first | assumption | decide | omega) (by first | assumption | decide | omega)) (cwV 2 C.2.2.2.2.1 (gU_V mw_397 mw_398 mw_399 mw_5 (subU mw_400)) rfl rfl rfl hde_X13_weave_V_1 ⟨Nat.le_of_ble_eq_true rfl, Nat.le_of_ble_eq_true rfl⟩) (p_preV C hw hL_mm hf_mm rfl) rfl rfl hl.1 rfl (lv_room (Nat.le_of_ble_eq_true rfl)) dX13_weave_27 ⟨(Nat.le_of_ble_eq_true rfl), (Nat.le_of_ble_eq_true rfl)⟩) hw hA (fun r60 S59 H locs hpost hw => ?_)
          obtain ⟨hr_, hS61, hfr62, hf63⟩ := hpost
          subst hr_
          have hL64 : mm ∈ S59.1 := by rw [hS61]; exact List.mem_append_left _ hL_mm
          refine n_if_eq (tgt := 37) hx hb (by first | decide | omega) dX13_weave_30 (by decide) (fun h_30 => ?_) (fun h_30 => ?_)
          · exact absurd h_30 (by first | decide | omega)
          · skip
            refine lv_iconst (v := nI 0) hx hb dX13_weave_33 (by decide) ?_
            refine lv_goto (tgt := 54) hx hb dX13_weave_34 (by decide) ?_
            refine W.widen (k := 7) (n := 27) (Nat.le_of_ble_eq_true rfl) (Nat.le_of_ble_eq_true rfl) ?_
            exact (p_iret C hw (by first | exact (Or.inl ⟨[], (by unfold okV; omega), rfl, (by simp only [hS61, pup, pnew, List.append_nil, List.append_assoc, List.cons_append, List.nil_append]), (fun a_ ha_ hn_0 hn_1 => (hfr62 a_ ha_ hn_0)), hf63⟩) | exact (Or.inr ⟨[], (by unfold okV; omega), rfl, (by simp only [hS61, pup, pnew, List.append_nil, List.append_assoc, List.cons_append, List.nil_append]), (fun a_ ha_ hn_0 => (hfr62 a_ ha_ hn_0)), hf63⟩)) hr hlocks dX13_weave_54)
  · skip
    obtain ⟨hc65, hr_, hS_⟩ := hpost
    subst hr_
    subst hS_
    refine n_if_eq (tgt := 21) hx hb (by first | decide | omega) dX13_weave_8 (by decide) (fun h_8 => ?_) (fun h_8 => ?_)
    · skip
      refine lv_iconst (v := nI 1) hx hb dX13_weave_21 (by decide) ?_
      refine lv_goto (tgt := 26) hx hb dX13_weave_22 (by decide) ?_
      refine lv_iconst (v := nI 1) hx hb dX13_weave_26 (by decide) ?_
      refine p_calli (va_runV (As := [.int (nI 1), .int (nI 1)]) (rest := []) C.fix (e_X13_start1 l D cy S H.size mm me sg cn im 1 0 hL_mm hf_mm (by first | assumption | decide | omega) (by first | assumption | decide | omega)) (cwV 2 C.2.2.2.2.1 (gU_V mw_397 mw_398 mw_399 mw_5 (subU mw_400)) rfl rfl rfl hde_X13_weave_V_1 ⟨Nat.le_of_ble_eq_true rfl, Nat.le_of_ble_eq_true rfl⟩) (p_preV C hw hL_mm hf_mm rfl) rfl rfl hl.1 rfl (lv_room (Nat.le_of_ble_eq_true rfl)) dX13_weave_27 ⟨(Nat.le_of_ble_eq_true rfl), (Nat.le_of_ble_eq_true rfl)⟩) hw hA (fun r67 S66 H locs hpost hw => ?_)
      obtain ⟨hr_, hS68, hfr69, hf70⟩ := hpost
      subst hr_
      have hL71 : mm ∈ S66.1 := by rw [hS68]; exact List.mem_append_left _ hL_mm
      refine n_if_eq (tgt := 37) hx hb (by first | decide | omega) dX13_weave_30 (by decide) (fun h_30 => ?_) (fun h_30 => ?_)
      · exact absurd h_30 (by first | decide | omega)
      · skip
        refine lv_iconst (v := nI 0) hx hb dX13_weave_33 (by decide) ?_
        refine lv_goto (tgt := 54) hx hb dX13_weave_34 (by decide) ?_
        refine W.widen (k := 7) (n := 27) (Nat.le_of_ble_eq_true rfl) (Nat.le_of_ble_eq_true rfl) ?_
        exact (p_iret C hw (by first | exact (Or.inl ⟨[], (by unfold okV; omega), rfl, (by simp only [hS68, pup, pnew, List.append_nil, List.append_assoc, List.cons_append, List.nil_append]), (fun a_ ha_ hn_0 hn_1 => (hfr69 a_ ha_ hn_0)), hf70⟩) | exact (Or.inr ⟨[], (by unfold okV; omega), rfl, (by simp only [hS68, pup, pnew, List.append_nil, List.append_assoc, List.cons_append, List.nil_append]), (fun a_ ha_ hn_0 => (hfr69 a_ ha_ hn_0)), hf70⟩)) hr hlocks dX13_weave_54)
    · exact absurd h_8 (by first | decide | omega)

theorem hde_X13_trail_S_0 : yX13_isIn.cls ≠ "java/lang/invoke/MethodHandle" ∧ yX13_isIn.cls ≠ "java/lang/invoke/VarHandle" ∧ (parseMethodDescriptor yX13_isIn.desc).map (fun d => d.parameters.length) = some 3 := by decide +kernel
theorem hde_X13_trail_V_1 : yX13_start.cls = RX13 ∧ yX13_start.cls ≠ "java/lang/invoke/MethodHandle" ∧ yX13_start.cls ≠ "java/lang/invoke/VarHandle" ∧ (parseMethodDescriptor yX13_start.desc).map (fun d => d.parameters.length) = some 2 := by decide +kernel
theorem hde_X13_trail_V_2 : yX13_refuse.cls = RX13 ∧ yX13_refuse.cls ≠ "java/lang/invoke/MethodHandle" ∧ yX13_refuse.cls ≠ "java/lang/invoke/VarHandle" ∧ (parseMethodDescriptor yX13_refuse.desc).map (fun d => d.parameters.length) = some 2 := by decide +kernel
theorem hde_X13_trail_V_3 : yX13_add.cls = RX13 ∧ yX13_add.cls ≠ "java/lang/invoke/MethodHandle" ∧ yX13_add.cls ≠ "java/lang/invoke/VarHandle" ∧ (parseMethodDescriptor yX13_add.desc).map (fun d => d.parameters.length) = some 1 := by decide +kernel
set_option maxHeartbeats 4000000 in
set_option maxRecDepth 100000 in
theorem e_X13_trail (l : Launch) (D : va_G) (cy : Nat → ClassId) (ed : Nat) (S : pS) (sz : Nat) (mm : Nat) (me : Nat) (sg : Nat) (cn : Nat) (im : Nat) (m9 : Int32) (a1 : Int32) (a2 : Int32) (a3 : Int32) (hL_mm : mm ∈ S.1) (hf_mm : S.2 mm = .inr (13, [.int (nI 0), .ref me, .ref sg, .ref cn, .ref im])) (hL_me : me ∈ S.1) (hf_me : S.2 me = .inl (cy 0, 0, .inl (fun _ => 0))) (hL_sg : sg ∈ S.1) (hf_sg : S.2 sg = .inr (0, [.int (nI 0), .ref ed, .int (nI 0)]))  : Met l yX13_trail (Cond.code yX13_trail cX13_trail 6 (some .int) :: lwU) ({ frames := 8, cells := 5, slots := 30, locals := 173 }) (ePc D cy ed S sz [.ref mm, .int m9, .int a1, .int a2, .int a3]) (pQi D cy S sz (fun r S' => (∃ (nl : List Nat), (okT m9 a1 a2 a3) ∧ r = (nI 0) ∧ S'.1 = S.1 ++ nl ∧ (∀ a_, a_ ∈ S.1 → a_ ≠ mm → a_ ≠ sg → S'.2 a_ = S.2 a_) ∧ S'.2 mm = .inr (13, [.int (nI 0), .ref me, .ref sg, .ref cn, .ref im])) ∨ (∃ (nl : List Nat), (¬ okT m9 a1 a2 a3) ∧ r = (nI 0) ∧ S'.1 = S.1 ++ nl ∧ (∀ a_, a_ ∈ S.1 → a_ ≠ mm → S'.2 a_ = S.2 a_) ∧ S'.2 mm = .inr (13, [.int (nI 1), .ref me, .ref sg, .ref cn, .ref im])))) 5 30 (pA S sz) := by
  refine Met.ofW (cc := cX13_trail) (maxL := 6) (ret := (some .int)) (by decide) rfl ?_
  intro p e s m args below meth c s₁ B hml hv
  obtain ⟨rfl, rfl, C, hw, hA, hr, hlocks, hE⟩ := e_start B hml hv
  have hx := C.1
  have hb := C.2.1
  have hl := lv_entry ([.ref mm, .int m9, .int a1, .int a2, .int a3]) (n := 6) (Nat.le_of_ble_eq_true rfl)
  rw [lg_entry_eq]
  generalize (lg_sl ([.ref mm, .int m9, .int a1, .int a2, .int a3]) ++ List.replicate (6 - (lg_sl ([.ref mm, .int m9, .int a1, .int a2, .int a3])).length) Slot.unset).toArray = ls at hl ⊢
  have hl : lv_has ls 6 [(0, .ref mm), (1, .int m9), (2, .int a1), (3, .int a2), (4, .int a3)] := hl
  have hin_RX12 : ∀ w ∈ u_ws RX12 TX12 4, w ∈ (Cond.code yX13_trail cX13_trail 6 (some .int) :: lwU) := fun w h => mU (sub_RX12 w h)
  refine lv_aload_n hx hb dX13_trail_0 rfl (lv_at hl 0 rfl) ?_
  refine lv_iload_n hx hb dX13_trail_1 rfl (lv_at hl 1 rfl) ?_
  refine lv_iconst (v := nI 1) hx hb dX13_trail_2 (by decide) ?_
  refine lv_iconst (v := nI 4) hx hb dX13_trail_3 (by decide) ?_
  refine p_calli (va_runS (As := [.int m9, .int (nI 1), .int (nI 4)]) (rest := [.ref mm]) C.fix (e_X13_isIn l D cy S s.heap.size m9 (nI 1) (nI 4) m9.toInt ((1 : Nat) : Int) ((4 : Nat) : Int)  rfl (nI_toInt (by first | decide | omega)) (nI_toInt (by first | decide | omega))) (va_cwS 3 C.2.2.2.2.1 (gU_S mw_394 mw_395 mw_5 (subU mw_396)) rfl rfl rfl hde_X13_trail_S_0 ⟨Nat.le_of_ble_eq_true rfl, Nat.le_of_ble_eq_true rfl⟩) (p_preS C hw) rfl rfl hl.1 rfl (lv_room (Nat.le_of_ble_eq_true rfl)) dX13_trail_4 ⟨(Nat.le_of_ble_eq_true rfl), (Nat.le_of_ble_eq_true rfl)⟩) hw hA (fun r2 S1 H locs hpost hw => ?_)
  rcases hpost with hpost | hpost
  · skip
    obtain ⟨hc3, hr_, hS_⟩ := hpost
    subst hr_
    subst hS_
    refine n_if_ne (tgt := 14) hx hb (by first | decide | omega) dX13_trail_7 (by decide) (fun h_7 => ?_) (fun h_7 => ?_)
    · skip
      refine lv_iconst (v := nI 0) hx hb dX13_trail_14 (by decide) ?_
      refine lv_iconst (v := nI 1) hx hb dX13_trail_15 (by decide) ?_
      refine p_calli (va_runV (As := [.int (nI 0), .int (nI 1)]) (rest := []) C.fix (e_X13_start0 l D cy S H.size mm me sg cn im 1 0 hL_mm hf_mm ) (cwV 2 C.2.2.2.2.1 (gU_V mw_397 mw_398 mw_399 mw_5 (subU mw_400)) rfl rfl rfl hde_X13_trail_V_1 ⟨Nat.le_of_ble_eq_true rfl, Nat.le_of_ble_eq_true rfl⟩) (p_preV C hw hL_mm hf_mm rfl) rfl rfl hl.1 rfl (lv_room (Nat.le_of_ble_eq_true rfl)) dX13_trail_16 ⟨(Nat.le_of_ble_eq_true rfl), (Nat.le_of_ble_eq_true rfl)⟩) hw hA (fun r5 S4 H locs hpost hw => ?_)
      obtain ⟨hr_, hS6, hfr7, hf8⟩ := hpost
      subst hr_
      have hL9 : mm ∈ S4.1 := by rw [hS6]; exact List.mem_append_left _ hL_mm
      refine n_if_eq (tgt := 24) hx hb (by first | decide | omega) dX13_trail_19 (by decide) (fun h_19 => ?_) (fun h_19 => ?_)
      · skip
        obtain ⟨mN, hm31, rfl, hmi⟩ := z_nat (x := m9) (by omega)
        have hm16 : mN ≤ 4 := by omega
        obtain ⟨PW, hPW⟩ : ∃ z : Nat, z = 2 ^ (mN + 1) := ⟨_, rfl⟩
        have hp1 : 2 ≤ PW := by rw [hPW]; exact Nat.pow_le_pow_right (n := 2) (i := 1) (by decide) (by omega)
        have hp16 : PW ≤ 32 := by rw [hPW]; exact Nat.pow_le_pow_right (n := 2) (j := 5) (by decide) (by omega)
        have hmm : (nI mN).toInt.toNat = mN := by rw [hmi]; rfl
        refine lv_iconst (v := nI 2) hx hb dX13_trail_24 (by decide) ?_
        refine lv_iload_n hx hb dX13_trail_25 rfl (lv_at hl 1 rfl) ?_
        refine n_ishl hx hb (by omega) (by rw [Nat.mul_comm, ← Nat.pow_succ, ← hPW]; omega) dX13_trail_26 ?_
        refine n_ren (b := PW) (by rw [hPW, Nat.mul_comm, ← Nat.pow_succ]) ?_
        refine lv_iconst (v := nI 1) hx hb dX13_trail_27 (by decide) ?_
        refine n_isub hx hb (by first | decide | omega) dX13_trail_28 ?_
        refine lv_istore (lv' := [(5, .int (nI (PW - 1))), (0, .ref mm), (1, .int (nI mN)), (2, .int a1), (3, .int a2), (4, .int a3)]) hx hb dX13_trail_29 hl (by decide) rfl (fun ls hl => ?_)
        refine lv_aload_n hx hb dX13_trail_31 rfl (lv_at hl 1 rfl) ?_
        refine lv_iload_n hx hb dX13_trail_32 rfl (lv_at hl 3 rfl) ?_
        refine lv_iconst (v := nI 1) hx hb dX13_trail_33 (by decide) ?_
        refine lv_iload hx hb dX13_trail_34 (lv_at hl 0 rfl) ?_
        refine p_calli (va_runS (As := [.int a1, .int (nI 1), .int (nI (PW - 1))]) (rest := [.ref mm]) C.fix (e_X13_isIn l D cy S4 H.size a1 (nI 1) (nI (PW - 1)) a1.toInt ((1 : Nat) : Int) ((PW - 1 : Nat) : Int)  rfl (nI_toInt (by first | decide | omega)) (nI_toInt (show PW - 1 < 2 ^ 31 by omega))) (va_cwS 3 C.2.2.2.2.1 (gU_S mw_394 mw_395 mw_5 (subU mw_396)) rfl rfl rfl hde_X13_trail_S_0 ⟨Nat.le_of_ble_eq_true rfl, Nat.le_of_ble_eq_true rfl⟩) (p_preS C hw) rfl rfl hl.1 rfl (lv_room (Nat.le_of_ble_eq_true rfl)) dX13_trail_36 ⟨(Nat.le_of_ble_eq_true rfl), (Nat.le_of_ble_eq_true rfl)⟩) hw hA (fun r11 S10 H locs hpost hw => ?_)
        rcases hpost with hpost | hpost
        · skip
          obtain ⟨hc12, hr_, hS_⟩ := hpost
          subst hr_
          subst hS_
          refine n_if_eq (tgt := 63) hx hb (by first | decide | omega) dX13_trail_39 (by decide) (fun h_39 => ?_) (fun h_39 => ?_)
          · exact absurd h_39 (by first | decide | omega)
          · skip
            refine lv_iload_n hx hb dX13_trail_42 rfl (lv_at hl 4 rfl) ?_
            refine lv_iconst (v := nI 1) hx hb dX13_trail_43 (by decide) ?_
            refine lv_iload hx hb dX13_trail_44 (lv_at hl 0 rfl) ?_
            refine p_calli (va_runS (As := [.int a2, .int (nI 1), .int (nI (PW - 1))]) (rest := [.ref mm]) C.fix (e_X13_isIn l D cy S4 H.size a2 (nI 1) (nI (PW - 1)) a2.toInt ((1 : Nat) : Int) ((PW - 1 : Nat) : Int)  rfl (nI_toInt (by first | decide | omega)) (nI_toInt (show PW - 1 < 2 ^ 31 by omega))) (va_cwS 3 C.2.2.2.2.1 (gU_S mw_394 mw_395 mw_5 (subU mw_396)) rfl rfl rfl hde_X13_trail_S_0 ⟨Nat.le_of_ble_eq_true rfl, Nat.le_of_ble_eq_true rfl⟩) (p_preS C hw) rfl rfl hl.1 rfl (lv_room (Nat.le_of_ble_eq_true rfl)) dX13_trail_46 ⟨(Nat.le_of_ble_eq_true rfl), (Nat.le_of_ble_eq_true rfl)⟩) hw hA (fun r14 S13 H locs hpost hw => ?_)
            rcases hpost with hpost | hpost
            · skip
              obtain ⟨hc15, hr_, hS_⟩ := hpost
              subst hr_
              subst hS_
              refine n_if_eq (tgt := 63) hx hb (by first | decide | omega) dX13_trail_49 (by decide) (fun h_49 => ?_) (fun h_49 => ?_)
              · exact absurd h_49 (by first | decide | omega)
              · skip
                refine lv_iload hx hb dX13_trail_52 (lv_at hl 5 rfl) ?_
                refine lv_iconst (v := nI 0) hx hb dX13_trail_54 (by decide) ?_
                refine lv_iload hx hb dX13_trail_55 (lv_at hl 0 rfl) ?_
                refine p_calli (va_runS (As := [.int a3, .int (nI 0), .int (nI (PW - 1))]) (rest := [.ref mm]) C.fix (e_X13_isIn l D cy S4 H.size a3 (nI 0) (nI (PW - 1)) a3.toInt ((0 : Nat) : Int) ((PW - 1 : Nat) : Int)  rfl (nI_toInt (by first | decide | omega)) (nI_toInt (show PW - 1 < 2 ^ 31 by omega))) (va_cwS 3 C.2.2.2.2.1 (gU_S mw_394 mw_395 mw_5 (subU mw_396)) rfl rfl rfl hde_X13_trail_S_0 ⟨Nat.le_of_ble_eq_true rfl, Nat.le_of_ble_eq_true rfl⟩) (p_preS C hw) rfl rfl hl.1 rfl (lv_room (Nat.le_of_ble_eq_true rfl)) dX13_trail_57 ⟨(Nat.le_of_ble_eq_true rfl), (Nat.le_of_ble_eq_true rfl)⟩) hw hA (fun r17 S16 H locs hpost hw => ?_)
                rcases hpost with hpost | hpost
                · skip
                  obtain ⟨hc18, hr_, hS_⟩ := hpost
                  subst hr_
                  subst hS_
                  refine n_if_ne (tgt := 67) hx hb (by first | decide | omega) dX13_trail_60 (by decide) (fun h_60 => ?_) (fun h_60 => ?_)
                  · skip
                    refine lv_iconst (v := nI 0) hx hb dX13_trail_67 (by decide) ?_
                    refine lv_iconst (v := nI 1) hx hb dX13_trail_68 (by decide) ?_
                    refine p_calli (va_runV (As := [.int (nI 0), .int (nI 1)]) (rest := []) C.fix (e_X13_refuse0 l D cy S4 H.size mm me sg cn im 1 hL9 hf8 ) (cwV 2 C.2.2.2.2.1 (gU_V mw_402 mw_403 mw_404 mw_5 (subU mw_405)) rfl rfl rfl hde_X13_trail_V_2 ⟨Nat.le_of_ble_eq_true rfl, Nat.le_of_ble_eq_true rfl⟩) (p_preV C hw hL9 hf8 rfl) rfl rfl hl.1 rfl (lv_room (Nat.le_of_ble_eq_true rfl)) dX13_trail_69 ⟨(Nat.le_of_ble_eq_true rfl), (Nat.le_of_ble_eq_true rfl)⟩) hw hA (fun r20 S19 H locs hpost hw => ?_)
                    obtain ⟨hr_, hS_⟩ := hpost
                    subst hr_
                    subst hS_
                    refine n_if_eq (tgt := 77) hx hb (by first | decide | omega) dX13_trail_72 (by decide) (fun h_72 => ?_) (fun h_72 => ?_)
                    · skip
                      have hok : okT (nI mN) a1 a2 a3 := (by unfold okT; rw [hmm]; first | exact ⟨⟨by omega, by omega⟩, (okF_in1 hPW).mp (by omega), (okF_in1 hPW).mp (by omega), (okF_in hPW).mp (by omega)⟩ | exact (fun h => by have q1 := (okF_in1 hPW).mpr h.2.1; have q2 := (okF_in1 hPW).mpr h.2.2.1; have q3 := (okF_in hPW).mpr h.2.2.2; omega))
                      refine lv_aload_n hx hb dX13_trail_77 rfl (lv_at hl 1 rfl) ?_
                      refine p_new C hw hA (ci := 12) (Cn := RX12) (T := TX12) (N := 4) (fs := [.int (nI 0), .int (nI 0), .int (nI 0), .null]) tyX12 tyX12_ok rfl hin_RX12 (mU mw_418) (mU mw_590) (mU mw_407) (fun j hj => by rcases (show j = 0 ∨ j = 1 ∨ j = 2 ∨ j = 3 by omega) with rfl | rfl | rfl | rfl <;> rfl) (Nat.le_of_ble_eq_true rfl) (Nat.le_of_ble_eq_true rfl) dX13_trail_78 (fun nq21 H hq_nq21 hw => ?_)
                      obtain ⟨S22, hS22⟩ : ∃ z, z = pnew S4 nq21 (.inr (12, [.int (nI 0), .int (nI 0), .int (nI 0), .null])) := ⟨_, rfl⟩
                      replace hw : pW D (pA S s.heap.size) s.heap S22 H locs := by rw [hS22]; exact hw
                      have hL23 : nq21 ∈ S22.1 := by rw [hS22]; exact List.mem_append_right _ List.mem_cons_self
                      have hf24 : S22.2 nq21 = .inr (12, [.int (nI 0), .int (nI 0), .int (nI 0), .null]) := by rw [hS22]; exact pnew_s
                      refine lv_dup hx hb dX13_trail_81 rfl ?_
                      refine lv_iconst (v := nI 3) hx hb dX13_trail_82 (by decide) ?_
                      refine lv_iload_n hx hb dX13_trail_83 rfl (lv_at hl 2 rfl) ?_
                      refine lv_iconst (v := nI 0) hx hb dX13_trail_84 (by decide) ?_
                      refine lv_iload hx hb dX13_trail_85 (lv_at hl 5 rfl) ?_
                      refine z_if_ne (tgt := 104) hx hb rfl dX13_trail_87 (by decide) (fun h_87 => ?_) (fun h_87 => ?_)
                      · skip
                        refine lv_iconst (v := nI 3) hx hb dX13_trail_104 (by decide) ?_
                        refine p_newa C hw hA (mU mw_59) 0 rfl (n := 3) (by first | decide | omega) (Nat.le_of_ble_eq_true rfl) (Nat.le_of_ble_eq_true rfl) dX13_trail_105 (fun na25 H hq_na25 hw => ?_)
                        obtain ⟨S26, hS26⟩ : ∃ z, z = pnew S22 na25 (.inl (cy 0, 3, .inl (fun _ => 0))) := ⟨_, rfl⟩
                        replace hw : pW D (pA S s.heap.size) s.heap S26 H locs := by rw [hS26]; exact hw
                        have hL27 : na25 ∈ S26.1 := by rw [hS26]; exact List.mem_append_right _ List.mem_cons_self
                        have hf28 : S26.2 na25 = .inl (cy 0, 3, .inl (fun _ => 0)) := by rw [hS26]; exact pnew_s
                        refine lv_dup hx hb dX13_trail_107 rfl ?_
                        refine lv_iconst (v := nI 0) hx hb dX13_trail_108 (by decide) ?_
                        refine lv_iload_n hx hb dX13_trail_109 rfl (lv_at hl 3 rfl) ?_
                        refine p_ast C hw 0 rfl hL27 hf28 (by first | decide | omega) (by first | decide | omega) dX13_trail_110 (fun H locs hw => ?_)
                        obtain ⟨S29, hS29⟩ : ∃ z, z = pup S26 na25 (.inl (cy 0, 3, .inl (upd (fun _ => 0) 0 a1))) := ⟨_, rfl⟩
                        replace hw : pW D (pA S s.heap.size) s.heap S29 H locs := by rw [hS29]; exact hw
                        have hL30 : na25 ∈ S29.1 := by rw [hS29]; exact hL27
                        have hf31 : S29.2 na25 = .inl (cy 0, 3, .inl (upd (fun _ => 0) 0 a1)) := by rw [hS29]; exact pup_s
                        refine lv_dup hx hb dX13_trail_111 rfl ?_
                        refine lv_iconst (v := nI 1) hx hb dX13_trail_112 (by decide) ?_
                        refine lv_iload_n hx hb dX13_trail_113 rfl (lv_at hl 4 rfl) ?_
                        refine p_ast C hw 0 rfl hL30 hf31 (by first | decide | omega) (by first | decide | omega) dX13_trail_114 (fun H locs hw => ?_)
                        obtain ⟨S32, hS32⟩ : ∃ z, z = pup S29 na25 (.inl (cy 0, 3, .inl (upd (upd (fun _ => 0) 0 a1) 1 a2))) := ⟨_, rfl⟩
                        replace hw : pW D (pA S s.heap.size) s.heap S32 H locs := by rw [hS32]; exact hw
                        have hL33 : na25 ∈ S32.1 := by rw [hS32]; exact hL30
                        have hf34 : S32.2 na25 = .inl (cy 0, 3, .inl (upd (upd (fun _ => 0) 0 a1) 1 a2)) := by rw [hS32]; exact pup_s
                        refine lv_dup hx hb dX13_trail_115 rfl ?_
                        refine lv_iconst (v := nI 2) hx hb dX13_trail_116 (by decide) ?_
                        refine lv_iload hx hb dX13_trail_117 (lv_at hl 5 rfl) ?_
                        refine p_ast C hw 0 rfl hL33 hf34 (by first | decide | omega) (by first | decide | omega) dX13_trail_119 (fun H locs hw => ?_)
                        obtain ⟨S35, hS35⟩ : ∃ z, z = pup S32 na25 (.inl (cy 0, 3, .inl (upd (upd (upd (fun _ => 0) 0 a1) 1 a2) 2 a3))) := ⟨_, rfl⟩
                        replace hw : pW D (pA S s.heap.size) s.heap S35 H locs := by rw [hS35]; exact hw
                        have hL36 : na25 ∈ S35.1 := by rw [hS35]; exact hL33
                        have hf37 : S35.2 na25 = .inl (cy 0, 3, .inl (upd (upd (upd (fun _ => 0) 0 a1) 1 a2) 2 a3)) := by rw [hS35]; exact pup_s
                        have hL38 : nq21 ∈ S26.1 := by rw [hS26]; exact List.mem_append_left _ hL23
                        have hf39 : S26.2 nq21 = .inr (12, [.int (nI 0), .int (nI 0), .int (nI 0), .null]) := by rw [hS26]; exact (pnew_n (fun z : nq21 = na25 => hq_na25 (by rw [← z]; exact hL23))).trans hf24
                        have hL40 : nq21 ∈ S29.1 := by rw [hS29]; exact hL38
                        have hf41 : S29.2 nq21 = .inr (12, [.int (nI 0), .int (nI 0), .int (nI 0), .null]) := by rw [hS29]; exact (pup_n (fun z : nq21 = na25 => hq_na25 (by rw [← z]; exact hL23))).trans hf39
                        have hL42 : nq21 ∈ S32.1 := by rw [hS32]; exact hL40
                        have hf43 : S32.2 nq21 = .inr (12, [.int (nI 0), .int (nI 0), .int (nI 0), .null]) := by rw [hS32]; exact (pup_n (fun z : nq21 = na25 => hq_na25 (by rw [← z]; exact hL23))).trans hf41
                        have hL44 : nq21 ∈ S35.1 := by rw [hS35]; exact hL42
                        have hf45 : S35.2 nq21 = .inr (12, [.int (nI 0), .int (nI 0), .int (nI 0), .null]) := by rw [hS35]; exact (pup_n (fun z : nq21 = na25 => hq_na25 (by rw [← z]; exact hL23))).trans hf43
                        refine p_callv (va_runI (As := [.int (nI 3), .int (nI mN), .int (nI 0), .ref na25]) (rest := [.ref nq21, .ref mm]) C.fix (e_X12_init l D cy S35 H.size nq21 na25 3 mN 0 hL44 hf45 ) (cwI 4 C.2.2.2.2.1 (gU_sub (subU mw_593)) rfl rfl rfl (C.2.2.2.2.1 (.initialized RX12) (mU mw_407)) (C.2.2.2.2.1 (.methodLink RX13 127 yX12_init) (mU mw_591)) (C.2.2.2.2.1 (.instanceMethod yX12_init) (mU mw_592)) rfl (by decide +kernel) ⟨Nat.le_of_ble_eq_true rfl, Nat.le_of_ble_eq_true rfl⟩) (p_preS C hw) rfl rfl hl.1 rfl (lv_room (Nat.le_of_ble_eq_true rfl)) dX13_trail_120 ⟨(Nat.le_of_ble_eq_true rfl), (Nat.le_of_ble_eq_true rfl)⟩) hw hA (fun S46 H locs hpost hw => ?_)
                        obtain ⟨hS48, hfr49, hf50⟩ := hpost
                        have hL51 : nq21 ∈ S46.1 := by rw [hS48]; exact List.mem_append_left _ hL44
                        have hL52 : mm ∈ S22.1 := by rw [hS22]; exact List.mem_append_left _ hL9
                        have hf53 : S22.2 mm = .inr (13, [.int (nI 0), .ref me, .ref sg, .ref cn, .ref im]) := by rw [hS22]; exact (pnew_n (fun z : mm = nq21 => hq_nq21 (by rw [← z]; exact hL9))).trans hf8
                        have hL54 : mm ∈ S26.1 := by rw [hS26]; exact List.mem_append_left _ hL52
                        have hf55 : S26.2 mm = .inr (13, [.int (nI 0), .ref me, .ref sg, .ref cn, .ref im]) := by rw [hS26]; exact (pnew_n (fun z : mm = na25 => hq_na25 (by rw [← z]; exact hL52))).trans hf53
                        have hL56 : mm ∈ S29.1 := by rw [hS29]; exact hL54
                        have hf57 : S29.2 mm = .inr (13, [.int (nI 0), .ref me, .ref sg, .ref cn, .ref im]) := by rw [hS29]; exact (pup_n (fun z : mm = na25 => hq_na25 (by rw [← z]; exact hL52))).trans hf55
                        have hL58 : mm ∈ S32.1 := by rw [hS32]; exact hL56
                        have hf59 : S32.2 mm = .inr (13, [.int (nI 0), .ref me, .ref sg, .ref cn, .ref im]) := by rw [hS32]; exact (pup_n (fun z : mm = na25 => hq_na25 (by rw [← z]; exact hL52))).trans hf57
                        have hL60 : mm ∈ S35.1 := by rw [hS35]; exact hL58
                        have hf61 : S35.2 mm = .inr (13, [.int (nI 0), .ref me, .ref sg, .ref cn, .ref im]) := by rw [hS35]; exact (pup_n (fun z : mm = na25 => hq_na25 (by rw [← z]; exact hL52))).trans hf59
                        have hL62 : mm ∈ S46.1 := by rw [hS48]; exact List.mem_append_left _ hL60
                        have hf63 : S46.2 mm = .inr (13, [.int (nI 0), .ref me, .ref sg, .ref cn, .ref im]) := (hfr49 mm hL60 (fun z : mm = nq21 => hq_nq21 (by rw [← z]; exact hL9))).trans hf61
                        have hL64 : me ∈ S4.1 := by rw [hS6]; exact List.mem_append_left _ hL_me
                        have hf65 : S4.2 me = .inl (cy 0, 0, .inl (fun _ => 0)) := (hfr7 me hL_me (ne_cells hf_me hf_mm (by nofun))).trans hf_me
                        have hL66 : me ∈ S22.1 := by rw [hS22]; exact List.mem_append_left _ hL64
                        have hf67 : S22.2 me = .inl (cy 0, 0, .inl (fun _ => 0)) := by rw [hS22]; exact (pnew_n (fun z : me = nq21 => hq_nq21 (by rw [← z]; exact hL64))).trans hf65
                        have hL68 : me ∈ S26.1 := by rw [hS26]; exact List.mem_append_left _ hL66
                        have hf69 : S26.2 me = .inl (cy 0, 0, .inl (fun _ => 0)) := by rw [hS26]; exact (pnew_n (fun z : me = na25 => hq_na25 (by rw [← z]; exact hL66))).trans hf67
                        have hL70 : me ∈ S29.1 := by rw [hS29]; exact hL68
                        have hf71 : S29.2 me = .inl (cy 0, 0, .inl (fun _ => 0)) := by rw [hS29]; exact (pup_n (fun z : me = na25 => hq_na25 (by rw [← z]; exact hL66))).trans hf69
                        have hL72 : me ∈ S32.1 := by rw [hS32]; exact hL70
                        have hf73 : S32.2 me = .inl (cy 0, 0, .inl (fun _ => 0)) := by rw [hS32]; exact (pup_n (fun z : me = na25 => hq_na25 (by rw [← z]; exact hL66))).trans hf71
                        have hL74 : me ∈ S35.1 := by rw [hS35]; exact hL72
                        have hf75 : S35.2 me = .inl (cy 0, 0, .inl (fun _ => 0)) := by rw [hS35]; exact (pup_n (fun z : me = na25 => hq_na25 (by rw [← z]; exact hL66))).trans hf73
                        have hL76 : me ∈ S46.1 := by rw [hS48]; exact List.mem_append_left _ hL74
                        have hf77 : S46.2 me = .inl (cy 0, 0, .inl (fun _ => 0)) := (hfr49 me hL74 (fun z : me = nq21 => hq_nq21 (by rw [← z]; exact hL64))).trans hf75
                        have hL78 : sg ∈ S4.1 := by rw [hS6]; exact List.mem_append_left _ hL_sg
                        have hf79 : S4.2 sg = .inr (0, [.int (nI 0), .ref ed, .int (nI 0)]) := (hfr7 sg hL_sg (ne_cells hf_sg hf_mm (by nofun))).trans hf_sg
                        have hL80 : sg ∈ S22.1 := by rw [hS22]; exact List.mem_append_left _ hL78
                        have hf81 : S22.2 sg = .inr (0, [.int (nI 0), .ref ed, .int (nI 0)]) := by rw [hS22]; exact (pnew_n (fun z : sg = nq21 => hq_nq21 (by rw [← z]; exact hL78))).trans hf79
                        have hL82 : sg ∈ S26.1 := by rw [hS26]; exact List.mem_append_left _ hL80
                        have hf83 : S26.2 sg = .inr (0, [.int (nI 0), .ref ed, .int (nI 0)]) := by rw [hS26]; exact (pnew_n (fun z : sg = na25 => hq_na25 (by rw [← z]; exact hL80))).trans hf81
                        have hL84 : sg ∈ S29.1 := by rw [hS29]; exact hL82
                        have hf85 : S29.2 sg = .inr (0, [.int (nI 0), .ref ed, .int (nI 0)]) := by rw [hS29]; exact (pup_n (fun z : sg = na25 => hq_na25 (by rw [← z]; exact hL80))).trans hf83
                        have hL86 : sg ∈ S32.1 := by rw [hS32]; exact hL84
                        have hf87 : S32.2 sg = .inr (0, [.int (nI 0), .ref ed, .int (nI 0)]) := by rw [hS32]; exact (pup_n (fun z : sg = na25 => hq_na25 (by rw [← z]; exact hL80))).trans hf85
                        have hL88 : sg ∈ S35.1 := by rw [hS35]; exact hL86
                        have hf89 : S35.2 sg = .inr (0, [.int (nI 0), .ref ed, .int (nI 0)]) := by rw [hS35]; exact (pup_n (fun z : sg = na25 => hq_na25 (by rw [← z]; exact hL80))).trans hf87
                        have hL90 : sg ∈ S46.1 := by rw [hS48]; exact List.mem_append_left _ hL88
                        have hf91 : S46.2 sg = .inr (0, [.int (nI 0), .ref ed, .int (nI 0)]) := (hfr49 sg hL88 (fun z : sg = nq21 => hq_nq21 (by rw [← z]; exact hL78))).trans hf89
                        refine p_calli (va_runV (As := [.ref nq21]) (rest := []) C.fix (e_X13_addtrl l D cy ed S46 H.size mm nq21 me sg cn im na25 mN 0 hL62 hf63 hL76 hf77 hL90 hf91 hL51 hf50 ) (cwV 1 C.2.2.2.2.1 (gU_V mw_595 mw_596 mw_597 mw_5 (subU mw_598)) rfl rfl rfl hde_X13_trail_V_3 ⟨Nat.le_of_ble_eq_true rfl, Nat.le_of_ble_eq_true rfl⟩) (e_preV C hw hA hE hL62 hf63 rfl) rfl rfl hl.1 rfl (lv_room (Nat.le_of_ble_eq_true rfl)) dX13_trail_123 ⟨(Nat.le_of_ble_eq_true rfl), (Nat.le_of_ble_eq_true rfl)⟩) hw hA (fun r93 S92 H locs hpost hw => ?_)
                        obtain ⟨nl94, hr_, hS95, hfr96⟩ := hpost
                        subst hr_
                        have hL97 : mm ∈ S92.1 := by rw [hS95]; exact List.mem_append_left _ hL62
                        have hf98 : S92.2 mm = .inr (13, [.int (nI 0), .ref me, .ref sg, .ref cn, .ref im]) := (hfr96 mm hL62 (ne_cells hf63 hf91 (by nofun))).trans hf63
                        exact (p_iret C hw ((Or.inl ⟨([nq21] ++ [na25] ++ nl94), hok, rfl, (by simp only [hS95, hS48, hS35, hS32, hS29, hS26, hS22, hS6, pup, pnew, List.append_nil, List.append_assoc, List.cons_append, List.nil_append]), (fun a_ ha_ hn_0 hn_1 => ((hfr96 a_ (show a_ ∈ S46.1 from by rw [hS48]; exact List.mem_append_left _ (show a_ ∈ S35.1 from by rw [hS35]; exact (show a_ ∈ S32.1 from by rw [hS32]; exact (show a_ ∈ S29.1 from by rw [hS29]; exact (show a_ ∈ S26.1 from by rw [hS26]; exact List.mem_append_left _ (show a_ ∈ S22.1 from by rw [hS22]; exact List.mem_append_left _ (show a_ ∈ S4.1 from by rw [hS6]; exact List.mem_append_left _ ha_))))))) hn_1).trans ((hfr49 a_ (show a_ ∈ S35.1 from by rw [hS35]; exact (show a_ ∈ S32.1 from by rw [hS32]; exact (show a_ ∈ S29.1 from by rw [hS29]; exact (show a_ ∈ S26.1 from by rw [hS26]; exact List.mem_append_left _ (show a_ ∈ S22.1 from by rw [hS22]; exact List.mem_append_left _ (show a_ ∈ S4.1 from by rw [hS6]; exact List.mem_append_left _ ha_)))))) (fun z : a_ = nq21 => hq_nq21 (by rw [← z]; exact (show a_ ∈ S4.1 from by rw [hS6]; exact List.mem_append_left _ ha_)))).trans ((show S35.2 a_ = S32.2 a_ from by rw [hS35]; exact pup_n (fun z : a_ = na25 => hq_na25 (by rw [← z]; exact (show a_ ∈ S22.1 from by rw [hS22]; exact List.mem_append_left _ (show a_ ∈ S4.1 from by rw [hS6]; exact List.mem_append_left _ ha_))))).trans ((show S32.2 a_ = S29.2 a_ from by rw [hS32]; exact pup_n (fun z : a_ = na25 => hq_na25 (by rw [← z]; exact (show a_ ∈ S22.1 from by rw [hS22]; exact List.mem_append_left _ (show a_ ∈ S4.1 from by rw [hS6]; exact List.mem_append_left _ ha_))))).trans ((show S29.2 a_ = S26.2 a_ from by rw [hS29]; exact pup_n (fun z : a_ = na25 => hq_na25 (by rw [← z]; exact (show a_ ∈ S22.1 from by rw [hS22]; exact List.mem_append_left _ (show a_ ∈ S4.1 from by rw [hS6]; exact List.mem_append_left _ ha_))))).trans ((show S26.2 a_ = S22.2 a_ from by rw [hS26]; exact pnew_n (fun z : a_ = na25 => hq_na25 (by rw [← z]; exact (show a_ ∈ S22.1 from by rw [hS22]; exact List.mem_append_left _ (show a_ ∈ S4.1 from by rw [hS6]; exact List.mem_append_left _ ha_))))).trans ((show S22.2 a_ = S4.2 a_ from by rw [hS22]; exact pnew_n (fun z : a_ = nq21 => hq_nq21 (by rw [← z]; exact (show a_ ∈ S4.1 from by rw [hS6]; exact List.mem_append_left _ ha_)))).trans (hfr7 a_ ha_ hn_0))))))))), hf98⟩)) hr hlocks dX13_trail_126)
                      · skip
                        refine lv_iconst (v := nI 2) hx hb dX13_trail_90 (by decide) ?_
                        refine p_newa C hw hA (mU mw_59) 0 rfl (n := 2) (by first | decide | omega) (Nat.le_of_ble_eq_true rfl) (Nat.le_of_ble_eq_true rfl) dX13_trail_91 (fun na99 H hq_na99 hw => ?_)
                        obtain ⟨S100, hS100⟩ : ∃ z, z = pnew S22 na99 (.inl (cy 0, 2, .inl (fun _ => 0))) := ⟨_, rfl⟩
                        replace hw : pW D (pA S s.heap.size) s.heap S100 H locs := by rw [hS100]; exact hw
                        have hL101 : na99 ∈ S100.1 := by rw [hS100]; exact List.mem_append_right _ List.mem_cons_self
                        have hf102 : S100.2 na99 = .inl (cy 0, 2, .inl (fun _ => 0)) := by rw [hS100]; exact pnew_s
                        refine lv_dup hx hb dX13_trail_93 rfl ?_
                        refine lv_iconst (v := nI 0) hx hb dX13_trail_94 (by decide) ?_
                        refine lv_iload_n hx hb dX13_trail_95 rfl (lv_at hl 3 rfl) ?_
                        refine p_ast C hw 0 rfl hL101 hf102 (by first | decide | omega) (by first | decide | omega) dX13_trail_96 (fun H locs hw => ?_)
                        obtain ⟨S103, hS103⟩ : ∃ z, z = pup S100 na99 (.inl (cy 0, 2, .inl (upd (fun _ => 0) 0 a1))) := ⟨_, rfl⟩
                        replace hw : pW D (pA S s.heap.size) s.heap S103 H locs := by rw [hS103]; exact hw
                        have hL104 : na99 ∈ S103.1 := by rw [hS103]; exact hL101
                        have hf105 : S103.2 na99 = .inl (cy 0, 2, .inl (upd (fun _ => 0) 0 a1)) := by rw [hS103]; exact pup_s
                        refine lv_dup hx hb dX13_trail_97 rfl ?_
                        refine lv_iconst (v := nI 1) hx hb dX13_trail_98 (by decide) ?_
                        refine lv_iload_n hx hb dX13_trail_99 rfl (lv_at hl 4 rfl) ?_
                        refine p_ast C hw 0 rfl hL104 hf105 (by first | decide | omega) (by first | decide | omega) dX13_trail_100 (fun H locs hw => ?_)
                        obtain ⟨S106, hS106⟩ : ∃ z, z = pup S103 na99 (.inl (cy 0, 2, .inl (upd (upd (fun _ => 0) 0 a1) 1 a2))) := ⟨_, rfl⟩
                        replace hw : pW D (pA S s.heap.size) s.heap S106 H locs := by rw [hS106]; exact hw
                        have hL107 : na99 ∈ S106.1 := by rw [hS106]; exact hL104
                        have hf108 : S106.2 na99 = .inl (cy 0, 2, .inl (upd (upd (fun _ => 0) 0 a1) 1 a2)) := by rw [hS106]; exact pup_s
                        refine lv_goto (tgt := 120) hx hb dX13_trail_101 (by decide) ?_
                        have hL109 : nq21 ∈ S100.1 := by rw [hS100]; exact List.mem_append_left _ hL23
                        have hf110 : S100.2 nq21 = .inr (12, [.int (nI 0), .int (nI 0), .int (nI 0), .null]) := by rw [hS100]; exact (pnew_n (fun z : nq21 = na99 => hq_na99 (by rw [← z]; exact hL23))).trans hf24
                        have hL111 : nq21 ∈ S103.1 := by rw [hS103]; exact hL109
                        have hf112 : S103.2 nq21 = .inr (12, [.int (nI 0), .int (nI 0), .int (nI 0), .null]) := by rw [hS103]; exact (pup_n (fun z : nq21 = na99 => hq_na99 (by rw [← z]; exact hL23))).trans hf110
                        have hL113 : nq21 ∈ S106.1 := by rw [hS106]; exact hL111
                        have hf114 : S106.2 nq21 = .inr (12, [.int (nI 0), .int (nI 0), .int (nI 0), .null]) := by rw [hS106]; exact (pup_n (fun z : nq21 = na99 => hq_na99 (by rw [← z]; exact hL23))).trans hf112
                        refine p_callv (va_runI (As := [.int (nI 3), .int (nI mN), .int (nI 0), .ref na99]) (rest := [.ref nq21, .ref mm]) C.fix (e_X12_init l D cy S106 H.size nq21 na99 3 mN 0 hL113 hf114 ) (cwI 4 C.2.2.2.2.1 (gU_sub (subU mw_593)) rfl rfl rfl (C.2.2.2.2.1 (.initialized RX12) (mU mw_407)) (C.2.2.2.2.1 (.methodLink RX13 127 yX12_init) (mU mw_591)) (C.2.2.2.2.1 (.instanceMethod yX12_init) (mU mw_592)) rfl (by decide +kernel) ⟨Nat.le_of_ble_eq_true rfl, Nat.le_of_ble_eq_true rfl⟩) (p_preS C hw) rfl rfl hl.1 rfl (lv_room (Nat.le_of_ble_eq_true rfl)) dX13_trail_120 ⟨(Nat.le_of_ble_eq_true rfl), (Nat.le_of_ble_eq_true rfl)⟩) hw hA (fun S115 H locs hpost hw => ?_)
                        obtain ⟨hS117, hfr118, hf119⟩ := hpost
                        have hL120 : nq21 ∈ S115.1 := by rw [hS117]; exact List.mem_append_left _ hL113
                        have hL121 : mm ∈ S22.1 := by rw [hS22]; exact List.mem_append_left _ hL9
                        have hf122 : S22.2 mm = .inr (13, [.int (nI 0), .ref me, .ref sg, .ref cn, .ref im]) := by rw [hS22]; exact (pnew_n (fun z : mm = nq21 => hq_nq21 (by rw [← z]; exact hL9))).trans hf8
                        have hL123 : mm ∈ S100.1 := by rw [hS100]; exact List.mem_append_left _ hL121
                        have hf124 : S100.2 mm = .inr (13, [.int (nI 0), .ref me, .ref sg, .ref cn, .ref im]) := by rw [hS100]; exact (pnew_n (fun z : mm = na99 => hq_na99 (by rw [← z]; exact hL121))).trans hf122
                        have hL125 : mm ∈ S103.1 := by rw [hS103]; exact hL123
                        have hf126 : S103.2 mm = .inr (13, [.int (nI 0), .ref me, .ref sg, .ref cn, .ref im]) := by rw [hS103]; exact (pup_n (fun z : mm = na99 => hq_na99 (by rw [← z]; exact hL121))).trans hf124
                        have hL127 : mm ∈ S106.1 := by rw [hS106]; exact hL125
                        have hf128 : S106.2 mm = .inr (13, [.int (nI 0), .ref me, .ref sg, .ref cn, .ref im]) := by rw [hS106]; exact (pup_n (fun z : mm = na99 => hq_na99 (by rw [← z]; exact hL121))).trans hf126
                        have hL129 : mm ∈ S115.1 := by rw [hS117]; exact List.mem_append_left _ hL127
                        have hf130 : S115.2 mm = .inr (13, [.int (nI 0), .ref me, .ref sg, .ref cn, .ref im]) := (hfr118 mm hL127 (fun z : mm = nq21 => hq_nq21 (by rw [← z]; exact hL9))).trans hf128
                        have hL131 : me ∈ S4.1 := by rw [hS6]; exact List.mem_append_left _ hL_me
                        have hf132 : S4.2 me = .inl (cy 0, 0, .inl (fun _ => 0)) := (hfr7 me hL_me (ne_cells hf_me hf_mm (by nofun))).trans hf_me
                        have hL133 : me ∈ S22.1 := by rw [hS22]; exact List.mem_append_left _ hL131
                        have hf134 : S22.2 me = .inl (cy 0, 0, .inl (fun _ => 0)) := by rw [hS22]; exact (pnew_n (fun z : me = nq21 => hq_nq21 (by rw [← z]; exact hL131))).trans hf132
                        have hL135 : me ∈ S100.1 := by rw [hS100]; exact List.mem_append_left _ hL133
                        have hf136 : S100.2 me = .inl (cy 0, 0, .inl (fun _ => 0)) := by rw [hS100]; exact (pnew_n (fun z : me = na99 => hq_na99 (by rw [← z]; exact hL133))).trans hf134
                        have hL137 : me ∈ S103.1 := by rw [hS103]; exact hL135
                        have hf138 : S103.2 me = .inl (cy 0, 0, .inl (fun _ => 0)) := by rw [hS103]; exact (pup_n (fun z : me = na99 => hq_na99 (by rw [← z]; exact hL133))).trans hf136
                        have hL139 : me ∈ S106.1 := by rw [hS106]; exact hL137
                        have hf140 : S106.2 me = .inl (cy 0, 0, .inl (fun _ => 0)) := by rw [hS106]; exact (pup_n (fun z : me = na99 => hq_na99 (by rw [← z]; exact hL133))).trans hf138
                        have hL141 : me ∈ S115.1 := by rw [hS117]; exact List.mem_append_left _ hL139
                        have hf142 : S115.2 me = .inl (cy 0, 0, .inl (fun _ => 0)) := (hfr118 me hL139 (fun z : me = nq21 => hq_nq21 (by rw [← z]; exact hL131))).trans hf140
                        have hL143 : sg ∈ S4.1 := by rw [hS6]; exact List.mem_append_left _ hL_sg
                        have hf144 : S4.2 sg = .inr (0, [.int (nI 0), .ref ed, .int (nI 0)]) := (hfr7 sg hL_sg (ne_cells hf_sg hf_mm (by nofun))).trans hf_sg
                        have hL145 : sg ∈ S22.1 := by rw [hS22]; exact List.mem_append_left _ hL143
                        have hf146 : S22.2 sg = .inr (0, [.int (nI 0), .ref ed, .int (nI 0)]) := by rw [hS22]; exact (pnew_n (fun z : sg = nq21 => hq_nq21 (by rw [← z]; exact hL143))).trans hf144
                        have hL147 : sg ∈ S100.1 := by rw [hS100]; exact List.mem_append_left _ hL145
                        have hf148 : S100.2 sg = .inr (0, [.int (nI 0), .ref ed, .int (nI 0)]) := by rw [hS100]; exact (pnew_n (fun z : sg = na99 => hq_na99 (by rw [← z]; exact hL145))).trans hf146
                        have hL149 : sg ∈ S103.1 := by rw [hS103]; exact hL147
                        have hf150 : S103.2 sg = .inr (0, [.int (nI 0), .ref ed, .int (nI 0)]) := by rw [hS103]; exact (pup_n (fun z : sg = na99 => hq_na99 (by rw [← z]; exact hL145))).trans hf148
                        have hL151 : sg ∈ S106.1 := by rw [hS106]; exact hL149
                        have hf152 : S106.2 sg = .inr (0, [.int (nI 0), .ref ed, .int (nI 0)]) := by rw [hS106]; exact (pup_n (fun z : sg = na99 => hq_na99 (by rw [← z]; exact hL145))).trans hf150
                        have hL153 : sg ∈ S115.1 := by rw [hS117]; exact List.mem_append_left _ hL151
                        have hf154 : S115.2 sg = .inr (0, [.int (nI 0), .ref ed, .int (nI 0)]) := (hfr118 sg hL151 (fun z : sg = nq21 => hq_nq21 (by rw [← z]; exact hL143))).trans hf152
                        refine p_calli (va_runV (As := [.ref nq21]) (rest := []) C.fix (e_X13_addtrl l D cy ed S115 H.size mm nq21 me sg cn im na99 mN 0 hL129 hf130 hL141 hf142 hL153 hf154 hL120 hf119 ) (cwV 1 C.2.2.2.2.1 (gU_V mw_595 mw_596 mw_597 mw_5 (subU mw_598)) rfl rfl rfl hde_X13_trail_V_3 ⟨Nat.le_of_ble_eq_true rfl, Nat.le_of_ble_eq_true rfl⟩) (e_preV C hw hA hE hL129 hf130 rfl) rfl rfl hl.1 rfl (lv_room (Nat.le_of_ble_eq_true rfl)) dX13_trail_123 ⟨(Nat.le_of_ble_eq_true rfl), (Nat.le_of_ble_eq_true rfl)⟩) hw hA (fun r156 S155 H locs hpost hw => ?_)
                        obtain ⟨nl157, hr_, hS158, hfr159⟩ := hpost
                        subst hr_
                        refine W.widen (k := 5) (n := 30) (Nat.le_of_ble_eq_true rfl) (Nat.le_of_ble_eq_true rfl) ?_
                        have hL160 : mm ∈ S155.1 := by rw [hS158]; exact List.mem_append_left _ hL129
                        have hf161 : S155.2 mm = .inr (13, [.int (nI 0), .ref me, .ref sg, .ref cn, .ref im]) := (hfr159 mm hL129 (ne_cells hf130 hf154 (by nofun))).trans hf130
                        exact (p_iret C hw ((Or.inl ⟨([nq21] ++ [na99] ++ nl157), hok, rfl, (by simp only [hS158, hS117, hS106, hS103, hS100, hS22, hS6, pup, pnew, List.append_nil, List.append_assoc, List.cons_append, List.nil_append]), (fun a_ ha_ hn_0 hn_1 => ((hfr159 a_ (show a_ ∈ S115.1 from by rw [hS117]; exact List.mem_append_left _ (show a_ ∈ S106.1 from by rw [hS106]; exact (show a_ ∈ S103.1 from by rw [hS103]; exact (show a_ ∈ S100.1 from by rw [hS100]; exact List.mem_append_left _ (show a_ ∈ S22.1 from by rw [hS22]; exact List.mem_append_left _ (show a_ ∈ S4.1 from by rw [hS6]; exact List.mem_append_left _ ha_)))))) hn_1).trans ((hfr118 a_ (show a_ ∈ S106.1 from by rw [hS106]; exact (show a_ ∈ S103.1 from by rw [hS103]; exact (show a_ ∈ S100.1 from by rw [hS100]; exact List.mem_append_left _ (show a_ ∈ S22.1 from by rw [hS22]; exact List.mem_append_left _ (show a_ ∈ S4.1 from by rw [hS6]; exact List.mem_append_left _ ha_))))) (fun z : a_ = nq21 => hq_nq21 (by rw [← z]; exact (show a_ ∈ S4.1 from by rw [hS6]; exact List.mem_append_left _ ha_)))).trans ((show S106.2 a_ = S103.2 a_ from by rw [hS106]; exact pup_n (fun z : a_ = na99 => hq_na99 (by rw [← z]; exact (show a_ ∈ S22.1 from by rw [hS22]; exact List.mem_append_left _ (show a_ ∈ S4.1 from by rw [hS6]; exact List.mem_append_left _ ha_))))).trans ((show S103.2 a_ = S100.2 a_ from by rw [hS103]; exact pup_n (fun z : a_ = na99 => hq_na99 (by rw [← z]; exact (show a_ ∈ S22.1 from by rw [hS22]; exact List.mem_append_left _ (show a_ ∈ S4.1 from by rw [hS6]; exact List.mem_append_left _ ha_))))).trans ((show S100.2 a_ = S22.2 a_ from by rw [hS100]; exact pnew_n (fun z : a_ = na99 => hq_na99 (by rw [← z]; exact (show a_ ∈ S22.1 from by rw [hS22]; exact List.mem_append_left _ (show a_ ∈ S4.1 from by rw [hS6]; exact List.mem_append_left _ ha_))))).trans ((show S22.2 a_ = S4.2 a_ from by rw [hS22]; exact pnew_n (fun z : a_ = nq21 => hq_nq21 (by rw [← z]; exact (show a_ ∈ S4.1 from by rw [hS6]; exact List.mem_append_left _ ha_)))).trans (hfr7 a_ ha_ hn_0)))))))), hf161⟩)) hr hlocks dX13_trail_126)
                    · exact absurd h_72 (by first | decide | omega)
                  · exact absurd h_60 (by first | decide | omega)
                · skip
                  obtain ⟨hc162, hr_, hS_⟩ := hpost
                  subst hr_
                  subst hS_
                  refine n_if_ne (tgt := 67) hx hb (by first | decide | omega) dX13_trail_60 (by decide) (fun h_60 => ?_) (fun h_60 => ?_)
                  · exact absurd h_60 (by first | decide | omega)
                  · skip
                    refine lv_iconst (v := nI 1) hx hb dX13_trail_63 (by decide) ?_
                    refine lv_goto (tgt := 68) hx hb dX13_trail_64 (by decide) ?_
                    refine lv_iconst (v := nI 1) hx hb dX13_trail_68 (by decide) ?_
                    refine p_calli (va_runV (As := [.int (nI 1), .int (nI 1)]) (rest := []) C.fix (e_X13_refuse1 l D cy S4 H.size mm me sg cn im 1 hL9 hf8 (by first | assumption | decide | omega) (by first | assumption | decide | omega)) (cwV 2 C.2.2.2.2.1 (gU_V mw_402 mw_403 mw_404 mw_5 (subU mw_405)) rfl rfl rfl hde_X13_trail_V_2 ⟨Nat.le_of_ble_eq_true rfl, Nat.le_of_ble_eq_true rfl⟩) (p_preV C hw hL9 hf8 rfl) rfl rfl hl.1 rfl (lv_room (Nat.le_of_ble_eq_true rfl)) dX13_trail_69 ⟨(Nat.le_of_ble_eq_true rfl), (Nat.le_of_ble_eq_true rfl)⟩) hw hA (fun r164 S163 H locs hpost hw => ?_)
                    obtain ⟨hr_, hS165, hfr166, hf167⟩ := hpost
                    subst hr_
                    have hL168 : mm ∈ S163.1 := by rw [hS165]; exact List.mem_append_left _ hL9
                    refine n_if_eq (tgt := 77) hx hb (by first | decide | omega) dX13_trail_72 (by decide) (fun h_72 => ?_) (fun h_72 => ?_)
                    · exact absurd h_72 (by first | decide | omega)
                    · skip
                      refine lv_iconst (v := nI 0) hx hb dX13_trail_75 (by decide) ?_
                      refine W.widen (k := 5) (n := 30) (Nat.le_of_ble_eq_true rfl) (Nat.le_of_ble_eq_true rfl) ?_
                      exact (p_iret C hw ((Or.inr ⟨[], (by unfold okT; rw [hmm]; first | exact ⟨⟨by omega, by omega⟩, (okF_in1 hPW).mp (by omega), (okF_in1 hPW).mp (by omega), (okF_in hPW).mp (by omega)⟩ | exact (fun h => by have q1 := (okF_in1 hPW).mpr h.2.1; have q2 := (okF_in1 hPW).mpr h.2.2.1; have q3 := (okF_in hPW).mpr h.2.2.2; omega)), rfl, (by simp only [hS165, hS6, pup, pnew, List.append_nil, List.append_assoc, List.cons_append, List.nil_append]), (fun a_ ha_ hn_0 => ((hfr166 a_ (show a_ ∈ S4.1 from by rw [hS6]; exact List.mem_append_left _ ha_) hn_0).trans (hfr7 a_ ha_ hn_0))), hf167⟩)) hr hlocks dX13_trail_76)
            · skip
              obtain ⟨hc169, hr_, hS_⟩ := hpost
              subst hr_
              subst hS_
              refine n_if_eq (tgt := 63) hx hb (by first | decide | omega) dX13_trail_49 (by decide) (fun h_49 => ?_) (fun h_49 => ?_)
              · skip
                refine lv_iconst (v := nI 1) hx hb dX13_trail_63 (by decide) ?_
                refine lv_goto (tgt := 68) hx hb dX13_trail_64 (by decide) ?_
                refine lv_iconst (v := nI 1) hx hb dX13_trail_68 (by decide) ?_
                refine p_calli (va_runV (As := [.int (nI 1), .int (nI 1)]) (rest := []) C.fix (e_X13_refuse1 l D cy S4 H.size mm me sg cn im 1 hL9 hf8 (by first | assumption | decide | omega) (by first | assumption | decide | omega)) (cwV 2 C.2.2.2.2.1 (gU_V mw_402 mw_403 mw_404 mw_5 (subU mw_405)) rfl rfl rfl hde_X13_trail_V_2 ⟨Nat.le_of_ble_eq_true rfl, Nat.le_of_ble_eq_true rfl⟩) (p_preV C hw hL9 hf8 rfl) rfl rfl hl.1 rfl (lv_room (Nat.le_of_ble_eq_true rfl)) dX13_trail_69 ⟨(Nat.le_of_ble_eq_true rfl), (Nat.le_of_ble_eq_true rfl)⟩) hw hA (fun r171 S170 H locs hpost hw => ?_)
                obtain ⟨hr_, hS172, hfr173, hf174⟩ := hpost
                subst hr_
                have hL175 : mm ∈ S170.1 := by rw [hS172]; exact List.mem_append_left _ hL9
                refine n_if_eq (tgt := 77) hx hb (by first | decide | omega) dX13_trail_72 (by decide) (fun h_72 => ?_) (fun h_72 => ?_)
                · exact absurd h_72 (by first | decide | omega)
                · skip
                  refine lv_iconst (v := nI 0) hx hb dX13_trail_75 (by decide) ?_
                  refine W.widen (k := 5) (n := 30) (Nat.le_of_ble_eq_true rfl) (Nat.le_of_ble_eq_true rfl) ?_
                  exact (p_iret C hw ((Or.inr ⟨[], (by unfold okT; rw [hmm]; first | exact ⟨⟨by omega, by omega⟩, (okF_in1 hPW).mp (by omega), (okF_in1 hPW).mp (by omega), (okF_in hPW).mp (by omega)⟩ | exact (fun h => by have q1 := (okF_in1 hPW).mpr h.2.1; have q2 := (okF_in1 hPW).mpr h.2.2.1; have q3 := (okF_in hPW).mpr h.2.2.2; omega)), rfl, (by simp only [hS172, hS6, pup, pnew, List.append_nil, List.append_assoc, List.cons_append, List.nil_append]), (fun a_ ha_ hn_0 => ((hfr173 a_ (show a_ ∈ S4.1 from by rw [hS6]; exact List.mem_append_left _ ha_) hn_0).trans (hfr7 a_ ha_ hn_0))), hf174⟩)) hr hlocks dX13_trail_76)
              · exact absurd h_49 (by first | decide | omega)
        · skip
          obtain ⟨hc176, hr_, hS_⟩ := hpost
          subst hr_
          subst hS_
          refine n_if_eq (tgt := 63) hx hb (by first | decide | omega) dX13_trail_39 (by decide) (fun h_39 => ?_) (fun h_39 => ?_)
          · skip
            refine lv_iconst (v := nI 1) hx hb dX13_trail_63 (by decide) ?_
            refine lv_goto (tgt := 68) hx hb dX13_trail_64 (by decide) ?_
            refine lv_iconst (v := nI 1) hx hb dX13_trail_68 (by decide) ?_
            refine p_calli (va_runV (As := [.int (nI 1), .int (nI 1)]) (rest := []) C.fix (e_X13_refuse1 l D cy S4 H.size mm me sg cn im 1 hL9 hf8 (by first | assumption | decide | omega) (by first | assumption | decide | omega)) (cwV 2 C.2.2.2.2.1 (gU_V mw_402 mw_403 mw_404 mw_5 (subU mw_405)) rfl rfl rfl hde_X13_trail_V_2 ⟨Nat.le_of_ble_eq_true rfl, Nat.le_of_ble_eq_true rfl⟩) (p_preV C hw hL9 hf8 rfl) rfl rfl hl.1 rfl (lv_room (Nat.le_of_ble_eq_true rfl)) dX13_trail_69 ⟨(Nat.le_of_ble_eq_true rfl), (Nat.le_of_ble_eq_true rfl)⟩) hw hA (fun r178 S177 H locs hpost hw => ?_)
            obtain ⟨hr_, hS179, hfr180, hf181⟩ := hpost
            subst hr_
            have hL182 : mm ∈ S177.1 := by rw [hS179]; exact List.mem_append_left _ hL9
            refine n_if_eq (tgt := 77) hx hb (by first | decide | omega) dX13_trail_72 (by decide) (fun h_72 => ?_) (fun h_72 => ?_)
            · exact absurd h_72 (by first | decide | omega)
            · skip
              refine lv_iconst (v := nI 0) hx hb dX13_trail_75 (by decide) ?_
              refine W.widen (k := 5) (n := 30) (Nat.le_of_ble_eq_true rfl) (Nat.le_of_ble_eq_true rfl) ?_
              exact (p_iret C hw ((Or.inr ⟨[], (by unfold okT; rw [hmm]; first | exact ⟨⟨by omega, by omega⟩, (okF_in1 hPW).mp (by omega), (okF_in1 hPW).mp (by omega), (okF_in hPW).mp (by omega)⟩ | exact (fun h => by have q1 := (okF_in1 hPW).mpr h.2.1; have q2 := (okF_in1 hPW).mpr h.2.2.1; have q3 := (okF_in hPW).mpr h.2.2.2; omega)), rfl, (by simp only [hS179, hS6, pup, pnew, List.append_nil, List.append_assoc, List.cons_append, List.nil_append]), (fun a_ ha_ hn_0 => ((hfr180 a_ (show a_ ∈ S4.1 from by rw [hS6]; exact List.mem_append_left _ ha_) hn_0).trans (hfr7 a_ ha_ hn_0))), hf181⟩)) hr hlocks dX13_trail_76)
          · exact absurd h_39 (by first | decide | omega)
      · exact absurd h_19 (by first | decide | omega)
    · exact absurd h_7 (by first | decide | omega)
  · skip
    obtain ⟨hc183, hr_, hS_⟩ := hpost
    subst hr_
    subst hS_
    refine n_if_ne (tgt := 14) hx hb (by first | decide | omega) dX13_trail_7 (by decide) (fun h_7 => ?_) (fun h_7 => ?_)
    · exact absurd h_7 (by first | decide | omega)
    · skip
      refine lv_iconst (v := nI 1) hx hb dX13_trail_10 (by decide) ?_
      refine lv_goto (tgt := 15) hx hb dX13_trail_11 (by decide) ?_
      refine lv_iconst (v := nI 1) hx hb dX13_trail_15 (by decide) ?_
      refine p_calli (va_runV (As := [.int (nI 1), .int (nI 1)]) (rest := []) C.fix (e_X13_start1 l D cy S H.size mm me sg cn im 1 0 hL_mm hf_mm (by first | assumption | decide | omega) (by first | assumption | decide | omega)) (cwV 2 C.2.2.2.2.1 (gU_V mw_397 mw_398 mw_399 mw_5 (subU mw_400)) rfl rfl rfl hde_X13_trail_V_1 ⟨Nat.le_of_ble_eq_true rfl, Nat.le_of_ble_eq_true rfl⟩) (p_preV C hw hL_mm hf_mm rfl) rfl rfl hl.1 rfl (lv_room (Nat.le_of_ble_eq_true rfl)) dX13_trail_16 ⟨(Nat.le_of_ble_eq_true rfl), (Nat.le_of_ble_eq_true rfl)⟩) hw hA (fun r185 S184 H locs hpost hw => ?_)
      obtain ⟨hr_, hS186, hfr187, hf188⟩ := hpost
      subst hr_
      have hL189 : mm ∈ S184.1 := by rw [hS186]; exact List.mem_append_left _ hL_mm
      refine n_if_eq (tgt := 24) hx hb (by first | decide | omega) dX13_trail_19 (by decide) (fun h_19 => ?_) (fun h_19 => ?_)
      · exact absurd h_19 (by first | decide | omega)
      · skip
        refine lv_iconst (v := nI 0) hx hb dX13_trail_22 (by decide) ?_
        refine W.widen (k := 5) (n := 30) (Nat.le_of_ble_eq_true rfl) (Nat.le_of_ble_eq_true rfl) ?_
        exact (p_iret C hw ((Or.inr ⟨[], (fun h => by have h1 := h.1; omega), rfl, (by simp only [hS186, pup, pnew, List.append_nil, List.append_assoc, List.cons_append, List.nil_append]), (fun a_ ha_ hn_0 => (hfr187 a_ ha_ hn_0)), hf188⟩)) hr hlocks dX13_trail_23)

theorem hde_X13_block_S_0 : yX13_isIn.cls ≠ "java/lang/invoke/MethodHandle" ∧ yX13_isIn.cls ≠ "java/lang/invoke/VarHandle" ∧ (parseMethodDescriptor yX13_isIn.desc).map (fun d => d.parameters.length) = some 3 := by decide +kernel
theorem hde_X13_block_V_1 : yX13_start.cls = RX13 ∧ yX13_start.cls ≠ "java/lang/invoke/MethodHandle" ∧ yX13_start.cls ≠ "java/lang/invoke/VarHandle" ∧ (parseMethodDescriptor yX13_start.desc).map (fun d => d.parameters.length) = some 2 := by decide +kernel
theorem hde_X13_block_V_2 : yX13_refuse.cls = RX13 ∧ yX13_refuse.cls ≠ "java/lang/invoke/MethodHandle" ∧ yX13_refuse.cls ≠ "java/lang/invoke/VarHandle" ∧ (parseMethodDescriptor yX13_refuse.desc).map (fun d => d.parameters.length) = some 2 := by decide +kernel
theorem hde_X13_block_V_3 : yX13_add.cls = RX13 ∧ yX13_add.cls ≠ "java/lang/invoke/MethodHandle" ∧ yX13_add.cls ≠ "java/lang/invoke/VarHandle" ∧ (parseMethodDescriptor yX13_add.desc).map (fun d => d.parameters.length) = some 1 := by decide +kernel
set_option maxHeartbeats 4000000 in
set_option maxRecDepth 100000 in
theorem e_X13_block (l : Launch) (D : va_G) (cy : Nat → ClassId) (ed : Nat) (S : pS) (sz : Nat) (mm : Nat) (me : Nat) (sg : Nat) (cn : Nat) (im : Nat) (k : Int32) (n : Int32) (a1 : Int32) (a2 : Int32) (a3 : Int32) (a4 : Int32) (hL_mm : mm ∈ S.1) (hf_mm : S.2 mm = .inr (13, [.int (nI 0), .ref me, .ref sg, .ref cn, .ref im])) (hL_me : me ∈ S.1) (hf_me : S.2 me = .inl (cy 0, 0, .inl (fun _ => 0))) (hL_sg : sg ∈ S.1) (hf_sg : S.2 sg = .inr (0, [.int (nI 0), .ref ed, .int (nI 0)]))  : Met l yX13_block (Cond.code yX13_block cX13_block 10 (some .int) :: lwU) ({ frames := 8, cells := 8, slots := 40, locals := 173 }) (ePc D cy ed S sz [.ref mm, .int k, .int n, .int a1, .int a2, .int a3, .int a4]) (pQi D cy S sz (fun r S' => (∃ (nl : List Nat), (okB6 k n a1 a2 a3 a4) ∧ r = (nI 0) ∧ S'.1 = S.1 ++ nl ∧ (∀ a_, a_ ∈ S.1 → a_ ≠ mm → a_ ≠ sg → S'.2 a_ = S.2 a_) ∧ S'.2 mm = .inr (13, [.int (nI 0), .ref me, .ref sg, .ref cn, .ref im])) ∨ (∃ (nl : List Nat), (¬ okB6 k n a1 a2 a3 a4) ∧ r = (nI 0) ∧ S'.1 = S.1 ++ nl ∧ (∀ a_, a_ ∈ S.1 → a_ ≠ mm → S'.2 a_ = S.2 a_) ∧ S'.2 mm = .inr (13, [.int (nI 1), .ref me, .ref sg, .ref cn, .ref im])))) 8 40 (pA S sz) := by
  refine Met.ofW (cc := cX13_block) (maxL := 10) (ret := (some .int)) (by decide) rfl ?_
  intro p e s m args below meth c s₁ B hml hv
  obtain ⟨rfl, rfl, C, hw, hA, hr, hlocks, hE⟩ := e_start B hml hv
  have hx := C.1
  have hb := C.2.1
  have hl := lv_entry ([.ref mm, .int k, .int n, .int a1, .int a2, .int a3, .int a4]) (n := 10) (Nat.le_of_ble_eq_true rfl)
  rw [lg_entry_eq]
  generalize (lg_sl ([.ref mm, .int k, .int n, .int a1, .int a2, .int a3, .int a4]) ++ List.replicate (10 - (lg_sl ([.ref mm, .int k, .int n, .int a1, .int a2, .int a3, .int a4])).length) Slot.unset).toArray = ls at hl ⊢
  have hl : lv_has ls 10 [(0, .ref mm), (1, .int k), (2, .int n), (3, .int a1), (4, .int a2), (5, .int a3), (6, .int a4)] := hl
  have hin_RX12 : ∀ w ∈ u_ws RX12 TX12 4, w ∈ (Cond.code yX13_block cX13_block 10 (some .int) :: lwU) := fun w h => mU (sub_RX12 w h)
  refine lv_aload_n hx hb dX13_block_0 rfl (lv_at hl 0 rfl) ?_
  refine lv_iload_n hx hb dX13_block_1 rfl (lv_at hl 1 rfl) ?_
  refine lv_iconst (v := nI 1) hx hb dX13_block_2 (by decide) ?_
  refine lv_iconst (v := nI 4) hx hb dX13_block_3 (by decide) ?_
  refine p_calli (va_runS (As := [.int k, .int (nI 1), .int (nI 4)]) (rest := [.ref mm]) C.fix (e_X13_isIn l D cy S s.heap.size k (nI 1) (nI 4) k.toInt ((1 : Nat) : Int) ((4 : Nat) : Int)  rfl (nI_toInt (by first | decide | omega)) (nI_toInt (by first | decide | omega))) (va_cwS 3 C.2.2.2.2.1 (gU_S mw_394 mw_395 mw_5 (subU mw_396)) rfl rfl rfl hde_X13_block_S_0 ⟨Nat.le_of_ble_eq_true rfl, Nat.le_of_ble_eq_true rfl⟩) (p_preS C hw) rfl rfl hl.1 rfl (lv_room (Nat.le_of_ble_eq_true rfl)) dX13_block_4 ⟨(Nat.le_of_ble_eq_true rfl), (Nat.le_of_ble_eq_true rfl)⟩) hw hA (fun r2 S1 H locs hpost hw => ?_)
  rcases hpost with hpost | hpost
  · skip
    obtain ⟨hc3, hr_, hS_⟩ := hpost
    subst hr_
    subst hS_
    refine n_if_eq (tgt := 20) hx hb (by first | decide | omega) dX13_block_7 (by decide) (fun h_7 => ?_) (fun h_7 => ?_)
    · exact absurd h_7 (by first | decide | omega)
    · skip
      refine lv_iload_n hx hb dX13_block_10 rfl (lv_at hl 2 rfl) ?_
      refine lv_iload_n hx hb dX13_block_11 rfl (lv_at hl 1 rfl) ?_
      refine lv_bipush (v := nI 10) hx hb dX13_block_12 (by decide) ?_
      refine p_calli (va_runS (As := [.int n, .int k, .int (nI 10)]) (rest := [.ref mm]) C.fix (e_X13_isIn l D cy S H.size n k (nI 10) n.toInt k.toInt ((10 : Nat) : Int)  rfl rfl (nI_toInt (by first | decide | omega))) (va_cwS 3 C.2.2.2.2.1 (gU_S mw_394 mw_395 mw_5 (subU mw_396)) rfl rfl rfl hde_X13_block_S_0 ⟨Nat.le_of_ble_eq_true rfl, Nat.le_of_ble_eq_true rfl⟩) (p_preS C hw) rfl rfl hl.1 rfl (lv_room (Nat.le_of_ble_eq_true rfl)) dX13_block_14 ⟨(Nat.le_of_ble_eq_true rfl), (Nat.le_of_ble_eq_true rfl)⟩) hw hA (fun r5 S4 H locs hpost hw => ?_)
      rcases hpost with hpost | hpost
      · skip
        obtain ⟨hc6, hr_, hS_⟩ := hpost
        subst hr_
        subst hS_
        refine n_if_ne (tgt := 24) hx hb (by first | decide | omega) dX13_block_17 (by decide) (fun h_17 => ?_) (fun h_17 => ?_)
        · skip
          refine lv_iconst (v := nI 0) hx hb dX13_block_24 (by decide) ?_
          refine lv_iconst (v := nI 1) hx hb dX13_block_25 (by decide) ?_
          refine p_calli (va_runV (As := [.int (nI 0), .int (nI 1)]) (rest := []) C.fix (e_X13_start0 l D cy S H.size mm me sg cn im 1 0 hL_mm hf_mm ) (cwV 2 C.2.2.2.2.1 (gU_V mw_397 mw_398 mw_399 mw_5 (subU mw_400)) rfl rfl rfl hde_X13_block_V_1 ⟨Nat.le_of_ble_eq_true rfl, Nat.le_of_ble_eq_true rfl⟩) (p_preV C hw hL_mm hf_mm rfl) rfl rfl hl.1 rfl (lv_room (Nat.le_of_ble_eq_true rfl)) dX13_block_26 ⟨(Nat.le_of_ble_eq_true rfl), (Nat.le_of_ble_eq_true rfl)⟩) hw hA (fun r8 S7 H locs hpost hw => ?_)
          obtain ⟨hr_, hS9, hfr10, hf11⟩ := hpost
          subst hr_
          have hL12 : mm ∈ S7.1 := by rw [hS9]; exact List.mem_append_left _ hL_mm
          refine n_if_eq (tgt := 34) hx hb (by first | decide | omega) dX13_block_29 (by decide) (fun h_29 => ?_) (fun h_29 => ?_)
          · skip
            obtain ⟨kN, hk31, rfl, hki⟩ := z_nat (x := k) (by omega)
            obtain ⟨nN, hn31, rfl, hni⟩ := z_nat (x := n) (by omega)
            have hn16 : nN ≤ 10 := by omega
            obtain ⟨PW, hPW⟩ : ∃ z : Nat, z = 2 ^ nN := ⟨_, rfl⟩
            have hp1 : 1 ≤ PW := by rw [hPW]; exact Nat.one_le_two_pow
            have hp16 : PW ≤ 1024 := by rw [hPW]; exact Nat.pow_le_pow_right (n := 2) (j := 10) (by decide) (by omega)
            have hnn : (nI nN).toInt.toNat = nN := by rw [hni]; rfl
            refine lv_iconst (v := nI 4) hx hb dX13_block_34 (by decide) ?_
            refine p_newa C hw hA (mU mw_59) 0 rfl (n := 4) (by first | decide | omega) (Nat.le_of_ble_eq_true rfl) (Nat.le_of_ble_eq_true rfl) dX13_block_35 (fun na13 H hq_na13 hw => ?_)
            obtain ⟨S14, hS14⟩ : ∃ z, z = pnew S7 na13 (.inl (cy 0, 4, .inl (fun _ => 0))) := ⟨_, rfl⟩
            replace hw : pW D (pA S s.heap.size) s.heap S14 H locs := by rw [hS14]; exact hw
            have hL15 : na13 ∈ S14.1 := by rw [hS14]; exact List.mem_append_right _ List.mem_cons_self
            have hf16 : S14.2 na13 = .inl (cy 0, 4, .inl (fun _ => 0)) := by rw [hS14]; exact pnew_s
            refine lv_dup hx hb dX13_block_37 rfl ?_
            refine lv_iconst (v := nI 0) hx hb dX13_block_38 (by decide) ?_
            refine lv_iload_n hx hb dX13_block_39 rfl (lv_at hl 3 rfl) ?_
            refine p_ast C hw 0 rfl hL15 hf16 (by first | decide | omega) (by first | decide | omega) dX13_block_40 (fun H locs hw => ?_)
            obtain ⟨S17, hS17⟩ : ∃ z, z = pup S14 na13 (.inl (cy 0, 4, .inl (upd (fun _ => 0) 0 a1))) := ⟨_, rfl⟩
            replace hw : pW D (pA S s.heap.size) s.heap S17 H locs := by rw [hS17]; exact hw
            have hL18 : na13 ∈ S17.1 := by rw [hS17]; exact hL15
            have hf19 : S17.2 na13 = .inl (cy 0, 4, .inl (upd (fun _ => 0) 0 a1)) := by rw [hS17]; exact pup_s
            refine lv_dup hx hb dX13_block_41 rfl ?_
            refine lv_iconst (v := nI 1) hx hb dX13_block_42 (by decide) ?_
            refine lv_iload hx hb dX13_block_43 (lv_at hl 4 rfl) ?_
            refine p_ast C hw 0 rfl hL18 hf19 (by first | decide | omega) (by first | decide | omega) dX13_block_45 (fun H locs hw => ?_)
            obtain ⟨S20, hS20⟩ : ∃ z, z = pup S17 na13 (.inl (cy 0, 4, .inl (upd (upd (fun _ => 0) 0 a1) 1 a2))) := ⟨_, rfl⟩
            replace hw : pW D (pA S s.heap.size) s.heap S20 H locs := by rw [hS20]; exact hw
            have hL21 : na13 ∈ S20.1 := by rw [hS20]; exact hL18
            have hf22 : S20.2 na13 = .inl (cy 0, 4, .inl (upd (upd (fun _ => 0) 0 a1) 1 a2)) := by rw [hS20]; exact pup_s
            refine lv_dup hx hb dX13_block_46 rfl ?_
            refine lv_iconst (v := nI 2) hx hb dX13_block_47 (by decide) ?_
            refine lv_iload hx hb dX13_block_48 (lv_at hl 5 rfl) ?_
            refine p_ast C hw 0 rfl hL21 hf22 (by first | decide | omega) (by first | decide | omega) dX13_block_50 (fun H locs hw => ?_)
            obtain ⟨S23, hS23⟩ : ∃ z, z = pup S20 na13 (.inl (cy 0, 4, .inl (upd (upd (upd (fun _ => 0) 0 a1) 1 a2) 2 a3))) := ⟨_, rfl⟩
            replace hw : pW D (pA S s.heap.size) s.heap S23 H locs := by rw [hS23]; exact hw
            have hL24 : na13 ∈ S23.1 := by rw [hS23]; exact hL21
            have hf25 : S23.2 na13 = .inl (cy 0, 4, .inl (upd (upd (upd (fun _ => 0) 0 a1) 1 a2) 2 a3)) := by rw [hS23]; exact pup_s
            refine lv_dup hx hb dX13_block_51 rfl ?_
            refine lv_iconst (v := nI 3) hx hb dX13_block_52 (by decide) ?_
            refine lv_iload hx hb dX13_block_53 (lv_at hl 6 rfl) ?_
            refine p_ast C hw 0 rfl hL24 hf25 (by first | decide | omega) (by first | decide | omega) dX13_block_55 (fun H locs hw => ?_)
            obtain ⟨S26, hS26⟩ : ∃ z, z = pup S23 na13 (.inl (cy 0, 4, .inl (upd (upd (upd (upd (fun _ => 0) 0 a1) 1 a2) 2 a3) 3 a4))) := ⟨_, rfl⟩
            replace hw : pW D (pA S s.heap.size) s.heap S26 H locs := by rw [hS26]; exact hw
            have hL27 : na13 ∈ S26.1 := by rw [hS26]; exact hL24
            have hf28 : S26.2 na13 = .inl (cy 0, 4, .inl (upd (upd (upd (upd (fun _ => 0) 0 a1) 1 a2) 2 a3) 3 a4)) := by rw [hS26]; exact pup_s
            refine lv_astore (lv' := [(7, .ref na13), (0, .ref mm), (1, .int (nI kN)), (2, .int (nI nN)), (3, .int a1), (4, .int a2), (5, .int a3), (6, .int a4)]) hx hb dX13_block_56 hl (by decide) rfl (fun ls hl => ?_)
            rcases (show kN = 1 ∨ kN = 2 ∨ kN = 3 ∨ kN = 4 by omega) with rfl | rfl | rfl | rfl
            · skip
              refine lv_iload_n hx hb dX13_block_58 rfl (lv_at hl 2 rfl) ?_
              refine p_newa C hw hA (mU mw_59) 0 rfl (n := 1) (by first | decide | omega) (Nat.le_of_ble_eq_true rfl) (Nat.le_of_ble_eq_true rfl) dX13_block_59 (fun na29 H hq_na29 hw => ?_)
              obtain ⟨S30, hS30⟩ : ∃ z, z = pnew S26 na29 (.inl (cy 0, 1, .inl (fun _ => 0))) := ⟨_, rfl⟩
              replace hw : pW D (pA S s.heap.size) s.heap S30 H locs := by rw [hS30]; exact hw
              have hL31 : na29 ∈ S30.1 := by rw [hS30]; exact List.mem_append_right _ List.mem_cons_self
              have hf32 : S30.2 na29 = .inl (cy 0, 1, .inl (fun _ => 0)) := by rw [hS30]; exact pnew_s
              refine lv_astore (lv' := [(8, .ref na29), (7, .ref na13), (0, .ref mm), (1, .int (nI 1)), (2, .int (nI nN)), (3, .int a1), (4, .int a2), (5, .int a3), (6, .int a4)]) hx hb dX13_block_61 hl (by decide) rfl (fun ls hl => ?_)
              refine lv_iconst (v := nI 0) hx hb dX13_block_63 (by decide) ?_
              refine lv_istore (lv' := [(9, .int (nI 0)), (8, .ref na29), (7, .ref na13), (0, .ref mm), (1, .int (nI 1)), (2, .int (nI nN)), (3, .int a1), (4, .int a2), (5, .int a3), (6, .int a4)]) hx hb dX13_block_64 hl (by decide) rfl (fun ls hl => ?_)
              refine lv_iload hx hb dX13_block_66 (lv_at hl 0 rfl) ?_
              refine lv_iload_n hx hb dX13_block_68 rfl (lv_at hl 4 rfl) ?_
              refine n_icmp_ge (tgt := 120) hx hb (by first | decide | omega) (by first | decide | omega) dX13_block_69 (by decide) (fun h_69 => ?_) (fun h_69 => ?_)
              · exact absurd h_69 (by first | decide | omega)
              · skip
                refine lv_aload_n hx hb dX13_block_72 rfl (lv_at hl 3 rfl) ?_
                refine lv_aload hx hb dX13_block_73 (lv_at hl 2 rfl) ?_
                refine lv_iload hx hb dX13_block_75 (lv_at hl 0 rfl) ?_
                have hL33 : na13 ∈ S30.1 := by rw [hS30]; exact List.mem_append_left _ hL27
                have hf34 : S30.2 na13 = .inl (cy 0, 4, .inl (upd (upd (upd (upd (fun _ => 0) 0 a1) 1 a2) 2 a3) 3 a4)) := by rw [hS30]; exact (pnew_n (fun z : na13 = na29 => hq_na29 (by rw [← z]; exact hL27))).trans hf28
                refine p_ald C hw 0 rfl hL33 hf34 (by first | decide | omega) (by first | decide | omega) dX13_block_77 ?_
                refine x_ren (b := a1) rfl ?_
                refine lv_iconst (v := nI 0) hx hb dX13_block_78 (by decide) ?_
                refine lv_iconst (v := nI 1) hx hb dX13_block_79 (by decide) ?_
                refine lv_iload_n hx hb dX13_block_80 rfl (lv_at hl 5 rfl) ?_
                refine n_ishl hx hb (by omega) (by rw [← hPW]; omega) dX13_block_81 ?_
                refine n_ren (b := PW) (by rw [hPW, Nat.one_mul]) ?_
                refine lv_iconst (v := nI 1) hx hb dX13_block_82 (by decide) ?_
                refine n_isub hx hb (by first | decide | omega) dX13_block_83 ?_
                refine p_calli (va_runS (As := [.int a1, .int (nI 0), .int (nI (PW - 1))]) (rest := [.ref mm]) C.fix (e_X13_isIn l D cy S30 H.size a1 (nI 0) (nI (PW - 1)) a1.toInt ((0 : Nat) : Int) ((PW - 1 : Nat) : Int)  rfl (nI_toInt (by first | decide | omega)) (nI_toInt (show PW - 1 < 2 ^ 31 by omega))) (va_cwS 3 C.2.2.2.2.1 (gU_S mw_394 mw_395 mw_5 (subU mw_396)) rfl rfl rfl hde_X13_block_S_0 ⟨Nat.le_of_ble_eq_true rfl, Nat.le_of_ble_eq_true rfl⟩) (p_preS C hw) rfl rfl hl.1 rfl (lv_room (Nat.le_of_ble_eq_true rfl)) dX13_block_84 ⟨(Nat.le_of_ble_eq_true rfl), (Nat.le_of_ble_eq_true rfl)⟩) hw hA (fun r36 S35 H locs hpost hw => ?_)
                rcases hpost with hpost | hpost
                · skip
                  obtain ⟨hc37, hr_, hS_⟩ := hpost
                  subst hr_
                  subst hS_
                  refine n_if_ne (tgt := 94) hx hb (by first | decide | omega) dX13_block_87 (by decide) (fun h_87 => ?_) (fun h_87 => ?_)
                  · skip
                    refine lv_iconst (v := nI 0) hx hb dX13_block_94 (by decide) ?_
                    refine lv_iconst (v := nI 1) hx hb dX13_block_95 (by decide) ?_
                    have hL38 : mm ∈ S14.1 := by rw [hS14]; exact List.mem_append_left _ hL12
                    have hf39 : S14.2 mm = .inr (13, [.int (nI 0), .ref me, .ref sg, .ref cn, .ref im]) := by rw [hS14]; exact (pnew_n (fun z : mm = na13 => hq_na13 (by rw [← z]; exact hL12))).trans hf11
                    have hL40 : mm ∈ S17.1 := by rw [hS17]; exact hL38
                    have hf41 : S17.2 mm = .inr (13, [.int (nI 0), .ref me, .ref sg, .ref cn, .ref im]) := by rw [hS17]; exact (pup_n (fun z : mm = na13 => hq_na13 (by rw [← z]; exact hL12))).trans hf39
                    have hL42 : mm ∈ S20.1 := by rw [hS20]; exact hL40
                    have hf43 : S20.2 mm = .inr (13, [.int (nI 0), .ref me, .ref sg, .ref cn, .ref im]) := by rw [hS20]; exact (pup_n (fun z : mm = na13 => hq_na13 (by rw [← z]; exact hL12))).trans hf41
                    have hL44 : mm ∈ S23.1 := by rw [hS23]; exact hL42
                    have hf45 : S23.2 mm = .inr (13, [.int (nI 0), .ref me, .ref sg, .ref cn, .ref im]) := by rw [hS23]; exact (pup_n (fun z : mm = na13 => hq_na13 (by rw [← z]; exact hL12))).trans hf43
                    have hL46 : mm ∈ S26.1 := by rw [hS26]; exact hL44
                    have hf47 : S26.2 mm = .inr (13, [.int (nI 0), .ref me, .ref sg, .ref cn, .ref im]) := by rw [hS26]; exact (pup_n (fun z : mm = na13 => hq_na13 (by rw [← z]; exact hL12))).trans hf45
                    have hL48 : mm ∈ S30.1 := by rw [hS30]; exact List.mem_append_left _ hL46
                    have hf49 : S30.2 mm = .inr (13, [.int (nI 0), .ref me, .ref sg, .ref cn, .ref im]) := by rw [hS30]; exact (pnew_n (fun z : mm = na29 => hq_na29 (by rw [← z]; exact hL46))).trans hf47
                    refine p_calli (va_runV (As := [.int (nI 0), .int (nI 1)]) (rest := []) C.fix (e_X13_refuse0 l D cy S30 H.size mm me sg cn im 1 hL48 hf49 ) (cwV 2 C.2.2.2.2.1 (gU_V mw_402 mw_403 mw_404 mw_5 (subU mw_405)) rfl rfl rfl hde_X13_block_V_2 ⟨Nat.le_of_ble_eq_true rfl, Nat.le_of_ble_eq_true rfl⟩) (p_preV C hw hL48 hf49 rfl) rfl rfl hl.1 rfl (lv_room (Nat.le_of_ble_eq_true rfl)) dX13_block_96 ⟨(Nat.le_of_ble_eq_true rfl), (Nat.le_of_ble_eq_true rfl)⟩) hw hA (fun r51 S50 H locs hpost hw => ?_)
                    obtain ⟨hr_, hS_⟩ := hpost
                    subst hr_
                    subst hS_
                    refine n_if_eq (tgt := 104) hx hb (by first | decide | omega) dX13_block_99 (by decide) (fun h_99 => ?_) (fun h_99 => ?_)
                    · skip
                      refine lv_aload hx hb dX13_block_104 (lv_at hl 1 rfl) ?_
                      refine lv_iload hx hb dX13_block_106 (lv_at hl 0 rfl) ?_
                      refine lv_aload hx hb dX13_block_108 (lv_at hl 2 rfl) ?_
                      refine lv_iload hx hb dX13_block_110 (lv_at hl 0 rfl) ?_
                      refine p_ald C hw 0 rfl hL33 hf34 (by first | decide | omega) (by first | decide | omega) dX13_block_112 ?_
                      refine x_ren (b := a1) rfl ?_
                      refine p_ast C hw 0 rfl hL31 hf32 (by first | decide | omega) (by first | decide | omega) dX13_block_113 (fun H locs hw => ?_)
                      obtain ⟨S52, hS52⟩ : ∃ z, z = pup S30 na29 (.inl (cy 0, 1, .inl (upd (fun _ => 0) 0 a1))) := ⟨_, rfl⟩
                      replace hw : pW D (pA S s.heap.size) s.heap S52 H locs := by rw [hS52]; exact hw
                      have hL53 : na29 ∈ S52.1 := by rw [hS52]; exact hL31
                      have hf54 : S52.2 na29 = .inl (cy 0, 1, .inl (upd (fun _ => 0) 0 a1)) := by rw [hS52]; exact pup_s
                      refine lv_iinc (v := (nI 1)) (lv' := [(9, .int (nI 1)), (8, .ref na29), (7, .ref na13), (0, .ref mm), (1, .int (nI 1)), (2, .int (nI nN)), (3, .int a1), (4, .int a2), (5, .int a3), (6, .int a4)]) hx hb dX13_block_114 hl (k := 0) rfl (by decide) (by decide) rfl (fun ls hl => ?_)
                      refine lv_goto (tgt := 66) hx hb dX13_block_117 (by decide) ?_
                      refine lv_iload hx hb dX13_block_66 (lv_at hl 0 rfl) ?_
                      refine lv_iload_n hx hb dX13_block_68 rfl (lv_at hl 4 rfl) ?_
                      refine n_icmp_ge (tgt := 120) hx hb (by first | decide | omega) (by first | decide | omega) dX13_block_69 (by decide) (fun h_69 => ?_) (fun h_69 => ?_)
                      · skip
                        refine lv_aload_n hx hb dX13_block_120 rfl (lv_at hl 3 rfl) ?_
                        refine p_new C hw hA (ci := 12) (Cn := RX12) (T := TX12) (N := 4) (fs := [.int (nI 0), .int (nI 0), .int (nI 0), .null]) tyX12 tyX12_ok rfl hin_RX12 (mU mw_418) (mU mw_590) (mU mw_407) (fun j hj => by rcases (show j = 0 ∨ j = 1 ∨ j = 2 ∨ j = 3 by omega) with rfl | rfl | rfl | rfl <;> rfl) (Nat.le_of_ble_eq_true rfl) (Nat.le_of_ble_eq_true rfl) dX13_block_121 (fun nq55 H hq_nq55 hw => ?_)
                        obtain ⟨S56, hS56⟩ : ∃ z, z = pnew S52 nq55 (.inr (12, [.int (nI 0), .int (nI 0), .int (nI 0), .null])) := ⟨_, rfl⟩
                        replace hw : pW D (pA S s.heap.size) s.heap S56 H locs := by rw [hS56]; exact hw
                        have hL57 : nq55 ∈ S56.1 := by rw [hS56]; exact List.mem_append_right _ List.mem_cons_self
                        have hf58 : S56.2 nq55 = .inr (12, [.int (nI 0), .int (nI 0), .int (nI 0), .null]) := by rw [hS56]; exact pnew_s
                        refine lv_dup hx hb dX13_block_124 rfl ?_
                        refine lv_iconst (v := nI 1) hx hb dX13_block_125 (by decide) ?_
                        refine lv_iload_n hx hb dX13_block_126 rfl (lv_at hl 4 rfl) ?_
                        refine lv_iload_n hx hb dX13_block_127 rfl (lv_at hl 5 rfl) ?_
                        refine lv_aload hx hb dX13_block_128 (lv_at hl 1 rfl) ?_
                        refine p_callv (va_runI (As := [.int (nI 1), .int (nI 1), .int (nI nN), .ref na29]) (rest := [.ref nq55, .ref mm]) C.fix (e_X12_init l D cy S56 H.size nq55 na29 1 1 nN hL57 hf58 ) (cwI 4 C.2.2.2.2.1 (gU_sub (subU mw_593)) rfl rfl rfl (C.2.2.2.2.1 (.initialized RX12) (mU mw_407)) (C.2.2.2.2.1 (.methodLink RX13 127 yX12_init) (mU mw_591)) (C.2.2.2.2.1 (.instanceMethod yX12_init) (mU mw_592)) rfl (by decide +kernel) ⟨Nat.le_of_ble_eq_true rfl, Nat.le_of_ble_eq_true rfl⟩) (p_preS C hw) rfl rfl hl.1 rfl (lv_room (Nat.le_of_ble_eq_true rfl)) dX13_block_130 ⟨(Nat.le_of_ble_eq_true rfl), (Nat.le_of_ble_eq_true rfl)⟩) hw hA (fun S59 H locs hpost hw => ?_)
                        obtain ⟨hS61, hfr62, hf63⟩ := hpost
                        have hL64 : nq55 ∈ S59.1 := by rw [hS61]; exact List.mem_append_left _ hL57
                        have hL65 : mm ∈ S52.1 := by rw [hS52]; exact hL48
                        have hf66 : S52.2 mm = .inr (13, [.int (nI 0), .ref me, .ref sg, .ref cn, .ref im]) := by rw [hS52]; exact (pup_n (fun z : mm = na29 => hq_na29 (by rw [← z]; exact hL46))).trans hf49
                        have hL67 : mm ∈ S56.1 := by rw [hS56]; exact List.mem_append_left _ hL65
                        have hf68 : S56.2 mm = .inr (13, [.int (nI 0), .ref me, .ref sg, .ref cn, .ref im]) := by rw [hS56]; exact (pnew_n (fun z : mm = nq55 => hq_nq55 (by rw [← z]; exact hL65))).trans hf66
                        have hL69 : mm ∈ S59.1 := by rw [hS61]; exact List.mem_append_left _ hL67
                        have hf70 : S59.2 mm = .inr (13, [.int (nI 0), .ref me, .ref sg, .ref cn, .ref im]) := (hfr62 mm hL67 (fun z : mm = nq55 => hq_nq55 (by rw [← z]; exact hL65))).trans hf68
                        have hL71 : me ∈ S7.1 := by rw [hS9]; exact List.mem_append_left _ hL_me
                        have hf72 : S7.2 me = .inl (cy 0, 0, .inl (fun _ => 0)) := (hfr10 me hL_me (ne_cells hf_me hf_mm (by nofun))).trans hf_me
                        have hL73 : me ∈ S14.1 := by rw [hS14]; exact List.mem_append_left _ hL71
                        have hf74 : S14.2 me = .inl (cy 0, 0, .inl (fun _ => 0)) := by rw [hS14]; exact (pnew_n (fun z : me = na13 => hq_na13 (by rw [← z]; exact hL71))).trans hf72
                        have hL75 : me ∈ S17.1 := by rw [hS17]; exact hL73
                        have hf76 : S17.2 me = .inl (cy 0, 0, .inl (fun _ => 0)) := by rw [hS17]; exact (pup_n (fun z : me = na13 => hq_na13 (by rw [← z]; exact hL71))).trans hf74
                        have hL77 : me ∈ S20.1 := by rw [hS20]; exact hL75
                        have hf78 : S20.2 me = .inl (cy 0, 0, .inl (fun _ => 0)) := by rw [hS20]; exact (pup_n (fun z : me = na13 => hq_na13 (by rw [← z]; exact hL71))).trans hf76
                        have hL79 : me ∈ S23.1 := by rw [hS23]; exact hL77
                        have hf80 : S23.2 me = .inl (cy 0, 0, .inl (fun _ => 0)) := by rw [hS23]; exact (pup_n (fun z : me = na13 => hq_na13 (by rw [← z]; exact hL71))).trans hf78
                        have hL81 : me ∈ S26.1 := by rw [hS26]; exact hL79
                        have hf82 : S26.2 me = .inl (cy 0, 0, .inl (fun _ => 0)) := by rw [hS26]; exact (pup_n (fun z : me = na13 => hq_na13 (by rw [← z]; exact hL71))).trans hf80
                        have hL83 : me ∈ S30.1 := by rw [hS30]; exact List.mem_append_left _ hL81
                        have hf84 : S30.2 me = .inl (cy 0, 0, .inl (fun _ => 0)) := by rw [hS30]; exact (pnew_n (fun z : me = na29 => hq_na29 (by rw [← z]; exact hL81))).trans hf82
                        have hL85 : me ∈ S52.1 := by rw [hS52]; exact hL83
                        have hf86 : S52.2 me = .inl (cy 0, 0, .inl (fun _ => 0)) := by rw [hS52]; exact (pup_n (fun z : me = na29 => hq_na29 (by rw [← z]; exact hL81))).trans hf84
                        have hL87 : me ∈ S56.1 := by rw [hS56]; exact List.mem_append_left _ hL85
                        have hf88 : S56.2 me = .inl (cy 0, 0, .inl (fun _ => 0)) := by rw [hS56]; exact (pnew_n (fun z : me = nq55 => hq_nq55 (by rw [← z]; exact hL85))).trans hf86
                        have hL89 : me ∈ S59.1 := by rw [hS61]; exact List.mem_append_left _ hL87
                        have hf90 : S59.2 me = .inl (cy 0, 0, .inl (fun _ => 0)) := (hfr62 me hL87 (fun z : me = nq55 => hq_nq55 (by rw [← z]; exact hL85))).trans hf88
                        have hL91 : sg ∈ S7.1 := by rw [hS9]; exact List.mem_append_left _ hL_sg
                        have hf92 : S7.2 sg = .inr (0, [.int (nI 0), .ref ed, .int (nI 0)]) := (hfr10 sg hL_sg (ne_cells hf_sg hf_mm (by nofun))).trans hf_sg
                        have hL93 : sg ∈ S14.1 := by rw [hS14]; exact List.mem_append_left _ hL91
                        have hf94 : S14.2 sg = .inr (0, [.int (nI 0), .ref ed, .int (nI 0)]) := by rw [hS14]; exact (pnew_n (fun z : sg = na13 => hq_na13 (by rw [← z]; exact hL91))).trans hf92
                        have hL95 : sg ∈ S17.1 := by rw [hS17]; exact hL93
                        have hf96 : S17.2 sg = .inr (0, [.int (nI 0), .ref ed, .int (nI 0)]) := by rw [hS17]; exact (pup_n (fun z : sg = na13 => hq_na13 (by rw [← z]; exact hL91))).trans hf94
                        have hL97 : sg ∈ S20.1 := by rw [hS20]; exact hL95
                        have hf98 : S20.2 sg = .inr (0, [.int (nI 0), .ref ed, .int (nI 0)]) := by rw [hS20]; exact (pup_n (fun z : sg = na13 => hq_na13 (by rw [← z]; exact hL91))).trans hf96
                        have hL99 : sg ∈ S23.1 := by rw [hS23]; exact hL97
                        have hf100 : S23.2 sg = .inr (0, [.int (nI 0), .ref ed, .int (nI 0)]) := by rw [hS23]; exact (pup_n (fun z : sg = na13 => hq_na13 (by rw [← z]; exact hL91))).trans hf98
                        have hL101 : sg ∈ S26.1 := by rw [hS26]; exact hL99
                        have hf102 : S26.2 sg = .inr (0, [.int (nI 0), .ref ed, .int (nI 0)]) := by rw [hS26]; exact (pup_n (fun z : sg = na13 => hq_na13 (by rw [← z]; exact hL91))).trans hf100
                        have hL103 : sg ∈ S30.1 := by rw [hS30]; exact List.mem_append_left _ hL101
                        have hf104 : S30.2 sg = .inr (0, [.int (nI 0), .ref ed, .int (nI 0)]) := by rw [hS30]; exact (pnew_n (fun z : sg = na29 => hq_na29 (by rw [← z]; exact hL101))).trans hf102
                        have hL105 : sg ∈ S52.1 := by rw [hS52]; exact hL103
                        have hf106 : S52.2 sg = .inr (0, [.int (nI 0), .ref ed, .int (nI 0)]) := by rw [hS52]; exact (pup_n (fun z : sg = na29 => hq_na29 (by rw [← z]; exact hL101))).trans hf104
                        have hL107 : sg ∈ S56.1 := by rw [hS56]; exact List.mem_append_left _ hL105
                        have hf108 : S56.2 sg = .inr (0, [.int (nI 0), .ref ed, .int (nI 0)]) := by rw [hS56]; exact (pnew_n (fun z : sg = nq55 => hq_nq55 (by rw [← z]; exact hL105))).trans hf106
                        have hL109 : sg ∈ S59.1 := by rw [hS61]; exact List.mem_append_left _ hL107
                        have hf110 : S59.2 sg = .inr (0, [.int (nI 0), .ref ed, .int (nI 0)]) := (hfr62 sg hL107 (fun z : sg = nq55 => hq_nq55 (by rw [← z]; exact hL105))).trans hf108
                        refine p_calli (va_runV (As := [.ref nq55]) (rest := []) C.fix (e_X13_addblk l D cy ed S59 H.size mm nq55 me sg cn im na29 1 nN hL69 hf70 hL89 hf90 hL109 hf110 hL64 hf63 (by first | assumption | decide | omega) (by first | assumption | decide | omega)) (cwV 1 C.2.2.2.2.1 (gU_V mw_595 mw_596 mw_597 mw_5 (subU mw_598)) rfl rfl rfl hde_X13_block_V_3 ⟨Nat.le_of_ble_eq_true rfl, Nat.le_of_ble_eq_true rfl⟩) (e_preV C hw hA hE hL69 hf70 rfl) rfl rfl hl.1 rfl (lv_room (Nat.le_of_ble_eq_true rfl)) dX13_block_133 ⟨(Nat.le_of_ble_eq_true rfl), (Nat.le_of_ble_eq_true rfl)⟩) hw hA (fun r112 S111 H locs hpost hw => ?_)
                        obtain ⟨nl113, hr_, hS114, hfr115⟩ := hpost
                        subst hr_
                        refine W.widen (k := 8) (n := 40) (Nat.le_of_ble_eq_true rfl) (Nat.le_of_ble_eq_true rfl) ?_
                        have hL116 : mm ∈ S111.1 := by rw [hS114]; exact List.mem_append_left _ hL69
                        have hf117 : S111.2 mm = .inr (13, [.int (nI 0), .ref me, .ref sg, .ref cn, .ref im]) := (hfr115 mm hL69 (ne_cells hf70 hf110 (by nofun))).trans hf70
                        exact (p_iret C hw ((Or.inl ⟨([na13] ++ [na29] ++ [nq55] ++ nl113), (by unfold okB6; rw [hnn]; first | exact ⟨⟨by omega, by omega⟩, ⟨by omega, by omega⟩, (okF_in hPW).mp (by omega), (fun q => (okF_in hPW).mp (by omega)), (fun q => (okF_in hPW).mp (by omega)), (fun q => (okF_in hPW).mp (by omega))⟩ | exact (fun h => by have q1 := (okF_in hPW).mpr h.2.2.1; omega) | exact (fun h => by have q1 := (okF_in hPW).mpr (h.2.2.2.1 (by omega)); omega) | exact (fun h => by have q1 := (okF_in hPW).mpr (h.2.2.2.2.1 (by omega)); omega) | exact (fun h => by have q1 := (okF_in hPW).mpr (h.2.2.2.2.2 (by omega)); omega)), rfl, (by simp only [hS114, hS61, hS56, hS52, hS30, hS26, hS23, hS20, hS17, hS14, hS9, pup, pnew, List.append_nil, List.append_assoc, List.cons_append, List.nil_append]), (fun a_ ha_ hn_0 hn_1 => ((hfr115 a_ (show a_ ∈ S59.1 from by rw [hS61]; exact List.mem_append_left _ (show a_ ∈ S56.1 from by rw [hS56]; exact List.mem_append_left _ (show a_ ∈ S52.1 from by rw [hS52]; exact (show a_ ∈ S30.1 from by rw [hS30]; exact List.mem_append_left _ (show a_ ∈ S26.1 from by rw [hS26]; exact (show a_ ∈ S23.1 from by rw [hS23]; exact (show a_ ∈ S20.1 from by rw [hS20]; exact (show a_ ∈ S17.1 from by rw [hS17]; exact (show a_ ∈ S14.1 from by rw [hS14]; exact List.mem_append_left _ (show a_ ∈ S7.1 from by rw [hS9]; exact List.mem_append_left _ ha_)))))))))) hn_1).trans ((hfr62 a_ (show a_ ∈ S56.1 from by rw [hS56]; exact List.mem_append_left _ (show a_ ∈ S52.1 from by rw [hS52]; exact (show a_ ∈ S30.1 from by rw [hS30]; exact List.mem_append_left _ (show a_ ∈ S26.1 from by rw [hS26]; exact (show a_ ∈ S23.1 from by rw [hS23]; exact (show a_ ∈ S20.1 from by rw [hS20]; exact (show a_ ∈ S17.1 from by rw [hS17]; exact (show a_ ∈ S14.1 from by rw [hS14]; exact List.mem_append_left _ (show a_ ∈ S7.1 from by rw [hS9]; exact List.mem_append_left _ ha_))))))))) (fun z : a_ = nq55 => hq_nq55 (by rw [← z]; exact (show a_ ∈ S52.1 from by rw [hS52]; exact (show a_ ∈ S30.1 from by rw [hS30]; exact List.mem_append_left _ (show a_ ∈ S26.1 from by rw [hS26]; exact (show a_ ∈ S23.1 from by rw [hS23]; exact (show a_ ∈ S20.1 from by rw [hS20]; exact (show a_ ∈ S17.1 from by rw [hS17]; exact (show a_ ∈ S14.1 from by rw [hS14]; exact List.mem_append_left _ (show a_ ∈ S7.1 from by rw [hS9]; exact List.mem_append_left _ ha_))))))))))).trans ((show S56.2 a_ = S52.2 a_ from by rw [hS56]; exact pnew_n (fun z : a_ = nq55 => hq_nq55 (by rw [← z]; exact (show a_ ∈ S52.1 from by rw [hS52]; exact (show a_ ∈ S30.1 from by rw [hS30]; exact List.mem_append_left _ (show a_ ∈ S26.1 from by rw [hS26]; exact (show a_ ∈ S23.1 from by rw [hS23]; exact (show a_ ∈ S20.1 from by rw [hS20]; exact (show a_ ∈ S17.1 from by rw [hS17]; exact (show a_ ∈ S14.1 from by rw [hS14]; exact List.mem_append_left _ (show a_ ∈ S7.1 from by rw [hS9]; exact List.mem_append_left _ ha_))))))))))).trans ((show S52.2 a_ = S30.2 a_ from by rw [hS52]; exact pup_n (fun z : a_ = na29 => hq_na29 (by rw [← z]; exact (show a_ ∈ S26.1 from by rw [hS26]; exact (show a_ ∈ S23.1 from by rw [hS23]; exact (show a_ ∈ S20.1 from by rw [hS20]; exact (show a_ ∈ S17.1 from by rw [hS17]; exact (show a_ ∈ S14.1 from by rw [hS14]; exact List.mem_append_left _ (show a_ ∈ S7.1 from by rw [hS9]; exact List.mem_append_left _ ha_))))))))).trans ((show S30.2 a_ = S26.2 a_ from by rw [hS30]; exact pnew_n (fun z : a_ = na29 => hq_na29 (by rw [← z]; exact (show a_ ∈ S26.1 from by rw [hS26]; exact (show a_ ∈ S23.1 from by rw [hS23]; exact (show a_ ∈ S20.1 from by rw [hS20]; exact (show a_ ∈ S17.1 from by rw [hS17]; exact (show a_ ∈ S14.1 from by rw [hS14]; exact List.mem_append_left _ (show a_ ∈ S7.1 from by rw [hS9]; exact List.mem_append_left _ ha_))))))))).trans ((show S26.2 a_ = S23.2 a_ from by rw [hS26]; exact pup_n (fun z : a_ = na13 => hq_na13 (by rw [← z]; exact (show a_ ∈ S7.1 from by rw [hS9]; exact List.mem_append_left _ ha_)))).trans ((show S23.2 a_ = S20.2 a_ from by rw [hS23]; exact pup_n (fun z : a_ = na13 => hq_na13 (by rw [← z]; exact (show a_ ∈ S7.1 from by rw [hS9]; exact List.mem_append_left _ ha_)))).trans ((show S20.2 a_ = S17.2 a_ from by rw [hS20]; exact pup_n (fun z : a_ = na13 => hq_na13 (by rw [← z]; exact (show a_ ∈ S7.1 from by rw [hS9]; exact List.mem_append_left _ ha_)))).trans ((show S17.2 a_ = S14.2 a_ from by rw [hS17]; exact pup_n (fun z : a_ = na13 => hq_na13 (by rw [← z]; exact (show a_ ∈ S7.1 from by rw [hS9]; exact List.mem_append_left _ ha_)))).trans ((show S14.2 a_ = S7.2 a_ from by rw [hS14]; exact pnew_n (fun z : a_ = na13 => hq_na13 (by rw [← z]; exact (show a_ ∈ S7.1 from by rw [hS9]; exact List.mem_append_left _ ha_)))).trans (hfr10 a_ ha_ hn_0)))))))))))), hf117⟩)) hr hlocks dX13_block_136)
                      · exact absurd h_69 (by first | decide | omega)
                    · exact absurd h_99 (by first | decide | omega)
                  · exact absurd h_87 (by first | decide | omega)
                · skip
                  obtain ⟨hc118, hr_, hS_⟩ := hpost
                  subst hr_
                  subst hS_
                  refine n_if_ne (tgt := 94) hx hb (by first | decide | omega) dX13_block_87 (by decide) (fun h_87 => ?_) (fun h_87 => ?_)
                  · exact absurd h_87 (by first | decide | omega)
                  · skip
                    refine lv_iconst (v := nI 1) hx hb dX13_block_90 (by decide) ?_
                    refine lv_goto (tgt := 95) hx hb dX13_block_91 (by decide) ?_
                    refine lv_iconst (v := nI 1) hx hb dX13_block_95 (by decide) ?_
                    have hL119 : mm ∈ S14.1 := by rw [hS14]; exact List.mem_append_left _ hL12
                    have hf120 : S14.2 mm = .inr (13, [.int (nI 0), .ref me, .ref sg, .ref cn, .ref im]) := by rw [hS14]; exact (pnew_n (fun z : mm = na13 => hq_na13 (by rw [← z]; exact hL12))).trans hf11
                    have hL121 : mm ∈ S17.1 := by rw [hS17]; exact hL119
                    have hf122 : S17.2 mm = .inr (13, [.int (nI 0), .ref me, .ref sg, .ref cn, .ref im]) := by rw [hS17]; exact (pup_n (fun z : mm = na13 => hq_na13 (by rw [← z]; exact hL12))).trans hf120
                    have hL123 : mm ∈ S20.1 := by rw [hS20]; exact hL121
                    have hf124 : S20.2 mm = .inr (13, [.int (nI 0), .ref me, .ref sg, .ref cn, .ref im]) := by rw [hS20]; exact (pup_n (fun z : mm = na13 => hq_na13 (by rw [← z]; exact hL12))).trans hf122
                    have hL125 : mm ∈ S23.1 := by rw [hS23]; exact hL123
                    have hf126 : S23.2 mm = .inr (13, [.int (nI 0), .ref me, .ref sg, .ref cn, .ref im]) := by rw [hS23]; exact (pup_n (fun z : mm = na13 => hq_na13 (by rw [← z]; exact hL12))).trans hf124
                    have hL127 : mm ∈ S26.1 := by rw [hS26]; exact hL125
                    have hf128 : S26.2 mm = .inr (13, [.int (nI 0), .ref me, .ref sg, .ref cn, .ref im]) := by rw [hS26]; exact (pup_n (fun z : mm = na13 => hq_na13 (by rw [← z]; exact hL12))).trans hf126
                    have hL129 : mm ∈ S30.1 := by rw [hS30]; exact List.mem_append_left _ hL127
                    have hf130 : S30.2 mm = .inr (13, [.int (nI 0), .ref me, .ref sg, .ref cn, .ref im]) := by rw [hS30]; exact (pnew_n (fun z : mm = na29 => hq_na29 (by rw [← z]; exact hL127))).trans hf128
                    refine p_calli (va_runV (As := [.int (nI 1), .int (nI 1)]) (rest := []) C.fix (e_X13_refuse1 l D cy S30 H.size mm me sg cn im 1 hL129 hf130 (by first | assumption | decide | omega) (by first | assumption | decide | omega)) (cwV 2 C.2.2.2.2.1 (gU_V mw_402 mw_403 mw_404 mw_5 (subU mw_405)) rfl rfl rfl hde_X13_block_V_2 ⟨Nat.le_of_ble_eq_true rfl, Nat.le_of_ble_eq_true rfl⟩) (p_preV C hw hL129 hf130 rfl) rfl rfl hl.1 rfl (lv_room (Nat.le_of_ble_eq_true rfl)) dX13_block_96 ⟨(Nat.le_of_ble_eq_true rfl), (Nat.le_of_ble_eq_true rfl)⟩) hw hA (fun r132 S131 H locs hpost hw => ?_)
                    obtain ⟨hr_, hS133, hfr134, hf135⟩ := hpost
                    subst hr_
                    have hL136 : mm ∈ S131.1 := by rw [hS133]; exact List.mem_append_left _ hL129
                    refine n_if_eq (tgt := 104) hx hb (by first | decide | omega) dX13_block_99 (by decide) (fun h_99 => ?_) (fun h_99 => ?_)
                    · exact absurd h_99 (by first | decide | omega)
                    · skip
                      refine lv_iconst (v := nI 0) hx hb dX13_block_102 (by decide) ?_
                      refine W.widen (k := 8) (n := 40) (Nat.le_of_ble_eq_true rfl) (Nat.le_of_ble_eq_true rfl) ?_
                      exact (p_iret C hw ((Or.inr ⟨([na13] ++ [na29]), (by unfold okB6; rw [hnn]; first | exact ⟨⟨by omega, by omega⟩, ⟨by omega, by omega⟩, (okF_in hPW).mp (by omega), (fun q => (okF_in hPW).mp (by omega)), (fun q => (okF_in hPW).mp (by omega)), (fun q => (okF_in hPW).mp (by omega))⟩ | exact (fun h => by have q1 := (okF_in hPW).mpr h.2.2.1; omega) | exact (fun h => by have q1 := (okF_in hPW).mpr (h.2.2.2.1 (by omega)); omega) | exact (fun h => by have q1 := (okF_in hPW).mpr (h.2.2.2.2.1 (by omega)); omega) | exact (fun h => by have q1 := (okF_in hPW).mpr (h.2.2.2.2.2 (by omega)); omega)), rfl, (by simp only [hS133, hS30, hS26, hS23, hS20, hS17, hS14, hS9, pup, pnew, List.append_nil, List.append_assoc, List.cons_append, List.nil_append]), (fun a_ ha_ hn_0 => ((hfr134 a_ (show a_ ∈ S30.1 from by rw [hS30]; exact List.mem_append_left _ (show a_ ∈ S26.1 from by rw [hS26]; exact (show a_ ∈ S23.1 from by rw [hS23]; exact (show a_ ∈ S20.1 from by rw [hS20]; exact (show a_ ∈ S17.1 from by rw [hS17]; exact (show a_ ∈ S14.1 from by rw [hS14]; exact List.mem_append_left _ (show a_ ∈ S7.1 from by rw [hS9]; exact List.mem_append_left _ ha_))))))) hn_0).trans ((show S30.2 a_ = S26.2 a_ from by rw [hS30]; exact pnew_n (fun z : a_ = na29 => hq_na29 (by rw [← z]; exact (show a_ ∈ S26.1 from by rw [hS26]; exact (show a_ ∈ S23.1 from by rw [hS23]; exact (show a_ ∈ S20.1 from by rw [hS20]; exact (show a_ ∈ S17.1 from by rw [hS17]; exact (show a_ ∈ S14.1 from by rw [hS14]; exact List.mem_append_left _ (show a_ ∈ S7.1 from by rw [hS9]; exact List.mem_append_left _ ha_))))))))).trans ((show S26.2 a_ = S23.2 a_ from by rw [hS26]; exact pup_n (fun z : a_ = na13 => hq_na13 (by rw [← z]; exact (show a_ ∈ S7.1 from by rw [hS9]; exact List.mem_append_left _ ha_)))).trans ((show S23.2 a_ = S20.2 a_ from by rw [hS23]; exact pup_n (fun z : a_ = na13 => hq_na13 (by rw [← z]; exact (show a_ ∈ S7.1 from by rw [hS9]; exact List.mem_append_left _ ha_)))).trans ((show S20.2 a_ = S17.2 a_ from by rw [hS20]; exact pup_n (fun z : a_ = na13 => hq_na13 (by rw [← z]; exact (show a_ ∈ S7.1 from by rw [hS9]; exact List.mem_append_left _ ha_)))).trans ((show S17.2 a_ = S14.2 a_ from by rw [hS17]; exact pup_n (fun z : a_ = na13 => hq_na13 (by rw [← z]; exact (show a_ ∈ S7.1 from by rw [hS9]; exact List.mem_append_left _ ha_)))).trans ((show S14.2 a_ = S7.2 a_ from by rw [hS14]; exact pnew_n (fun z : a_ = na13 => hq_na13 (by rw [← z]; exact (show a_ ∈ S7.1 from by rw [hS9]; exact List.mem_append_left _ ha_)))).trans (hfr10 a_ ha_ hn_0))))))))), hf135⟩)) hr hlocks dX13_block_103)
            · skip
              refine lv_iload_n hx hb dX13_block_58 rfl (lv_at hl 2 rfl) ?_
              refine p_newa C hw hA (mU mw_59) 0 rfl (n := 2) (by first | decide | omega) (Nat.le_of_ble_eq_true rfl) (Nat.le_of_ble_eq_true rfl) dX13_block_59 (fun na137 H hq_na137 hw => ?_)
              obtain ⟨S138, hS138⟩ : ∃ z, z = pnew S26 na137 (.inl (cy 0, 2, .inl (fun _ => 0))) := ⟨_, rfl⟩
              replace hw : pW D (pA S s.heap.size) s.heap S138 H locs := by rw [hS138]; exact hw
              have hL139 : na137 ∈ S138.1 := by rw [hS138]; exact List.mem_append_right _ List.mem_cons_self
              have hf140 : S138.2 na137 = .inl (cy 0, 2, .inl (fun _ => 0)) := by rw [hS138]; exact pnew_s
              refine lv_astore (lv' := [(8, .ref na137), (7, .ref na13), (0, .ref mm), (1, .int (nI 2)), (2, .int (nI nN)), (3, .int a1), (4, .int a2), (5, .int a3), (6, .int a4)]) hx hb dX13_block_61 hl (by decide) rfl (fun ls hl => ?_)
              refine lv_iconst (v := nI 0) hx hb dX13_block_63 (by decide) ?_
              refine lv_istore (lv' := [(9, .int (nI 0)), (8, .ref na137), (7, .ref na13), (0, .ref mm), (1, .int (nI 2)), (2, .int (nI nN)), (3, .int a1), (4, .int a2), (5, .int a3), (6, .int a4)]) hx hb dX13_block_64 hl (by decide) rfl (fun ls hl => ?_)
              refine lv_iload hx hb dX13_block_66 (lv_at hl 0 rfl) ?_
              refine lv_iload_n hx hb dX13_block_68 rfl (lv_at hl 4 rfl) ?_
              refine n_icmp_ge (tgt := 120) hx hb (by first | decide | omega) (by first | decide | omega) dX13_block_69 (by decide) (fun h_69 => ?_) (fun h_69 => ?_)
              · exact absurd h_69 (by first | decide | omega)
              · skip
                refine lv_aload_n hx hb dX13_block_72 rfl (lv_at hl 3 rfl) ?_
                refine lv_aload hx hb dX13_block_73 (lv_at hl 2 rfl) ?_
                refine lv_iload hx hb dX13_block_75 (lv_at hl 0 rfl) ?_
                have hL141 : na13 ∈ S138.1 := by rw [hS138]; exact List.mem_append_left _ hL27
                have hf142 : S138.2 na13 = .inl (cy 0, 4, .inl (upd (upd (upd (upd (fun _ => 0) 0 a1) 1 a2) 2 a3) 3 a4)) := by rw [hS138]; exact (pnew_n (fun z : na13 = na137 => hq_na137 (by rw [← z]; exact hL27))).trans hf28
                refine p_ald C hw 0 rfl hL141 hf142 (by first | decide | omega) (by first | decide | omega) dX13_block_77 ?_
                refine x_ren (b := a1) rfl ?_
                refine lv_iconst (v := nI 0) hx hb dX13_block_78 (by decide) ?_
                refine lv_iconst (v := nI 1) hx hb dX13_block_79 (by decide) ?_
                refine lv_iload_n hx hb dX13_block_80 rfl (lv_at hl 5 rfl) ?_
                refine n_ishl hx hb (by omega) (by rw [← hPW]; omega) dX13_block_81 ?_
                refine n_ren (b := PW) (by rw [hPW, Nat.one_mul]) ?_
                refine lv_iconst (v := nI 1) hx hb dX13_block_82 (by decide) ?_
                refine n_isub hx hb (by first | decide | omega) dX13_block_83 ?_
                refine p_calli (va_runS (As := [.int a1, .int (nI 0), .int (nI (PW - 1))]) (rest := [.ref mm]) C.fix (e_X13_isIn l D cy S138 H.size a1 (nI 0) (nI (PW - 1)) a1.toInt ((0 : Nat) : Int) ((PW - 1 : Nat) : Int)  rfl (nI_toInt (by first | decide | omega)) (nI_toInt (show PW - 1 < 2 ^ 31 by omega))) (va_cwS 3 C.2.2.2.2.1 (gU_S mw_394 mw_395 mw_5 (subU mw_396)) rfl rfl rfl hde_X13_block_S_0 ⟨Nat.le_of_ble_eq_true rfl, Nat.le_of_ble_eq_true rfl⟩) (p_preS C hw) rfl rfl hl.1 rfl (lv_room (Nat.le_of_ble_eq_true rfl)) dX13_block_84 ⟨(Nat.le_of_ble_eq_true rfl), (Nat.le_of_ble_eq_true rfl)⟩) hw hA (fun r144 S143 H locs hpost hw => ?_)
                rcases hpost with hpost | hpost
                · skip
                  obtain ⟨hc145, hr_, hS_⟩ := hpost
                  subst hr_
                  subst hS_
                  refine n_if_ne (tgt := 94) hx hb (by first | decide | omega) dX13_block_87 (by decide) (fun h_87 => ?_) (fun h_87 => ?_)
                  · skip
                    refine lv_iconst (v := nI 0) hx hb dX13_block_94 (by decide) ?_
                    refine lv_iconst (v := nI 1) hx hb dX13_block_95 (by decide) ?_
                    have hL146 : mm ∈ S14.1 := by rw [hS14]; exact List.mem_append_left _ hL12
                    have hf147 : S14.2 mm = .inr (13, [.int (nI 0), .ref me, .ref sg, .ref cn, .ref im]) := by rw [hS14]; exact (pnew_n (fun z : mm = na13 => hq_na13 (by rw [← z]; exact hL12))).trans hf11
                    have hL148 : mm ∈ S17.1 := by rw [hS17]; exact hL146
                    have hf149 : S17.2 mm = .inr (13, [.int (nI 0), .ref me, .ref sg, .ref cn, .ref im]) := by rw [hS17]; exact (pup_n (fun z : mm = na13 => hq_na13 (by rw [← z]; exact hL12))).trans hf147
                    have hL150 : mm ∈ S20.1 := by rw [hS20]; exact hL148
                    have hf151 : S20.2 mm = .inr (13, [.int (nI 0), .ref me, .ref sg, .ref cn, .ref im]) := by rw [hS20]; exact (pup_n (fun z : mm = na13 => hq_na13 (by rw [← z]; exact hL12))).trans hf149
                    have hL152 : mm ∈ S23.1 := by rw [hS23]; exact hL150
                    have hf153 : S23.2 mm = .inr (13, [.int (nI 0), .ref me, .ref sg, .ref cn, .ref im]) := by rw [hS23]; exact (pup_n (fun z : mm = na13 => hq_na13 (by rw [← z]; exact hL12))).trans hf151
                    have hL154 : mm ∈ S26.1 := by rw [hS26]; exact hL152
                    have hf155 : S26.2 mm = .inr (13, [.int (nI 0), .ref me, .ref sg, .ref cn, .ref im]) := by rw [hS26]; exact (pup_n (fun z : mm = na13 => hq_na13 (by rw [← z]; exact hL12))).trans hf153
                    have hL156 : mm ∈ S138.1 := by rw [hS138]; exact List.mem_append_left _ hL154
                    have hf157 : S138.2 mm = .inr (13, [.int (nI 0), .ref me, .ref sg, .ref cn, .ref im]) := by rw [hS138]; exact (pnew_n (fun z : mm = na137 => hq_na137 (by rw [← z]; exact hL154))).trans hf155
                    refine p_calli (va_runV (As := [.int (nI 0), .int (nI 1)]) (rest := []) C.fix (e_X13_refuse0 l D cy S138 H.size mm me sg cn im 1 hL156 hf157 ) (cwV 2 C.2.2.2.2.1 (gU_V mw_402 mw_403 mw_404 mw_5 (subU mw_405)) rfl rfl rfl hde_X13_block_V_2 ⟨Nat.le_of_ble_eq_true rfl, Nat.le_of_ble_eq_true rfl⟩) (p_preV C hw hL156 hf157 rfl) rfl rfl hl.1 rfl (lv_room (Nat.le_of_ble_eq_true rfl)) dX13_block_96 ⟨(Nat.le_of_ble_eq_true rfl), (Nat.le_of_ble_eq_true rfl)⟩) hw hA (fun r159 S158 H locs hpost hw => ?_)
                    obtain ⟨hr_, hS_⟩ := hpost
                    subst hr_
                    subst hS_
                    refine n_if_eq (tgt := 104) hx hb (by first | decide | omega) dX13_block_99 (by decide) (fun h_99 => ?_) (fun h_99 => ?_)
                    · skip
                      refine lv_aload hx hb dX13_block_104 (lv_at hl 1 rfl) ?_
                      refine lv_iload hx hb dX13_block_106 (lv_at hl 0 rfl) ?_
                      refine lv_aload hx hb dX13_block_108 (lv_at hl 2 rfl) ?_
                      refine lv_iload hx hb dX13_block_110 (lv_at hl 0 rfl) ?_
                      refine p_ald C hw 0 rfl hL141 hf142 (by first | decide | omega) (by first | decide | omega) dX13_block_112 ?_
                      refine x_ren (b := a1) rfl ?_
                      refine p_ast C hw 0 rfl hL139 hf140 (by first | decide | omega) (by first | decide | omega) dX13_block_113 (fun H locs hw => ?_)
                      obtain ⟨S160, hS160⟩ : ∃ z, z = pup S138 na137 (.inl (cy 0, 2, .inl (upd (fun _ => 0) 0 a1))) := ⟨_, rfl⟩
                      replace hw : pW D (pA S s.heap.size) s.heap S160 H locs := by rw [hS160]; exact hw
                      have hL161 : na137 ∈ S160.1 := by rw [hS160]; exact hL139
                      have hf162 : S160.2 na137 = .inl (cy 0, 2, .inl (upd (fun _ => 0) 0 a1)) := by rw [hS160]; exact pup_s
                      refine lv_iinc (v := (nI 1)) (lv' := [(9, .int (nI 1)), (8, .ref na137), (7, .ref na13), (0, .ref mm), (1, .int (nI 2)), (2, .int (nI nN)), (3, .int a1), (4, .int a2), (5, .int a3), (6, .int a4)]) hx hb dX13_block_114 hl (k := 0) rfl (by decide) (by decide) rfl (fun ls hl => ?_)
                      refine lv_goto (tgt := 66) hx hb dX13_block_117 (by decide) ?_
                      refine lv_iload hx hb dX13_block_66 (lv_at hl 0 rfl) ?_
                      refine lv_iload_n hx hb dX13_block_68 rfl (lv_at hl 4 rfl) ?_
                      refine n_icmp_ge (tgt := 120) hx hb (by first | decide | omega) (by first | decide | omega) dX13_block_69 (by decide) (fun h_69 => ?_) (fun h_69 => ?_)
                      · exact absurd h_69 (by first | decide | omega)
                      · skip
                        refine lv_aload_n hx hb dX13_block_72 rfl (lv_at hl 3 rfl) ?_
                        refine lv_aload hx hb dX13_block_73 (lv_at hl 2 rfl) ?_
                        refine lv_iload hx hb dX13_block_75 (lv_at hl 0 rfl) ?_
                        have hL163 : na13 ∈ S160.1 := by rw [hS160]; exact hL141
                        have hf164 : S160.2 na13 = .inl (cy 0, 4, .inl (upd (upd (upd (upd (fun _ => 0) 0 a1) 1 a2) 2 a3) 3 a4)) := by rw [hS160]; exact (pup_n (fun z : na13 = na137 => hq_na137 (by rw [← z]; exact hL27))).trans hf142
                        refine p_ald C hw 0 rfl hL163 hf164 (by first | decide | omega) (by first | decide | omega) dX13_block_77 ?_
                        refine x_ren (b := a2) rfl ?_
                        refine lv_iconst (v := nI 0) hx hb dX13_block_78 (by decide) ?_
                        refine lv_iconst (v := nI 1) hx hb dX13_block_79 (by decide) ?_
                        refine lv_iload_n hx hb dX13_block_80 rfl (lv_at hl 5 rfl) ?_
                        refine n_ishl hx hb (by omega) (by rw [← hPW]; omega) dX13_block_81 ?_
                        refine n_ren (b := PW) (by rw [hPW, Nat.one_mul]) ?_
                        refine lv_iconst (v := nI 1) hx hb dX13_block_82 (by decide) ?_
                        refine n_isub hx hb (by first | decide | omega) dX13_block_83 ?_
                        refine p_calli (va_runS (As := [.int a2, .int (nI 0), .int (nI (PW - 1))]) (rest := [.ref mm]) C.fix (e_X13_isIn l D cy S160 H.size a2 (nI 0) (nI (PW - 1)) a2.toInt ((0 : Nat) : Int) ((PW - 1 : Nat) : Int)  rfl (nI_toInt (by first | decide | omega)) (nI_toInt (show PW - 1 < 2 ^ 31 by omega))) (va_cwS 3 C.2.2.2.2.1 (gU_S mw_394 mw_395 mw_5 (subU mw_396)) rfl rfl rfl hde_X13_block_S_0 ⟨Nat.le_of_ble_eq_true rfl, Nat.le_of_ble_eq_true rfl⟩) (p_preS C hw) rfl rfl hl.1 rfl (lv_room (Nat.le_of_ble_eq_true rfl)) dX13_block_84 ⟨(Nat.le_of_ble_eq_true rfl), (Nat.le_of_ble_eq_true rfl)⟩) hw hA (fun r166 S165 H locs hpost hw => ?_)
                        rcases hpost with hpost | hpost
                        · skip
                          obtain ⟨hc167, hr_, hS_⟩ := hpost
                          subst hr_
                          subst hS_
                          refine n_if_ne (tgt := 94) hx hb (by first | decide | omega) dX13_block_87 (by decide) (fun h_87 => ?_) (fun h_87 => ?_)
                          · skip
                            refine lv_iconst (v := nI 0) hx hb dX13_block_94 (by decide) ?_
                            refine lv_iconst (v := nI 1) hx hb dX13_block_95 (by decide) ?_
                            have hL168 : mm ∈ S160.1 := by rw [hS160]; exact hL156
                            have hf169 : S160.2 mm = .inr (13, [.int (nI 0), .ref me, .ref sg, .ref cn, .ref im]) := by rw [hS160]; exact (pup_n (fun z : mm = na137 => hq_na137 (by rw [← z]; exact hL154))).trans hf157
                            refine p_calli (va_runV (As := [.int (nI 0), .int (nI 1)]) (rest := []) C.fix (e_X13_refuse0 l D cy S160 H.size mm me sg cn im 1 hL168 hf169 ) (cwV 2 C.2.2.2.2.1 (gU_V mw_402 mw_403 mw_404 mw_5 (subU mw_405)) rfl rfl rfl hde_X13_block_V_2 ⟨Nat.le_of_ble_eq_true rfl, Nat.le_of_ble_eq_true rfl⟩) (p_preV C hw hL168 hf169 rfl) rfl rfl hl.1 rfl (lv_room (Nat.le_of_ble_eq_true rfl)) dX13_block_96 ⟨(Nat.le_of_ble_eq_true rfl), (Nat.le_of_ble_eq_true rfl)⟩) hw hA (fun r171 S170 H locs hpost hw => ?_)
                            obtain ⟨hr_, hS_⟩ := hpost
                            subst hr_
                            subst hS_
                            refine n_if_eq (tgt := 104) hx hb (by first | decide | omega) dX13_block_99 (by decide) (fun h_99 => ?_) (fun h_99 => ?_)
                            · skip
                              refine lv_aload hx hb dX13_block_104 (lv_at hl 1 rfl) ?_
                              refine lv_iload hx hb dX13_block_106 (lv_at hl 0 rfl) ?_
                              refine lv_aload hx hb dX13_block_108 (lv_at hl 2 rfl) ?_
                              refine lv_iload hx hb dX13_block_110 (lv_at hl 0 rfl) ?_
                              refine p_ald C hw 0 rfl hL163 hf164 (by first | decide | omega) (by first | decide | omega) dX13_block_112 ?_
                              refine x_ren (b := a2) rfl ?_
                              refine p_ast C hw 0 rfl hL161 hf162 (by first | decide | omega) (by first | decide | omega) dX13_block_113 (fun H locs hw => ?_)
                              obtain ⟨S172, hS172⟩ : ∃ z, z = pup S160 na137 (.inl (cy 0, 2, .inl (upd (upd (fun _ => 0) 0 a1) 1 a2))) := ⟨_, rfl⟩
                              replace hw : pW D (pA S s.heap.size) s.heap S172 H locs := by rw [hS172]; exact hw
                              have hL173 : na137 ∈ S172.1 := by rw [hS172]; exact hL161
                              have hf174 : S172.2 na137 = .inl (cy 0, 2, .inl (upd (upd (fun _ => 0) 0 a1) 1 a2)) := by rw [hS172]; exact pup_s
                              refine lv_iinc (v := (nI 2)) (lv' := [(9, .int (nI 2)), (8, .ref na137), (7, .ref na13), (0, .ref mm), (1, .int (nI 2)), (2, .int (nI nN)), (3, .int a1), (4, .int a2), (5, .int a3), (6, .int a4)]) hx hb dX13_block_114 hl (k := 0) rfl (by decide) (by decide) rfl (fun ls hl => ?_)
                              refine lv_goto (tgt := 66) hx hb dX13_block_117 (by decide) ?_
                              refine lv_iload hx hb dX13_block_66 (lv_at hl 0 rfl) ?_
                              refine lv_iload_n hx hb dX13_block_68 rfl (lv_at hl 4 rfl) ?_
                              refine n_icmp_ge (tgt := 120) hx hb (by first | decide | omega) (by first | decide | omega) dX13_block_69 (by decide) (fun h_69 => ?_) (fun h_69 => ?_)
                              · skip
                                refine lv_aload_n hx hb dX13_block_120 rfl (lv_at hl 3 rfl) ?_
                                refine p_new C hw hA (ci := 12) (Cn := RX12) (T := TX12) (N := 4) (fs := [.int (nI 0), .int (nI 0), .int (nI 0), .null]) tyX12 tyX12_ok rfl hin_RX12 (mU mw_418) (mU mw_590) (mU mw_407) (fun j hj => by rcases (show j = 0 ∨ j = 1 ∨ j = 2 ∨ j = 3 by omega) with rfl | rfl | rfl | rfl <;> rfl) (Nat.le_of_ble_eq_true rfl) (Nat.le_of_ble_eq_true rfl) dX13_block_121 (fun nq175 H hq_nq175 hw => ?_)
                                obtain ⟨S176, hS176⟩ : ∃ z, z = pnew S172 nq175 (.inr (12, [.int (nI 0), .int (nI 0), .int (nI 0), .null])) := ⟨_, rfl⟩
                                replace hw : pW D (pA S s.heap.size) s.heap S176 H locs := by rw [hS176]; exact hw
                                have hL177 : nq175 ∈ S176.1 := by rw [hS176]; exact List.mem_append_right _ List.mem_cons_self
                                have hf178 : S176.2 nq175 = .inr (12, [.int (nI 0), .int (nI 0), .int (nI 0), .null]) := by rw [hS176]; exact pnew_s
                                refine lv_dup hx hb dX13_block_124 rfl ?_
                                refine lv_iconst (v := nI 1) hx hb dX13_block_125 (by decide) ?_
                                refine lv_iload_n hx hb dX13_block_126 rfl (lv_at hl 4 rfl) ?_
                                refine lv_iload_n hx hb dX13_block_127 rfl (lv_at hl 5 rfl) ?_
                                refine lv_aload hx hb dX13_block_128 (lv_at hl 1 rfl) ?_
                                refine p_callv (va_runI (As := [.int (nI 1), .int (nI 2), .int (nI nN), .ref na137]) (rest := [.ref nq175, .ref mm]) C.fix (e_X12_init l D cy S176 H.size nq175 na137 1 2 nN hL177 hf178 ) (cwI 4 C.2.2.2.2.1 (gU_sub (subU mw_593)) rfl rfl rfl (C.2.2.2.2.1 (.initialized RX12) (mU mw_407)) (C.2.2.2.2.1 (.methodLink RX13 127 yX12_init) (mU mw_591)) (C.2.2.2.2.1 (.instanceMethod yX12_init) (mU mw_592)) rfl (by decide +kernel) ⟨Nat.le_of_ble_eq_true rfl, Nat.le_of_ble_eq_true rfl⟩) (p_preS C hw) rfl rfl hl.1 rfl (lv_room (Nat.le_of_ble_eq_true rfl)) dX13_block_130 ⟨(Nat.le_of_ble_eq_true rfl), (Nat.le_of_ble_eq_true rfl)⟩) hw hA (fun S179 H locs hpost hw => ?_)
                                obtain ⟨hS181, hfr182, hf183⟩ := hpost
                                have hL184 : nq175 ∈ S179.1 := by rw [hS181]; exact List.mem_append_left _ hL177
                                have hL185 : mm ∈ S172.1 := by rw [hS172]; exact hL168
                                have hf186 : S172.2 mm = .inr (13, [.int (nI 0), .ref me, .ref sg, .ref cn, .ref im]) := by rw [hS172]; exact (pup_n (fun z : mm = na137 => hq_na137 (by rw [← z]; exact hL154))).trans hf169
                                have hL187 : mm ∈ S176.1 := by rw [hS176]; exact List.mem_append_left _ hL185
                                have hf188 : S176.2 mm = .inr (13, [.int (nI 0), .ref me, .ref sg, .ref cn, .ref im]) := by rw [hS176]; exact (pnew_n (fun z : mm = nq175 => hq_nq175 (by rw [← z]; exact hL185))).trans hf186
                                have hL189 : mm ∈ S179.1 := by rw [hS181]; exact List.mem_append_left _ hL187
                                have hf190 : S179.2 mm = .inr (13, [.int (nI 0), .ref me, .ref sg, .ref cn, .ref im]) := (hfr182 mm hL187 (fun z : mm = nq175 => hq_nq175 (by rw [← z]; exact hL185))).trans hf188
                                have hL191 : me ∈ S7.1 := by rw [hS9]; exact List.mem_append_left _ hL_me
                                have hf192 : S7.2 me = .inl (cy 0, 0, .inl (fun _ => 0)) := (hfr10 me hL_me (ne_cells hf_me hf_mm (by nofun))).trans hf_me
                                have hL193 : me ∈ S14.1 := by rw [hS14]; exact List.mem_append_left _ hL191
                                have hf194 : S14.2 me = .inl (cy 0, 0, .inl (fun _ => 0)) := by rw [hS14]; exact (pnew_n (fun z : me = na13 => hq_na13 (by rw [← z]; exact hL191))).trans hf192
                                have hL195 : me ∈ S17.1 := by rw [hS17]; exact hL193
                                have hf196 : S17.2 me = .inl (cy 0, 0, .inl (fun _ => 0)) := by rw [hS17]; exact (pup_n (fun z : me = na13 => hq_na13 (by rw [← z]; exact hL191))).trans hf194
                                have hL197 : me ∈ S20.1 := by rw [hS20]; exact hL195
                                have hf198 : S20.2 me = .inl (cy 0, 0, .inl (fun _ => 0)) := by rw [hS20]; exact (pup_n (fun z : me = na13 => hq_na13 (by rw [← z]; exact hL191))).trans hf196
                                have hL199 : me ∈ S23.1 := by rw [hS23]; exact hL197
                                have hf200 : S23.2 me = .inl (cy 0, 0, .inl (fun _ => 0)) := by rw [hS23]; exact (pup_n (fun z : me = na13 => hq_na13 (by rw [← z]; exact hL191))).trans hf198
                                have hL201 : me ∈ S26.1 := by rw [hS26]; exact hL199
                                have hf202 : S26.2 me = .inl (cy 0, 0, .inl (fun _ => 0)) := by rw [hS26]; exact (pup_n (fun z : me = na13 => hq_na13 (by rw [← z]; exact hL191))).trans hf200
                                have hL203 : me ∈ S138.1 := by rw [hS138]; exact List.mem_append_left _ hL201
                                have hf204 : S138.2 me = .inl (cy 0, 0, .inl (fun _ => 0)) := by rw [hS138]; exact (pnew_n (fun z : me = na137 => hq_na137 (by rw [← z]; exact hL201))).trans hf202
                                have hL205 : me ∈ S160.1 := by rw [hS160]; exact hL203
                                have hf206 : S160.2 me = .inl (cy 0, 0, .inl (fun _ => 0)) := by rw [hS160]; exact (pup_n (fun z : me = na137 => hq_na137 (by rw [← z]; exact hL201))).trans hf204
                                have hL207 : me ∈ S172.1 := by rw [hS172]; exact hL205
                                have hf208 : S172.2 me = .inl (cy 0, 0, .inl (fun _ => 0)) := by rw [hS172]; exact (pup_n (fun z : me = na137 => hq_na137 (by rw [← z]; exact hL201))).trans hf206
                                have hL209 : me ∈ S176.1 := by rw [hS176]; exact List.mem_append_left _ hL207
                                have hf210 : S176.2 me = .inl (cy 0, 0, .inl (fun _ => 0)) := by rw [hS176]; exact (pnew_n (fun z : me = nq175 => hq_nq175 (by rw [← z]; exact hL207))).trans hf208
                                have hL211 : me ∈ S179.1 := by rw [hS181]; exact List.mem_append_left _ hL209
                                have hf212 : S179.2 me = .inl (cy 0, 0, .inl (fun _ => 0)) := (hfr182 me hL209 (fun z : me = nq175 => hq_nq175 (by rw [← z]; exact hL207))).trans hf210
                                have hL213 : sg ∈ S7.1 := by rw [hS9]; exact List.mem_append_left _ hL_sg
                                have hf214 : S7.2 sg = .inr (0, [.int (nI 0), .ref ed, .int (nI 0)]) := (hfr10 sg hL_sg (ne_cells hf_sg hf_mm (by nofun))).trans hf_sg
                                have hL215 : sg ∈ S14.1 := by rw [hS14]; exact List.mem_append_left _ hL213
                                have hf216 : S14.2 sg = .inr (0, [.int (nI 0), .ref ed, .int (nI 0)]) := by rw [hS14]; exact (pnew_n (fun z : sg = na13 => hq_na13 (by rw [← z]; exact hL213))).trans hf214
                                have hL217 : sg ∈ S17.1 := by rw [hS17]; exact hL215
                                have hf218 : S17.2 sg = .inr (0, [.int (nI 0), .ref ed, .int (nI 0)]) := by rw [hS17]; exact (pup_n (fun z : sg = na13 => hq_na13 (by rw [← z]; exact hL213))).trans hf216
                                have hL219 : sg ∈ S20.1 := by rw [hS20]; exact hL217
                                have hf220 : S20.2 sg = .inr (0, [.int (nI 0), .ref ed, .int (nI 0)]) := by rw [hS20]; exact (pup_n (fun z : sg = na13 => hq_na13 (by rw [← z]; exact hL213))).trans hf218
                                have hL221 : sg ∈ S23.1 := by rw [hS23]; exact hL219
                                have hf222 : S23.2 sg = .inr (0, [.int (nI 0), .ref ed, .int (nI 0)]) := by rw [hS23]; exact (pup_n (fun z : sg = na13 => hq_na13 (by rw [← z]; exact hL213))).trans hf220
                                have hL223 : sg ∈ S26.1 := by rw [hS26]; exact hL221
                                have hf224 : S26.2 sg = .inr (0, [.int (nI 0), .ref ed, .int (nI 0)]) := by rw [hS26]; exact (pup_n (fun z : sg = na13 => hq_na13 (by rw [← z]; exact hL213))).trans hf222
                                have hL225 : sg ∈ S138.1 := by rw [hS138]; exact List.mem_append_left _ hL223
                                have hf226 : S138.2 sg = .inr (0, [.int (nI 0), .ref ed, .int (nI 0)]) := by rw [hS138]; exact (pnew_n (fun z : sg = na137 => hq_na137 (by rw [← z]; exact hL223))).trans hf224
                                have hL227 : sg ∈ S160.1 := by rw [hS160]; exact hL225
                                have hf228 : S160.2 sg = .inr (0, [.int (nI 0), .ref ed, .int (nI 0)]) := by rw [hS160]; exact (pup_n (fun z : sg = na137 => hq_na137 (by rw [← z]; exact hL223))).trans hf226
                                have hL229 : sg ∈ S172.1 := by rw [hS172]; exact hL227
                                have hf230 : S172.2 sg = .inr (0, [.int (nI 0), .ref ed, .int (nI 0)]) := by rw [hS172]; exact (pup_n (fun z : sg = na137 => hq_na137 (by rw [← z]; exact hL223))).trans hf228
                                have hL231 : sg ∈ S176.1 := by rw [hS176]; exact List.mem_append_left _ hL229
                                have hf232 : S176.2 sg = .inr (0, [.int (nI 0), .ref ed, .int (nI 0)]) := by rw [hS176]; exact (pnew_n (fun z : sg = nq175 => hq_nq175 (by rw [← z]; exact hL229))).trans hf230
                                have hL233 : sg ∈ S179.1 := by rw [hS181]; exact List.mem_append_left _ hL231
                                have hf234 : S179.2 sg = .inr (0, [.int (nI 0), .ref ed, .int (nI 0)]) := (hfr182 sg hL231 (fun z : sg = nq175 => hq_nq175 (by rw [← z]; exact hL229))).trans hf232
                                refine p_calli (va_runV (As := [.ref nq175]) (rest := []) C.fix (e_X13_addblk l D cy ed S179 H.size mm nq175 me sg cn im na137 2 nN hL189 hf190 hL211 hf212 hL233 hf234 hL184 hf183 (by first | assumption | decide | omega) (by first | assumption | decide | omega)) (cwV 1 C.2.2.2.2.1 (gU_V mw_595 mw_596 mw_597 mw_5 (subU mw_598)) rfl rfl rfl hde_X13_block_V_3 ⟨Nat.le_of_ble_eq_true rfl, Nat.le_of_ble_eq_true rfl⟩) (e_preV C hw hA hE hL189 hf190 rfl) rfl rfl hl.1 rfl (lv_room (Nat.le_of_ble_eq_true rfl)) dX13_block_133 ⟨(Nat.le_of_ble_eq_true rfl), (Nat.le_of_ble_eq_true rfl)⟩) hw hA (fun r236 S235 H locs hpost hw => ?_)
                                obtain ⟨nl237, hr_, hS238, hfr239⟩ := hpost
                                subst hr_
                                refine W.widen (k := 8) (n := 40) (Nat.le_of_ble_eq_true rfl) (Nat.le_of_ble_eq_true rfl) ?_
                                have hL240 : mm ∈ S235.1 := by rw [hS238]; exact List.mem_append_left _ hL189
                                have hf241 : S235.2 mm = .inr (13, [.int (nI 0), .ref me, .ref sg, .ref cn, .ref im]) := (hfr239 mm hL189 (ne_cells hf190 hf234 (by nofun))).trans hf190
                                exact (p_iret C hw ((Or.inl ⟨([na13] ++ [na137] ++ [nq175] ++ nl237), (by unfold okB6; rw [hnn]; first | exact ⟨⟨by omega, by omega⟩, ⟨by omega, by omega⟩, (okF_in hPW).mp (by omega), (fun q => (okF_in hPW).mp (by omega)), (fun q => (okF_in hPW).mp (by omega)), (fun q => (okF_in hPW).mp (by omega))⟩ | exact (fun h => by have q1 := (okF_in hPW).mpr h.2.2.1; omega) | exact (fun h => by have q1 := (okF_in hPW).mpr (h.2.2.2.1 (by omega)); omega) | exact (fun h => by have q1 := (okF_in hPW).mpr (h.2.2.2.2.1 (by omega)); omega) | exact (fun h => by have q1 := (okF_in hPW).mpr (h.2.2.2.2.2 (by omega)); omega)), rfl, (by simp only [hS238, hS181, hS176, hS172, hS160, hS138, hS26, hS23, hS20, hS17, hS14, hS9, pup, pnew, List.append_nil, List.append_assoc, List.cons_append, List.nil_append]), (fun a_ ha_ hn_0 hn_1 => ((hfr239 a_ (show a_ ∈ S179.1 from by rw [hS181]; exact List.mem_append_left _ (show a_ ∈ S176.1 from by rw [hS176]; exact List.mem_append_left _ (show a_ ∈ S172.1 from by rw [hS172]; exact (show a_ ∈ S160.1 from by rw [hS160]; exact (show a_ ∈ S138.1 from by rw [hS138]; exact List.mem_append_left _ (show a_ ∈ S26.1 from by rw [hS26]; exact (show a_ ∈ S23.1 from by rw [hS23]; exact (show a_ ∈ S20.1 from by rw [hS20]; exact (show a_ ∈ S17.1 from by rw [hS17]; exact (show a_ ∈ S14.1 from by rw [hS14]; exact List.mem_append_left _ (show a_ ∈ S7.1 from by rw [hS9]; exact List.mem_append_left _ ha_))))))))))) hn_1).trans ((hfr182 a_ (show a_ ∈ S176.1 from by rw [hS176]; exact List.mem_append_left _ (show a_ ∈ S172.1 from by rw [hS172]; exact (show a_ ∈ S160.1 from by rw [hS160]; exact (show a_ ∈ S138.1 from by rw [hS138]; exact List.mem_append_left _ (show a_ ∈ S26.1 from by rw [hS26]; exact (show a_ ∈ S23.1 from by rw [hS23]; exact (show a_ ∈ S20.1 from by rw [hS20]; exact (show a_ ∈ S17.1 from by rw [hS17]; exact (show a_ ∈ S14.1 from by rw [hS14]; exact List.mem_append_left _ (show a_ ∈ S7.1 from by rw [hS9]; exact List.mem_append_left _ ha_)))))))))) (fun z : a_ = nq175 => hq_nq175 (by rw [← z]; exact (show a_ ∈ S172.1 from by rw [hS172]; exact (show a_ ∈ S160.1 from by rw [hS160]; exact (show a_ ∈ S138.1 from by rw [hS138]; exact List.mem_append_left _ (show a_ ∈ S26.1 from by rw [hS26]; exact (show a_ ∈ S23.1 from by rw [hS23]; exact (show a_ ∈ S20.1 from by rw [hS20]; exact (show a_ ∈ S17.1 from by rw [hS17]; exact (show a_ ∈ S14.1 from by rw [hS14]; exact List.mem_append_left _ (show a_ ∈ S7.1 from by rw [hS9]; exact List.mem_append_left _ ha_)))))))))))).trans ((show S176.2 a_ = S172.2 a_ from by rw [hS176]; exact pnew_n (fun z : a_ = nq175 => hq_nq175 (by rw [← z]; exact (show a_ ∈ S172.1 from by rw [hS172]; exact (show a_ ∈ S160.1 from by rw [hS160]; exact (show a_ ∈ S138.1 from by rw [hS138]; exact List.mem_append_left _ (show a_ ∈ S26.1 from by rw [hS26]; exact (show a_ ∈ S23.1 from by rw [hS23]; exact (show a_ ∈ S20.1 from by rw [hS20]; exact (show a_ ∈ S17.1 from by rw [hS17]; exact (show a_ ∈ S14.1 from by rw [hS14]; exact List.mem_append_left _ (show a_ ∈ S7.1 from by rw [hS9]; exact List.mem_append_left _ ha_)))))))))))).trans ((show S172.2 a_ = S160.2 a_ from by rw [hS172]; exact pup_n (fun z : a_ = na137 => hq_na137 (by rw [← z]; exact (show a_ ∈ S26.1 from by rw [hS26]; exact (show a_ ∈ S23.1 from by rw [hS23]; exact (show a_ ∈ S20.1 from by rw [hS20]; exact (show a_ ∈ S17.1 from by rw [hS17]; exact (show a_ ∈ S14.1 from by rw [hS14]; exact List.mem_append_left _ (show a_ ∈ S7.1 from by rw [hS9]; exact List.mem_append_left _ ha_))))))))).trans ((show S160.2 a_ = S138.2 a_ from by rw [hS160]; exact pup_n (fun z : a_ = na137 => hq_na137 (by rw [← z]; exact (show a_ ∈ S26.1 from by rw [hS26]; exact (show a_ ∈ S23.1 from by rw [hS23]; exact (show a_ ∈ S20.1 from by rw [hS20]; exact (show a_ ∈ S17.1 from by rw [hS17]; exact (show a_ ∈ S14.1 from by rw [hS14]; exact List.mem_append_left _ (show a_ ∈ S7.1 from by rw [hS9]; exact List.mem_append_left _ ha_))))))))).trans ((show S138.2 a_ = S26.2 a_ from by rw [hS138]; exact pnew_n (fun z : a_ = na137 => hq_na137 (by rw [← z]; exact (show a_ ∈ S26.1 from by rw [hS26]; exact (show a_ ∈ S23.1 from by rw [hS23]; exact (show a_ ∈ S20.1 from by rw [hS20]; exact (show a_ ∈ S17.1 from by rw [hS17]; exact (show a_ ∈ S14.1 from by rw [hS14]; exact List.mem_append_left _ (show a_ ∈ S7.1 from by rw [hS9]; exact List.mem_append_left _ ha_))))))))).trans ((show S26.2 a_ = S23.2 a_ from by rw [hS26]; exact pup_n (fun z : a_ = na13 => hq_na13 (by rw [← z]; exact (show a_ ∈ S7.1 from by rw [hS9]; exact List.mem_append_left _ ha_)))).trans ((show S23.2 a_ = S20.2 a_ from by rw [hS23]; exact pup_n (fun z : a_ = na13 => hq_na13 (by rw [← z]; exact (show a_ ∈ S7.1 from by rw [hS9]; exact List.mem_append_left _ ha_)))).trans ((show S20.2 a_ = S17.2 a_ from by rw [hS20]; exact pup_n (fun z : a_ = na13 => hq_na13 (by rw [← z]; exact (show a_ ∈ S7.1 from by rw [hS9]; exact List.mem_append_left _ ha_)))).trans ((show S17.2 a_ = S14.2 a_ from by rw [hS17]; exact pup_n (fun z : a_ = na13 => hq_na13 (by rw [← z]; exact (show a_ ∈ S7.1 from by rw [hS9]; exact List.mem_append_left _ ha_)))).trans ((show S14.2 a_ = S7.2 a_ from by rw [hS14]; exact pnew_n (fun z : a_ = na13 => hq_na13 (by rw [← z]; exact (show a_ ∈ S7.1 from by rw [hS9]; exact List.mem_append_left _ ha_)))).trans (hfr10 a_ ha_ hn_0))))))))))))), hf241⟩)) hr hlocks dX13_block_136)
                              · exact absurd h_69 (by first | decide | omega)
                            · exact absurd h_99 (by first | decide | omega)
                          · exact absurd h_87 (by first | decide | omega)
                        · skip
                          obtain ⟨hc242, hr_, hS_⟩ := hpost
                          subst hr_
                          subst hS_
                          refine n_if_ne (tgt := 94) hx hb (by first | decide | omega) dX13_block_87 (by decide) (fun h_87 => ?_) (fun h_87 => ?_)
                          · exact absurd h_87 (by first | decide | omega)
                          · skip
                            refine lv_iconst (v := nI 1) hx hb dX13_block_90 (by decide) ?_
                            refine lv_goto (tgt := 95) hx hb dX13_block_91 (by decide) ?_
                            refine lv_iconst (v := nI 1) hx hb dX13_block_95 (by decide) ?_
                            have hL243 : mm ∈ S160.1 := by rw [hS160]; exact hL156
                            have hf244 : S160.2 mm = .inr (13, [.int (nI 0), .ref me, .ref sg, .ref cn, .ref im]) := by rw [hS160]; exact (pup_n (fun z : mm = na137 => hq_na137 (by rw [← z]; exact hL154))).trans hf157
                            refine p_calli (va_runV (As := [.int (nI 1), .int (nI 1)]) (rest := []) C.fix (e_X13_refuse1 l D cy S160 H.size mm me sg cn im 1 hL243 hf244 (by first | assumption | decide | omega) (by first | assumption | decide | omega)) (cwV 2 C.2.2.2.2.1 (gU_V mw_402 mw_403 mw_404 mw_5 (subU mw_405)) rfl rfl rfl hde_X13_block_V_2 ⟨Nat.le_of_ble_eq_true rfl, Nat.le_of_ble_eq_true rfl⟩) (p_preV C hw hL243 hf244 rfl) rfl rfl hl.1 rfl (lv_room (Nat.le_of_ble_eq_true rfl)) dX13_block_96 ⟨(Nat.le_of_ble_eq_true rfl), (Nat.le_of_ble_eq_true rfl)⟩) hw hA (fun r246 S245 H locs hpost hw => ?_)
                            obtain ⟨hr_, hS247, hfr248, hf249⟩ := hpost
                            subst hr_
                            have hL250 : mm ∈ S245.1 := by rw [hS247]; exact List.mem_append_left _ hL243
                            refine n_if_eq (tgt := 104) hx hb (by first | decide | omega) dX13_block_99 (by decide) (fun h_99 => ?_) (fun h_99 => ?_)
                            · exact absurd h_99 (by first | decide | omega)
                            · skip
                              refine lv_iconst (v := nI 0) hx hb dX13_block_102 (by decide) ?_
                              refine W.widen (k := 8) (n := 40) (Nat.le_of_ble_eq_true rfl) (Nat.le_of_ble_eq_true rfl) ?_
                              exact (p_iret C hw ((Or.inr ⟨([na13] ++ [na137]), (by unfold okB6; rw [hnn]; first | exact ⟨⟨by omega, by omega⟩, ⟨by omega, by omega⟩, (okF_in hPW).mp (by omega), (fun q => (okF_in hPW).mp (by omega)), (fun q => (okF_in hPW).mp (by omega)), (fun q => (okF_in hPW).mp (by omega))⟩ | exact (fun h => by have q1 := (okF_in hPW).mpr h.2.2.1; omega) | exact (fun h => by have q1 := (okF_in hPW).mpr (h.2.2.2.1 (by omega)); omega) | exact (fun h => by have q1 := (okF_in hPW).mpr (h.2.2.2.2.1 (by omega)); omega) | exact (fun h => by have q1 := (okF_in hPW).mpr (h.2.2.2.2.2 (by omega)); omega)), rfl, (by simp only [hS247, hS160, hS138, hS26, hS23, hS20, hS17, hS14, hS9, pup, pnew, List.append_nil, List.append_assoc, List.cons_append, List.nil_append]), (fun a_ ha_ hn_0 => ((hfr248 a_ (show a_ ∈ S160.1 from by rw [hS160]; exact (show a_ ∈ S138.1 from by rw [hS138]; exact List.mem_append_left _ (show a_ ∈ S26.1 from by rw [hS26]; exact (show a_ ∈ S23.1 from by rw [hS23]; exact (show a_ ∈ S20.1 from by rw [hS20]; exact (show a_ ∈ S17.1 from by rw [hS17]; exact (show a_ ∈ S14.1 from by rw [hS14]; exact List.mem_append_left _ (show a_ ∈ S7.1 from by rw [hS9]; exact List.mem_append_left _ ha_)))))))) hn_0).trans ((show S160.2 a_ = S138.2 a_ from by rw [hS160]; exact pup_n (fun z : a_ = na137 => hq_na137 (by rw [← z]; exact (show a_ ∈ S26.1 from by rw [hS26]; exact (show a_ ∈ S23.1 from by rw [hS23]; exact (show a_ ∈ S20.1 from by rw [hS20]; exact (show a_ ∈ S17.1 from by rw [hS17]; exact (show a_ ∈ S14.1 from by rw [hS14]; exact List.mem_append_left _ (show a_ ∈ S7.1 from by rw [hS9]; exact List.mem_append_left _ ha_))))))))).trans ((show S138.2 a_ = S26.2 a_ from by rw [hS138]; exact pnew_n (fun z : a_ = na137 => hq_na137 (by rw [← z]; exact (show a_ ∈ S26.1 from by rw [hS26]; exact (show a_ ∈ S23.1 from by rw [hS23]; exact (show a_ ∈ S20.1 from by rw [hS20]; exact (show a_ ∈ S17.1 from by rw [hS17]; exact (show a_ ∈ S14.1 from by rw [hS14]; exact List.mem_append_left _ (show a_ ∈ S7.1 from by rw [hS9]; exact List.mem_append_left _ ha_))))))))).trans ((show S26.2 a_ = S23.2 a_ from by rw [hS26]; exact pup_n (fun z : a_ = na13 => hq_na13 (by rw [← z]; exact (show a_ ∈ S7.1 from by rw [hS9]; exact List.mem_append_left _ ha_)))).trans ((show S23.2 a_ = S20.2 a_ from by rw [hS23]; exact pup_n (fun z : a_ = na13 => hq_na13 (by rw [← z]; exact (show a_ ∈ S7.1 from by rw [hS9]; exact List.mem_append_left _ ha_)))).trans ((show S20.2 a_ = S17.2 a_ from by rw [hS20]; exact pup_n (fun z : a_ = na13 => hq_na13 (by rw [← z]; exact (show a_ ∈ S7.1 from by rw [hS9]; exact List.mem_append_left _ ha_)))).trans ((show S17.2 a_ = S14.2 a_ from by rw [hS17]; exact pup_n (fun z : a_ = na13 => hq_na13 (by rw [← z]; exact (show a_ ∈ S7.1 from by rw [hS9]; exact List.mem_append_left _ ha_)))).trans ((show S14.2 a_ = S7.2 a_ from by rw [hS14]; exact pnew_n (fun z : a_ = na13 => hq_na13 (by rw [← z]; exact (show a_ ∈ S7.1 from by rw [hS9]; exact List.mem_append_left _ ha_)))).trans (hfr10 a_ ha_ hn_0)))))))))), hf249⟩)) hr hlocks dX13_block_103)
                    · exact absurd h_99 (by first | decide | omega)
                  · exact absurd h_87 (by first | decide | omega)
                · skip
                  obtain ⟨hc251, hr_, hS_⟩ := hpost
                  subst hr_
                  subst hS_
                  refine n_if_ne (tgt := 94) hx hb (by first | decide | omega) dX13_block_87 (by decide) (fun h_87 => ?_) (fun h_87 => ?_)
                  · exact absurd h_87 (by first | decide | omega)
                  · skip
                    refine lv_iconst (v := nI 1) hx hb dX13_block_90 (by decide) ?_
                    refine lv_goto (tgt := 95) hx hb dX13_block_91 (by decide) ?_
                    refine lv_iconst (v := nI 1) hx hb dX13_block_95 (by decide) ?_
                    have hL252 : mm ∈ S14.1 := by rw [hS14]; exact List.mem_append_left _ hL12
                    have hf253 : S14.2 mm = .inr (13, [.int (nI 0), .ref me, .ref sg, .ref cn, .ref im]) := by rw [hS14]; exact (pnew_n (fun z : mm = na13 => hq_na13 (by rw [← z]; exact hL12))).trans hf11
                    have hL254 : mm ∈ S17.1 := by rw [hS17]; exact hL252
                    have hf255 : S17.2 mm = .inr (13, [.int (nI 0), .ref me, .ref sg, .ref cn, .ref im]) := by rw [hS17]; exact (pup_n (fun z : mm = na13 => hq_na13 (by rw [← z]; exact hL12))).trans hf253
                    have hL256 : mm ∈ S20.1 := by rw [hS20]; exact hL254
                    have hf257 : S20.2 mm = .inr (13, [.int (nI 0), .ref me, .ref sg, .ref cn, .ref im]) := by rw [hS20]; exact (pup_n (fun z : mm = na13 => hq_na13 (by rw [← z]; exact hL12))).trans hf255
                    have hL258 : mm ∈ S23.1 := by rw [hS23]; exact hL256
                    have hf259 : S23.2 mm = .inr (13, [.int (nI 0), .ref me, .ref sg, .ref cn, .ref im]) := by rw [hS23]; exact (pup_n (fun z : mm = na13 => hq_na13 (by rw [← z]; exact hL12))).trans hf257
                    have hL260 : mm ∈ S26.1 := by rw [hS26]; exact hL258
                    have hf261 : S26.2 mm = .inr (13, [.int (nI 0), .ref me, .ref sg, .ref cn, .ref im]) := by rw [hS26]; exact (pup_n (fun z : mm = na13 => hq_na13 (by rw [← z]; exact hL12))).trans hf259
                    have hL262 : mm ∈ S138.1 := by rw [hS138]; exact List.mem_append_left _ hL260
                    have hf263 : S138.2 mm = .inr (13, [.int (nI 0), .ref me, .ref sg, .ref cn, .ref im]) := by rw [hS138]; exact (pnew_n (fun z : mm = na137 => hq_na137 (by rw [← z]; exact hL260))).trans hf261
                    refine p_calli (va_runV (As := [.int (nI 1), .int (nI 1)]) (rest := []) C.fix (e_X13_refuse1 l D cy S138 H.size mm me sg cn im 1 hL262 hf263 (by first | assumption | decide | omega) (by first | assumption | decide | omega)) (cwV 2 C.2.2.2.2.1 (gU_V mw_402 mw_403 mw_404 mw_5 (subU mw_405)) rfl rfl rfl hde_X13_block_V_2 ⟨Nat.le_of_ble_eq_true rfl, Nat.le_of_ble_eq_true rfl⟩) (p_preV C hw hL262 hf263 rfl) rfl rfl hl.1 rfl (lv_room (Nat.le_of_ble_eq_true rfl)) dX13_block_96 ⟨(Nat.le_of_ble_eq_true rfl), (Nat.le_of_ble_eq_true rfl)⟩) hw hA (fun r265 S264 H locs hpost hw => ?_)
                    obtain ⟨hr_, hS266, hfr267, hf268⟩ := hpost
                    subst hr_
                    have hL269 : mm ∈ S264.1 := by rw [hS266]; exact List.mem_append_left _ hL262
                    refine n_if_eq (tgt := 104) hx hb (by first | decide | omega) dX13_block_99 (by decide) (fun h_99 => ?_) (fun h_99 => ?_)
                    · exact absurd h_99 (by first | decide | omega)
                    · skip
                      refine lv_iconst (v := nI 0) hx hb dX13_block_102 (by decide) ?_
                      refine W.widen (k := 8) (n := 40) (Nat.le_of_ble_eq_true rfl) (Nat.le_of_ble_eq_true rfl) ?_
                      exact (p_iret C hw ((Or.inr ⟨([na13] ++ [na137]), (by unfold okB6; rw [hnn]; first | exact ⟨⟨by omega, by omega⟩, ⟨by omega, by omega⟩, (okF_in hPW).mp (by omega), (fun q => (okF_in hPW).mp (by omega)), (fun q => (okF_in hPW).mp (by omega)), (fun q => (okF_in hPW).mp (by omega))⟩ | exact (fun h => by have q1 := (okF_in hPW).mpr h.2.2.1; omega) | exact (fun h => by have q1 := (okF_in hPW).mpr (h.2.2.2.1 (by omega)); omega) | exact (fun h => by have q1 := (okF_in hPW).mpr (h.2.2.2.2.1 (by omega)); omega) | exact (fun h => by have q1 := (okF_in hPW).mpr (h.2.2.2.2.2 (by omega)); omega)), rfl, (by simp only [hS266, hS138, hS26, hS23, hS20, hS17, hS14, hS9, pup, pnew, List.append_nil, List.append_assoc, List.cons_append, List.nil_append]), (fun a_ ha_ hn_0 => ((hfr267 a_ (show a_ ∈ S138.1 from by rw [hS138]; exact List.mem_append_left _ (show a_ ∈ S26.1 from by rw [hS26]; exact (show a_ ∈ S23.1 from by rw [hS23]; exact (show a_ ∈ S20.1 from by rw [hS20]; exact (show a_ ∈ S17.1 from by rw [hS17]; exact (show a_ ∈ S14.1 from by rw [hS14]; exact List.mem_append_left _ (show a_ ∈ S7.1 from by rw [hS9]; exact List.mem_append_left _ ha_))))))) hn_0).trans ((show S138.2 a_ = S26.2 a_ from by rw [hS138]; exact pnew_n (fun z : a_ = na137 => hq_na137 (by rw [← z]; exact (show a_ ∈ S26.1 from by rw [hS26]; exact (show a_ ∈ S23.1 from by rw [hS23]; exact (show a_ ∈ S20.1 from by rw [hS20]; exact (show a_ ∈ S17.1 from by rw [hS17]; exact (show a_ ∈ S14.1 from by rw [hS14]; exact List.mem_append_left _ (show a_ ∈ S7.1 from by rw [hS9]; exact List.mem_append_left _ ha_))))))))).trans ((show S26.2 a_ = S23.2 a_ from by rw [hS26]; exact pup_n (fun z : a_ = na13 => hq_na13 (by rw [← z]; exact (show a_ ∈ S7.1 from by rw [hS9]; exact List.mem_append_left _ ha_)))).trans ((show S23.2 a_ = S20.2 a_ from by rw [hS23]; exact pup_n (fun z : a_ = na13 => hq_na13 (by rw [← z]; exact (show a_ ∈ S7.1 from by rw [hS9]; exact List.mem_append_left _ ha_)))).trans ((show S20.2 a_ = S17.2 a_ from by rw [hS20]; exact pup_n (fun z : a_ = na13 => hq_na13 (by rw [← z]; exact (show a_ ∈ S7.1 from by rw [hS9]; exact List.mem_append_left _ ha_)))).trans ((show S17.2 a_ = S14.2 a_ from by rw [hS17]; exact pup_n (fun z : a_ = na13 => hq_na13 (by rw [← z]; exact (show a_ ∈ S7.1 from by rw [hS9]; exact List.mem_append_left _ ha_)))).trans ((show S14.2 a_ = S7.2 a_ from by rw [hS14]; exact pnew_n (fun z : a_ = na13 => hq_na13 (by rw [← z]; exact (show a_ ∈ S7.1 from by rw [hS9]; exact List.mem_append_left _ ha_)))).trans (hfr10 a_ ha_ hn_0))))))))), hf268⟩)) hr hlocks dX13_block_103)
            · skip
              refine lv_iload_n hx hb dX13_block_58 rfl (lv_at hl 2 rfl) ?_
              refine p_newa C hw hA (mU mw_59) 0 rfl (n := 3) (by first | decide | omega) (Nat.le_of_ble_eq_true rfl) (Nat.le_of_ble_eq_true rfl) dX13_block_59 (fun na270 H hq_na270 hw => ?_)
              obtain ⟨S271, hS271⟩ : ∃ z, z = pnew S26 na270 (.inl (cy 0, 3, .inl (fun _ => 0))) := ⟨_, rfl⟩
              replace hw : pW D (pA S s.heap.size) s.heap S271 H locs := by rw [hS271]; exact hw
              have hL272 : na270 ∈ S271.1 := by rw [hS271]; exact List.mem_append_right _ List.mem_cons_self
              have hf273 : S271.2 na270 = .inl (cy 0, 3, .inl (fun _ => 0)) := by rw [hS271]; exact pnew_s
              refine lv_astore (lv' := [(8, .ref na270), (7, .ref na13), (0, .ref mm), (1, .int (nI 3)), (2, .int (nI nN)), (3, .int a1), (4, .int a2), (5, .int a3), (6, .int a4)]) hx hb dX13_block_61 hl (by decide) rfl (fun ls hl => ?_)
              refine lv_iconst (v := nI 0) hx hb dX13_block_63 (by decide) ?_
              refine lv_istore (lv' := [(9, .int (nI 0)), (8, .ref na270), (7, .ref na13), (0, .ref mm), (1, .int (nI 3)), (2, .int (nI nN)), (3, .int a1), (4, .int a2), (5, .int a3), (6, .int a4)]) hx hb dX13_block_64 hl (by decide) rfl (fun ls hl => ?_)
              refine lv_iload hx hb dX13_block_66 (lv_at hl 0 rfl) ?_
              refine lv_iload_n hx hb dX13_block_68 rfl (lv_at hl 4 rfl) ?_
              refine n_icmp_ge (tgt := 120) hx hb (by first | decide | omega) (by first | decide | omega) dX13_block_69 (by decide) (fun h_69 => ?_) (fun h_69 => ?_)
              · exact absurd h_69 (by first | decide | omega)
              · skip
                refine lv_aload_n hx hb dX13_block_72 rfl (lv_at hl 3 rfl) ?_
                refine lv_aload hx hb dX13_block_73 (lv_at hl 2 rfl) ?_
                refine lv_iload hx hb dX13_block_75 (lv_at hl 0 rfl) ?_
                have hL274 : na13 ∈ S271.1 := by rw [hS271]; exact List.mem_append_left _ hL27
                have hf275 : S271.2 na13 = .inl (cy 0, 4, .inl (upd (upd (upd (upd (fun _ => 0) 0 a1) 1 a2) 2 a3) 3 a4)) := by rw [hS271]; exact (pnew_n (fun z : na13 = na270 => hq_na270 (by rw [← z]; exact hL27))).trans hf28
                refine p_ald C hw 0 rfl hL274 hf275 (by first | decide | omega) (by first | decide | omega) dX13_block_77 ?_
                refine x_ren (b := a1) rfl ?_
                refine lv_iconst (v := nI 0) hx hb dX13_block_78 (by decide) ?_
                refine lv_iconst (v := nI 1) hx hb dX13_block_79 (by decide) ?_
                refine lv_iload_n hx hb dX13_block_80 rfl (lv_at hl 5 rfl) ?_
                refine n_ishl hx hb (by omega) (by rw [← hPW]; omega) dX13_block_81 ?_
                refine n_ren (b := PW) (by rw [hPW, Nat.one_mul]) ?_
                refine lv_iconst (v := nI 1) hx hb dX13_block_82 (by decide) ?_
                refine n_isub hx hb (by first | decide | omega) dX13_block_83 ?_
                refine p_calli (va_runS (As := [.int a1, .int (nI 0), .int (nI (PW - 1))]) (rest := [.ref mm]) C.fix (e_X13_isIn l D cy S271 H.size a1 (nI 0) (nI (PW - 1)) a1.toInt ((0 : Nat) : Int) ((PW - 1 : Nat) : Int)  rfl (nI_toInt (by first | decide | omega)) (nI_toInt (show PW - 1 < 2 ^ 31 by omega))) (va_cwS 3 C.2.2.2.2.1 (gU_S mw_394 mw_395 mw_5 (subU mw_396)) rfl rfl rfl hde_X13_block_S_0 ⟨Nat.le_of_ble_eq_true rfl, Nat.le_of_ble_eq_true rfl⟩) (p_preS C hw) rfl rfl hl.1 rfl (lv_room (Nat.le_of_ble_eq_true rfl)) dX13_block_84 ⟨(Nat.le_of_ble_eq_true rfl), (Nat.le_of_ble_eq_true rfl)⟩) hw hA (fun r277 S276 H locs hpost hw => ?_)
                rcases hpost with hpost | hpost
                · skip
                  obtain ⟨hc278, hr_, hS_⟩ := hpost
                  subst hr_
                  subst hS_
                  refine n_if_ne (tgt := 94) hx hb (by first | decide | omega) dX13_block_87 (by decide) (fun h_87 => ?_) (fun h_87 => ?_)
                  · skip
                    refine lv_iconst (v := nI 0) hx hb dX13_block_94 (by decide) ?_
                    refine lv_iconst (v := nI 1) hx hb dX13_block_95 (by decide) ?_
                    have hL279 : mm ∈ S14.1 := by rw [hS14]; exact List.mem_append_left _ hL12
                    have hf280 : S14.2 mm = .inr (13, [.int (nI 0), .ref me, .ref sg, .ref cn, .ref im]) := by rw [hS14]; exact (pnew_n (fun z : mm = na13 => hq_na13 (by rw [← z]; exact hL12))).trans hf11
                    have hL281 : mm ∈ S17.1 := by rw [hS17]; exact hL279
                    have hf282 : S17.2 mm = .inr (13, [.int (nI 0), .ref me, .ref sg, .ref cn, .ref im]) := by rw [hS17]; exact (pup_n (fun z : mm = na13 => hq_na13 (by rw [← z]; exact hL12))).trans hf280
                    have hL283 : mm ∈ S20.1 := by rw [hS20]; exact hL281
                    have hf284 : S20.2 mm = .inr (13, [.int (nI 0), .ref me, .ref sg, .ref cn, .ref im]) := by rw [hS20]; exact (pup_n (fun z : mm = na13 => hq_na13 (by rw [← z]; exact hL12))).trans hf282
                    have hL285 : mm ∈ S23.1 := by rw [hS23]; exact hL283
                    have hf286 : S23.2 mm = .inr (13, [.int (nI 0), .ref me, .ref sg, .ref cn, .ref im]) := by rw [hS23]; exact (pup_n (fun z : mm = na13 => hq_na13 (by rw [← z]; exact hL12))).trans hf284
                    have hL287 : mm ∈ S26.1 := by rw [hS26]; exact hL285
                    have hf288 : S26.2 mm = .inr (13, [.int (nI 0), .ref me, .ref sg, .ref cn, .ref im]) := by rw [hS26]; exact (pup_n (fun z : mm = na13 => hq_na13 (by rw [← z]; exact hL12))).trans hf286
                    have hL289 : mm ∈ S271.1 := by rw [hS271]; exact List.mem_append_left _ hL287
                    have hf290 : S271.2 mm = .inr (13, [.int (nI 0), .ref me, .ref sg, .ref cn, .ref im]) := by rw [hS271]; exact (pnew_n (fun z : mm = na270 => hq_na270 (by rw [← z]; exact hL287))).trans hf288
                    refine p_calli (va_runV (As := [.int (nI 0), .int (nI 1)]) (rest := []) C.fix (e_X13_refuse0 l D cy S271 H.size mm me sg cn im 1 hL289 hf290 ) (cwV 2 C.2.2.2.2.1 (gU_V mw_402 mw_403 mw_404 mw_5 (subU mw_405)) rfl rfl rfl hde_X13_block_V_2 ⟨Nat.le_of_ble_eq_true rfl, Nat.le_of_ble_eq_true rfl⟩) (p_preV C hw hL289 hf290 rfl) rfl rfl hl.1 rfl (lv_room (Nat.le_of_ble_eq_true rfl)) dX13_block_96 ⟨(Nat.le_of_ble_eq_true rfl), (Nat.le_of_ble_eq_true rfl)⟩) hw hA (fun r292 S291 H locs hpost hw => ?_)
                    obtain ⟨hr_, hS_⟩ := hpost
                    subst hr_
                    subst hS_
                    refine n_if_eq (tgt := 104) hx hb (by first | decide | omega) dX13_block_99 (by decide) (fun h_99 => ?_) (fun h_99 => ?_)
                    · skip
                      refine lv_aload hx hb dX13_block_104 (lv_at hl 1 rfl) ?_
                      refine lv_iload hx hb dX13_block_106 (lv_at hl 0 rfl) ?_
                      refine lv_aload hx hb dX13_block_108 (lv_at hl 2 rfl) ?_
                      refine lv_iload hx hb dX13_block_110 (lv_at hl 0 rfl) ?_
                      refine p_ald C hw 0 rfl hL274 hf275 (by first | decide | omega) (by first | decide | omega) dX13_block_112 ?_
                      refine x_ren (b := a1) rfl ?_
                      refine p_ast C hw 0 rfl hL272 hf273 (by first | decide | omega) (by first | decide | omega) dX13_block_113 (fun H locs hw => ?_)
                      obtain ⟨S293, hS293⟩ : ∃ z, z = pup S271 na270 (.inl (cy 0, 3, .inl (upd (fun _ => 0) 0 a1))) := ⟨_, rfl⟩
                      replace hw : pW D (pA S s.heap.size) s.heap S293 H locs := by rw [hS293]; exact hw
                      have hL294 : na270 ∈ S293.1 := by rw [hS293]; exact hL272
                      have hf295 : S293.2 na270 = .inl (cy 0, 3, .inl (upd (fun _ => 0) 0 a1)) := by rw [hS293]; exact pup_s
                      refine lv_iinc (v := (nI 1)) (lv' := [(9, .int (nI 1)), (8, .ref na270), (7, .ref na13), (0, .ref mm), (1, .int (nI 3)), (2, .int (nI nN)), (3, .int a1), (4, .int a2), (5, .int a3), (6, .int a4)]) hx hb dX13_block_114 hl (k := 0) rfl (by decide) (by decide) rfl (fun ls hl => ?_)
                      refine lv_goto (tgt := 66) hx hb dX13_block_117 (by decide) ?_
                      refine lv_iload hx hb dX13_block_66 (lv_at hl 0 rfl) ?_
                      refine lv_iload_n hx hb dX13_block_68 rfl (lv_at hl 4 rfl) ?_
                      refine n_icmp_ge (tgt := 120) hx hb (by first | decide | omega) (by first | decide | omega) dX13_block_69 (by decide) (fun h_69 => ?_) (fun h_69 => ?_)
                      · exact absurd h_69 (by first | decide | omega)
                      · skip
                        refine lv_aload_n hx hb dX13_block_72 rfl (lv_at hl 3 rfl) ?_
                        refine lv_aload hx hb dX13_block_73 (lv_at hl 2 rfl) ?_
                        refine lv_iload hx hb dX13_block_75 (lv_at hl 0 rfl) ?_
                        have hL296 : na13 ∈ S293.1 := by rw [hS293]; exact hL274
                        have hf297 : S293.2 na13 = .inl (cy 0, 4, .inl (upd (upd (upd (upd (fun _ => 0) 0 a1) 1 a2) 2 a3) 3 a4)) := by rw [hS293]; exact (pup_n (fun z : na13 = na270 => hq_na270 (by rw [← z]; exact hL27))).trans hf275
                        refine p_ald C hw 0 rfl hL296 hf297 (by first | decide | omega) (by first | decide | omega) dX13_block_77 ?_
                        refine x_ren (b := a2) rfl ?_
                        refine lv_iconst (v := nI 0) hx hb dX13_block_78 (by decide) ?_
                        refine lv_iconst (v := nI 1) hx hb dX13_block_79 (by decide) ?_
                        refine lv_iload_n hx hb dX13_block_80 rfl (lv_at hl 5 rfl) ?_
                        refine n_ishl hx hb (by omega) (by rw [← hPW]; omega) dX13_block_81 ?_
                        refine n_ren (b := PW) (by rw [hPW, Nat.one_mul]) ?_
                        refine lv_iconst (v := nI 1) hx hb dX13_block_82 (by decide) ?_
                        refine n_isub hx hb (by first | decide | omega) dX13_block_83 ?_
                        refine p_calli (va_runS (As := [.int a2, .int (nI 0), .int (nI (PW - 1))]) (rest := [.ref mm]) C.fix (e_X13_isIn l D cy S293 H.size a2 (nI 0) (nI (PW - 1)) a2.toInt ((0 : Nat) : Int) ((PW - 1 : Nat) : Int)  rfl (nI_toInt (by first | decide | omega)) (nI_toInt (show PW - 1 < 2 ^ 31 by omega))) (va_cwS 3 C.2.2.2.2.1 (gU_S mw_394 mw_395 mw_5 (subU mw_396)) rfl rfl rfl hde_X13_block_S_0 ⟨Nat.le_of_ble_eq_true rfl, Nat.le_of_ble_eq_true rfl⟩) (p_preS C hw) rfl rfl hl.1 rfl (lv_room (Nat.le_of_ble_eq_true rfl)) dX13_block_84 ⟨(Nat.le_of_ble_eq_true rfl), (Nat.le_of_ble_eq_true rfl)⟩) hw hA (fun r299 S298 H locs hpost hw => ?_)
                        rcases hpost with hpost | hpost
                        · skip
                          obtain ⟨hc300, hr_, hS_⟩ := hpost
                          subst hr_
                          subst hS_
                          refine n_if_ne (tgt := 94) hx hb (by first | decide | omega) dX13_block_87 (by decide) (fun h_87 => ?_) (fun h_87 => ?_)
                          · skip
                            refine lv_iconst (v := nI 0) hx hb dX13_block_94 (by decide) ?_
                            refine lv_iconst (v := nI 1) hx hb dX13_block_95 (by decide) ?_
                            have hL301 : mm ∈ S293.1 := by rw [hS293]; exact hL289
                            have hf302 : S293.2 mm = .inr (13, [.int (nI 0), .ref me, .ref sg, .ref cn, .ref im]) := by rw [hS293]; exact (pup_n (fun z : mm = na270 => hq_na270 (by rw [← z]; exact hL287))).trans hf290
                            refine p_calli (va_runV (As := [.int (nI 0), .int (nI 1)]) (rest := []) C.fix (e_X13_refuse0 l D cy S293 H.size mm me sg cn im 1 hL301 hf302 ) (cwV 2 C.2.2.2.2.1 (gU_V mw_402 mw_403 mw_404 mw_5 (subU mw_405)) rfl rfl rfl hde_X13_block_V_2 ⟨Nat.le_of_ble_eq_true rfl, Nat.le_of_ble_eq_true rfl⟩) (p_preV C hw hL301 hf302 rfl) rfl rfl hl.1 rfl (lv_room (Nat.le_of_ble_eq_true rfl)) dX13_block_96 ⟨(Nat.le_of_ble_eq_true rfl), (Nat.le_of_ble_eq_true rfl)⟩) hw hA (fun r304 S303 H locs hpost hw => ?_)
                            obtain ⟨hr_, hS_⟩ := hpost
                            subst hr_
                            subst hS_
                            refine n_if_eq (tgt := 104) hx hb (by first | decide | omega) dX13_block_99 (by decide) (fun h_99 => ?_) (fun h_99 => ?_)
                            · skip
                              refine lv_aload hx hb dX13_block_104 (lv_at hl 1 rfl) ?_
                              refine lv_iload hx hb dX13_block_106 (lv_at hl 0 rfl) ?_
                              refine lv_aload hx hb dX13_block_108 (lv_at hl 2 rfl) ?_
                              refine lv_iload hx hb dX13_block_110 (lv_at hl 0 rfl) ?_
                              refine p_ald C hw 0 rfl hL296 hf297 (by first | decide | omega) (by first | decide | omega) dX13_block_112 ?_
                              refine x_ren (b := a2) rfl ?_
                              refine p_ast C hw 0 rfl hL294 hf295 (by first | decide | omega) (by first | decide | omega) dX13_block_113 (fun H locs hw => ?_)
                              obtain ⟨S305, hS305⟩ : ∃ z, z = pup S293 na270 (.inl (cy 0, 3, .inl (upd (upd (fun _ => 0) 0 a1) 1 a2))) := ⟨_, rfl⟩
                              replace hw : pW D (pA S s.heap.size) s.heap S305 H locs := by rw [hS305]; exact hw
                              have hL306 : na270 ∈ S305.1 := by rw [hS305]; exact hL294
                              have hf307 : S305.2 na270 = .inl (cy 0, 3, .inl (upd (upd (fun _ => 0) 0 a1) 1 a2)) := by rw [hS305]; exact pup_s
                              refine lv_iinc (v := (nI 2)) (lv' := [(9, .int (nI 2)), (8, .ref na270), (7, .ref na13), (0, .ref mm), (1, .int (nI 3)), (2, .int (nI nN)), (3, .int a1), (4, .int a2), (5, .int a3), (6, .int a4)]) hx hb dX13_block_114 hl (k := 0) rfl (by decide) (by decide) rfl (fun ls hl => ?_)
                              refine lv_goto (tgt := 66) hx hb dX13_block_117 (by decide) ?_
                              refine lv_iload hx hb dX13_block_66 (lv_at hl 0 rfl) ?_
                              refine lv_iload_n hx hb dX13_block_68 rfl (lv_at hl 4 rfl) ?_
                              refine n_icmp_ge (tgt := 120) hx hb (by first | decide | omega) (by first | decide | omega) dX13_block_69 (by decide) (fun h_69 => ?_) (fun h_69 => ?_)
                              · exact absurd h_69 (by first | decide | omega)
                              · skip
                                refine lv_aload_n hx hb dX13_block_72 rfl (lv_at hl 3 rfl) ?_
                                refine lv_aload hx hb dX13_block_73 (lv_at hl 2 rfl) ?_
                                refine lv_iload hx hb dX13_block_75 (lv_at hl 0 rfl) ?_
                                have hL308 : na13 ∈ S305.1 := by rw [hS305]; exact hL296
                                have hf309 : S305.2 na13 = .inl (cy 0, 4, .inl (upd (upd (upd (upd (fun _ => 0) 0 a1) 1 a2) 2 a3) 3 a4)) := by rw [hS305]; exact (pup_n (fun z : na13 = na270 => hq_na270 (by rw [← z]; exact hL27))).trans hf297
                                refine p_ald C hw 0 rfl hL308 hf309 (by first | decide | omega) (by first | decide | omega) dX13_block_77 ?_
                                refine x_ren (b := a3) rfl ?_
                                refine lv_iconst (v := nI 0) hx hb dX13_block_78 (by decide) ?_
                                refine lv_iconst (v := nI 1) hx hb dX13_block_79 (by decide) ?_
                                refine lv_iload_n hx hb dX13_block_80 rfl (lv_at hl 5 rfl) ?_
                                refine n_ishl hx hb (by omega) (by rw [← hPW]; omega) dX13_block_81 ?_
                                refine n_ren (b := PW) (by rw [hPW, Nat.one_mul]) ?_
                                refine lv_iconst (v := nI 1) hx hb dX13_block_82 (by decide) ?_
                                refine n_isub hx hb (by first | decide | omega) dX13_block_83 ?_
                                refine p_calli (va_runS (As := [.int a3, .int (nI 0), .int (nI (PW - 1))]) (rest := [.ref mm]) C.fix (e_X13_isIn l D cy S305 H.size a3 (nI 0) (nI (PW - 1)) a3.toInt ((0 : Nat) : Int) ((PW - 1 : Nat) : Int)  rfl (nI_toInt (by first | decide | omega)) (nI_toInt (show PW - 1 < 2 ^ 31 by omega))) (va_cwS 3 C.2.2.2.2.1 (gU_S mw_394 mw_395 mw_5 (subU mw_396)) rfl rfl rfl hde_X13_block_S_0 ⟨Nat.le_of_ble_eq_true rfl, Nat.le_of_ble_eq_true rfl⟩) (p_preS C hw) rfl rfl hl.1 rfl (lv_room (Nat.le_of_ble_eq_true rfl)) dX13_block_84 ⟨(Nat.le_of_ble_eq_true rfl), (Nat.le_of_ble_eq_true rfl)⟩) hw hA (fun r311 S310 H locs hpost hw => ?_)
                                rcases hpost with hpost | hpost
                                · skip
                                  obtain ⟨hc312, hr_, hS_⟩ := hpost
                                  subst hr_
                                  subst hS_
                                  refine n_if_ne (tgt := 94) hx hb (by first | decide | omega) dX13_block_87 (by decide) (fun h_87 => ?_) (fun h_87 => ?_)
                                  · skip
                                    refine lv_iconst (v := nI 0) hx hb dX13_block_94 (by decide) ?_
                                    refine lv_iconst (v := nI 1) hx hb dX13_block_95 (by decide) ?_
                                    have hL313 : mm ∈ S305.1 := by rw [hS305]; exact hL301
                                    have hf314 : S305.2 mm = .inr (13, [.int (nI 0), .ref me, .ref sg, .ref cn, .ref im]) := by rw [hS305]; exact (pup_n (fun z : mm = na270 => hq_na270 (by rw [← z]; exact hL287))).trans hf302
                                    refine p_calli (va_runV (As := [.int (nI 0), .int (nI 1)]) (rest := []) C.fix (e_X13_refuse0 l D cy S305 H.size mm me sg cn im 1 hL313 hf314 ) (cwV 2 C.2.2.2.2.1 (gU_V mw_402 mw_403 mw_404 mw_5 (subU mw_405)) rfl rfl rfl hde_X13_block_V_2 ⟨Nat.le_of_ble_eq_true rfl, Nat.le_of_ble_eq_true rfl⟩) (p_preV C hw hL313 hf314 rfl) rfl rfl hl.1 rfl (lv_room (Nat.le_of_ble_eq_true rfl)) dX13_block_96 ⟨(Nat.le_of_ble_eq_true rfl), (Nat.le_of_ble_eq_true rfl)⟩) hw hA (fun r316 S315 H locs hpost hw => ?_)
                                    obtain ⟨hr_, hS_⟩ := hpost
                                    subst hr_
                                    subst hS_
                                    refine n_if_eq (tgt := 104) hx hb (by first | decide | omega) dX13_block_99 (by decide) (fun h_99 => ?_) (fun h_99 => ?_)
                                    · skip
                                      refine lv_aload hx hb dX13_block_104 (lv_at hl 1 rfl) ?_
                                      refine lv_iload hx hb dX13_block_106 (lv_at hl 0 rfl) ?_
                                      refine lv_aload hx hb dX13_block_108 (lv_at hl 2 rfl) ?_
                                      refine lv_iload hx hb dX13_block_110 (lv_at hl 0 rfl) ?_
                                      refine p_ald C hw 0 rfl hL308 hf309 (by first | decide | omega) (by first | decide | omega) dX13_block_112 ?_
                                      refine x_ren (b := a3) rfl ?_
                                      refine p_ast C hw 0 rfl hL306 hf307 (by first | decide | omega) (by first | decide | omega) dX13_block_113 (fun H locs hw => ?_)
                                      obtain ⟨S317, hS317⟩ : ∃ z, z = pup S305 na270 (.inl (cy 0, 3, .inl (upd (upd (upd (fun _ => 0) 0 a1) 1 a2) 2 a3))) := ⟨_, rfl⟩
                                      replace hw : pW D (pA S s.heap.size) s.heap S317 H locs := by rw [hS317]; exact hw
                                      have hL318 : na270 ∈ S317.1 := by rw [hS317]; exact hL306
                                      have hf319 : S317.2 na270 = .inl (cy 0, 3, .inl (upd (upd (upd (fun _ => 0) 0 a1) 1 a2) 2 a3)) := by rw [hS317]; exact pup_s
                                      refine lv_iinc (v := (nI 3)) (lv' := [(9, .int (nI 3)), (8, .ref na270), (7, .ref na13), (0, .ref mm), (1, .int (nI 3)), (2, .int (nI nN)), (3, .int a1), (4, .int a2), (5, .int a3), (6, .int a4)]) hx hb dX13_block_114 hl (k := 0) rfl (by decide) (by decide) rfl (fun ls hl => ?_)
                                      refine lv_goto (tgt := 66) hx hb dX13_block_117 (by decide) ?_
                                      refine lv_iload hx hb dX13_block_66 (lv_at hl 0 rfl) ?_
                                      refine lv_iload_n hx hb dX13_block_68 rfl (lv_at hl 4 rfl) ?_
                                      refine n_icmp_ge (tgt := 120) hx hb (by first | decide | omega) (by first | decide | omega) dX13_block_69 (by decide) (fun h_69 => ?_) (fun h_69 => ?_)
                                      · skip
                                        refine lv_aload_n hx hb dX13_block_120 rfl (lv_at hl 3 rfl) ?_
                                        refine p_new C hw hA (ci := 12) (Cn := RX12) (T := TX12) (N := 4) (fs := [.int (nI 0), .int (nI 0), .int (nI 0), .null]) tyX12 tyX12_ok rfl hin_RX12 (mU mw_418) (mU mw_590) (mU mw_407) (fun j hj => by rcases (show j = 0 ∨ j = 1 ∨ j = 2 ∨ j = 3 by omega) with rfl | rfl | rfl | rfl <;> rfl) (Nat.le_of_ble_eq_true rfl) (Nat.le_of_ble_eq_true rfl) dX13_block_121 (fun nq320 H hq_nq320 hw => ?_)
                                        obtain ⟨S321, hS321⟩ : ∃ z, z = pnew S317 nq320 (.inr (12, [.int (nI 0), .int (nI 0), .int (nI 0), .null])) := ⟨_, rfl⟩
                                        replace hw : pW D (pA S s.heap.size) s.heap S321 H locs := by rw [hS321]; exact hw
                                        have hL322 : nq320 ∈ S321.1 := by rw [hS321]; exact List.mem_append_right _ List.mem_cons_self
                                        have hf323 : S321.2 nq320 = .inr (12, [.int (nI 0), .int (nI 0), .int (nI 0), .null]) := by rw [hS321]; exact pnew_s
                                        refine lv_dup hx hb dX13_block_124 rfl ?_
                                        refine lv_iconst (v := nI 1) hx hb dX13_block_125 (by decide) ?_
                                        refine lv_iload_n hx hb dX13_block_126 rfl (lv_at hl 4 rfl) ?_
                                        refine lv_iload_n hx hb dX13_block_127 rfl (lv_at hl 5 rfl) ?_
                                        refine lv_aload hx hb dX13_block_128 (lv_at hl 1 rfl) ?_
                                        refine p_callv (va_runI (As := [.int (nI 1), .int (nI 3), .int (nI nN), .ref na270]) (rest := [.ref nq320, .ref mm]) C.fix (e_X12_init l D cy S321 H.size nq320 na270 1 3 nN hL322 hf323 ) (cwI 4 C.2.2.2.2.1 (gU_sub (subU mw_593)) rfl rfl rfl (C.2.2.2.2.1 (.initialized RX12) (mU mw_407)) (C.2.2.2.2.1 (.methodLink RX13 127 yX12_init) (mU mw_591)) (C.2.2.2.2.1 (.instanceMethod yX12_init) (mU mw_592)) rfl (by decide +kernel) ⟨Nat.le_of_ble_eq_true rfl, Nat.le_of_ble_eq_true rfl⟩) (p_preS C hw) rfl rfl hl.1 rfl (lv_room (Nat.le_of_ble_eq_true rfl)) dX13_block_130 ⟨(Nat.le_of_ble_eq_true rfl), (Nat.le_of_ble_eq_true rfl)⟩) hw hA (fun S324 H locs hpost hw => ?_)
                                        obtain ⟨hS326, hfr327, hf328⟩ := hpost
                                        have hL329 : nq320 ∈ S324.1 := by rw [hS326]; exact List.mem_append_left _ hL322
                                        have hL330 : mm ∈ S317.1 := by rw [hS317]; exact hL313
                                        have hf331 : S317.2 mm = .inr (13, [.int (nI 0), .ref me, .ref sg, .ref cn, .ref im]) := by rw [hS317]; exact (pup_n (fun z : mm = na270 => hq_na270 (by rw [← z]; exact hL287))).trans hf314
                                        have hL332 : mm ∈ S321.1 := by rw [hS321]; exact List.mem_append_left _ hL330
                                        have hf333 : S321.2 mm = .inr (13, [.int (nI 0), .ref me, .ref sg, .ref cn, .ref im]) := by rw [hS321]; exact (pnew_n (fun z : mm = nq320 => hq_nq320 (by rw [← z]; exact hL330))).trans hf331
                                        have hL334 : mm ∈ S324.1 := by rw [hS326]; exact List.mem_append_left _ hL332
                                        have hf335 : S324.2 mm = .inr (13, [.int (nI 0), .ref me, .ref sg, .ref cn, .ref im]) := (hfr327 mm hL332 (fun z : mm = nq320 => hq_nq320 (by rw [← z]; exact hL330))).trans hf333
                                        have hL336 : me ∈ S7.1 := by rw [hS9]; exact List.mem_append_left _ hL_me
                                        have hf337 : S7.2 me = .inl (cy 0, 0, .inl (fun _ => 0)) := (hfr10 me hL_me (ne_cells hf_me hf_mm (by nofun))).trans hf_me
                                        have hL338 : me ∈ S14.1 := by rw [hS14]; exact List.mem_append_left _ hL336
                                        have hf339 : S14.2 me = .inl (cy 0, 0, .inl (fun _ => 0)) := by rw [hS14]; exact (pnew_n (fun z : me = na13 => hq_na13 (by rw [← z]; exact hL336))).trans hf337
                                        have hL340 : me ∈ S17.1 := by rw [hS17]; exact hL338
                                        have hf341 : S17.2 me = .inl (cy 0, 0, .inl (fun _ => 0)) := by rw [hS17]; exact (pup_n (fun z : me = na13 => hq_na13 (by rw [← z]; exact hL336))).trans hf339
                                        have hL342 : me ∈ S20.1 := by rw [hS20]; exact hL340
                                        have hf343 : S20.2 me = .inl (cy 0, 0, .inl (fun _ => 0)) := by rw [hS20]; exact (pup_n (fun z : me = na13 => hq_na13 (by rw [← z]; exact hL336))).trans hf341
                                        have hL344 : me ∈ S23.1 := by rw [hS23]; exact hL342
                                        have hf345 : S23.2 me = .inl (cy 0, 0, .inl (fun _ => 0)) := by rw [hS23]; exact (pup_n (fun z : me = na13 => hq_na13 (by rw [← z]; exact hL336))).trans hf343
                                        have hL346 : me ∈ S26.1 := by rw [hS26]; exact hL344
                                        have hf347 : S26.2 me = .inl (cy 0, 0, .inl (fun _ => 0)) := by rw [hS26]; exact (pup_n (fun z : me = na13 => hq_na13 (by rw [← z]; exact hL336))).trans hf345
                                        have hL348 : me ∈ S271.1 := by rw [hS271]; exact List.mem_append_left _ hL346
                                        have hf349 : S271.2 me = .inl (cy 0, 0, .inl (fun _ => 0)) := by rw [hS271]; exact (pnew_n (fun z : me = na270 => hq_na270 (by rw [← z]; exact hL346))).trans hf347
                                        have hL350 : me ∈ S293.1 := by rw [hS293]; exact hL348
                                        have hf351 : S293.2 me = .inl (cy 0, 0, .inl (fun _ => 0)) := by rw [hS293]; exact (pup_n (fun z : me = na270 => hq_na270 (by rw [← z]; exact hL346))).trans hf349
                                        have hL352 : me ∈ S305.1 := by rw [hS305]; exact hL350
                                        have hf353 : S305.2 me = .inl (cy 0, 0, .inl (fun _ => 0)) := by rw [hS305]; exact (pup_n (fun z : me = na270 => hq_na270 (by rw [← z]; exact hL346))).trans hf351
                                        have hL354 : me ∈ S317.1 := by rw [hS317]; exact hL352
                                        have hf355 : S317.2 me = .inl (cy 0, 0, .inl (fun _ => 0)) := by rw [hS317]; exact (pup_n (fun z : me = na270 => hq_na270 (by rw [← z]; exact hL346))).trans hf353
                                        have hL356 : me ∈ S321.1 := by rw [hS321]; exact List.mem_append_left _ hL354
                                        have hf357 : S321.2 me = .inl (cy 0, 0, .inl (fun _ => 0)) := by rw [hS321]; exact (pnew_n (fun z : me = nq320 => hq_nq320 (by rw [← z]; exact hL354))).trans hf355
                                        have hL358 : me ∈ S324.1 := by rw [hS326]; exact List.mem_append_left _ hL356
                                        have hf359 : S324.2 me = .inl (cy 0, 0, .inl (fun _ => 0)) := (hfr327 me hL356 (fun z : me = nq320 => hq_nq320 (by rw [← z]; exact hL354))).trans hf357
                                        have hL360 : sg ∈ S7.1 := by rw [hS9]; exact List.mem_append_left _ hL_sg
                                        have hf361 : S7.2 sg = .inr (0, [.int (nI 0), .ref ed, .int (nI 0)]) := (hfr10 sg hL_sg (ne_cells hf_sg hf_mm (by nofun))).trans hf_sg
                                        have hL362 : sg ∈ S14.1 := by rw [hS14]; exact List.mem_append_left _ hL360
                                        have hf363 : S14.2 sg = .inr (0, [.int (nI 0), .ref ed, .int (nI 0)]) := by rw [hS14]; exact (pnew_n (fun z : sg = na13 => hq_na13 (by rw [← z]; exact hL360))).trans hf361
                                        have hL364 : sg ∈ S17.1 := by rw [hS17]; exact hL362
                                        have hf365 : S17.2 sg = .inr (0, [.int (nI 0), .ref ed, .int (nI 0)]) := by rw [hS17]; exact (pup_n (fun z : sg = na13 => hq_na13 (by rw [← z]; exact hL360))).trans hf363
                                        have hL366 : sg ∈ S20.1 := by rw [hS20]; exact hL364
                                        have hf367 : S20.2 sg = .inr (0, [.int (nI 0), .ref ed, .int (nI 0)]) := by rw [hS20]; exact (pup_n (fun z : sg = na13 => hq_na13 (by rw [← z]; exact hL360))).trans hf365
                                        have hL368 : sg ∈ S23.1 := by rw [hS23]; exact hL366
                                        have hf369 : S23.2 sg = .inr (0, [.int (nI 0), .ref ed, .int (nI 0)]) := by rw [hS23]; exact (pup_n (fun z : sg = na13 => hq_na13 (by rw [← z]; exact hL360))).trans hf367
                                        have hL370 : sg ∈ S26.1 := by rw [hS26]; exact hL368
                                        have hf371 : S26.2 sg = .inr (0, [.int (nI 0), .ref ed, .int (nI 0)]) := by rw [hS26]; exact (pup_n (fun z : sg = na13 => hq_na13 (by rw [← z]; exact hL360))).trans hf369
                                        have hL372 : sg ∈ S271.1 := by rw [hS271]; exact List.mem_append_left _ hL370
                                        have hf373 : S271.2 sg = .inr (0, [.int (nI 0), .ref ed, .int (nI 0)]) := by rw [hS271]; exact (pnew_n (fun z : sg = na270 => hq_na270 (by rw [← z]; exact hL370))).trans hf371
                                        have hL374 : sg ∈ S293.1 := by rw [hS293]; exact hL372
                                        have hf375 : S293.2 sg = .inr (0, [.int (nI 0), .ref ed, .int (nI 0)]) := by rw [hS293]; exact (pup_n (fun z : sg = na270 => hq_na270 (by rw [← z]; exact hL370))).trans hf373
                                        have hL376 : sg ∈ S305.1 := by rw [hS305]; exact hL374
                                        have hf377 : S305.2 sg = .inr (0, [.int (nI 0), .ref ed, .int (nI 0)]) := by rw [hS305]; exact (pup_n (fun z : sg = na270 => hq_na270 (by rw [← z]; exact hL370))).trans hf375
                                        have hL378 : sg ∈ S317.1 := by rw [hS317]; exact hL376
                                        have hf379 : S317.2 sg = .inr (0, [.int (nI 0), .ref ed, .int (nI 0)]) := by rw [hS317]; exact (pup_n (fun z : sg = na270 => hq_na270 (by rw [← z]; exact hL370))).trans hf377
                                        have hL380 : sg ∈ S321.1 := by rw [hS321]; exact List.mem_append_left _ hL378
                                        have hf381 : S321.2 sg = .inr (0, [.int (nI 0), .ref ed, .int (nI 0)]) := by rw [hS321]; exact (pnew_n (fun z : sg = nq320 => hq_nq320 (by rw [← z]; exact hL378))).trans hf379
                                        have hL382 : sg ∈ S324.1 := by rw [hS326]; exact List.mem_append_left _ hL380
                                        have hf383 : S324.2 sg = .inr (0, [.int (nI 0), .ref ed, .int (nI 0)]) := (hfr327 sg hL380 (fun z : sg = nq320 => hq_nq320 (by rw [← z]; exact hL378))).trans hf381
                                        refine p_calli (va_runV (As := [.ref nq320]) (rest := []) C.fix (e_X13_addblk l D cy ed S324 H.size mm nq320 me sg cn im na270 3 nN hL334 hf335 hL358 hf359 hL382 hf383 hL329 hf328 (by first | assumption | decide | omega) (by first | assumption | decide | omega)) (cwV 1 C.2.2.2.2.1 (gU_V mw_595 mw_596 mw_597 mw_5 (subU mw_598)) rfl rfl rfl hde_X13_block_V_3 ⟨Nat.le_of_ble_eq_true rfl, Nat.le_of_ble_eq_true rfl⟩) (e_preV C hw hA hE hL334 hf335 rfl) rfl rfl hl.1 rfl (lv_room (Nat.le_of_ble_eq_true rfl)) dX13_block_133 ⟨(Nat.le_of_ble_eq_true rfl), (Nat.le_of_ble_eq_true rfl)⟩) hw hA (fun r385 S384 H locs hpost hw => ?_)
                                        obtain ⟨nl386, hr_, hS387, hfr388⟩ := hpost
                                        subst hr_
                                        refine W.widen (k := 8) (n := 40) (Nat.le_of_ble_eq_true rfl) (Nat.le_of_ble_eq_true rfl) ?_
                                        have hL389 : mm ∈ S384.1 := by rw [hS387]; exact List.mem_append_left _ hL334
                                        have hf390 : S384.2 mm = .inr (13, [.int (nI 0), .ref me, .ref sg, .ref cn, .ref im]) := (hfr388 mm hL334 (ne_cells hf335 hf383 (by nofun))).trans hf335
                                        exact (p_iret C hw ((Or.inl ⟨([na13] ++ [na270] ++ [nq320] ++ nl386), (by unfold okB6; rw [hnn]; first | exact ⟨⟨by omega, by omega⟩, ⟨by omega, by omega⟩, (okF_in hPW).mp (by omega), (fun q => (okF_in hPW).mp (by omega)), (fun q => (okF_in hPW).mp (by omega)), (fun q => (okF_in hPW).mp (by omega))⟩ | exact (fun h => by have q1 := (okF_in hPW).mpr h.2.2.1; omega) | exact (fun h => by have q1 := (okF_in hPW).mpr (h.2.2.2.1 (by omega)); omega) | exact (fun h => by have q1 := (okF_in hPW).mpr (h.2.2.2.2.1 (by omega)); omega) | exact (fun h => by have q1 := (okF_in hPW).mpr (h.2.2.2.2.2 (by omega)); omega)), rfl, (by simp only [hS387, hS326, hS321, hS317, hS305, hS293, hS271, hS26, hS23, hS20, hS17, hS14, hS9, pup, pnew, List.append_nil, List.append_assoc, List.cons_append, List.nil_append]), (fun a_ ha_ hn_0 hn_1 => ((hfr388 a_ (show a_ ∈ S324.1 from by rw [hS326]; exact List.mem_append_left _ (show a_ ∈ S321.1 from by rw [hS321]; exact List.mem_append_left _ (show a_ ∈ S317.1 from by rw [hS317]; exact (show a_ ∈ S305.1 from by rw [hS305]; exact (show a_ ∈ S293.1 from by rw [hS293]; exact (show a_ ∈ S271.1 from by rw [hS271]; exact List.mem_append_left _ (show a_ ∈ S26.1 from by rw [hS26]; exact (show a_ ∈ S23.1 from by rw [hS23]; exact (show a_ ∈ S20.1 from by rw [hS20]; exact (show a_ ∈ S17.1 from by rw [hS17]; exact (show a_ ∈ S14.1 from by rw [hS14]; exact List.mem_append_left _ (show a_ ∈ S7.1 from by rw [hS9]; exact List.mem_append_left _ ha_)))))))))))) hn_1).trans ((hfr327 a_ (show a_ ∈ S321.1 from by rw [hS321]; exact List.mem_append_left _ (show a_ ∈ S317.1 from by rw [hS317]; exact (show a_ ∈ S305.1 from by rw [hS305]; exact (show a_ ∈ S293.1 from by rw [hS293]; exact (show a_ ∈ S271.1 from by rw [hS271]; exact List.mem_append_left _ (show a_ ∈ S26.1 from by rw [hS26]; exact (show a_ ∈ S23.1 from by rw [hS23]; exact (show a_ ∈ S20.1 from by rw [hS20]; exact (show a_ ∈ S17.1 from by rw [hS17]; exact (show a_ ∈ S14.1 from by rw [hS14]; exact List.mem_append_left _ (show a_ ∈ S7.1 from by rw [hS9]; exact List.mem_append_left _ ha_))))))))))) (fun z : a_ = nq320 => hq_nq320 (by rw [← z]; exact (show a_ ∈ S317.1 from by rw [hS317]; exact (show a_ ∈ S305.1 from by rw [hS305]; exact (show a_ ∈ S293.1 from by rw [hS293]; exact (show a_ ∈ S271.1 from by rw [hS271]; exact List.mem_append_left _ (show a_ ∈ S26.1 from by rw [hS26]; exact (show a_ ∈ S23.1 from by rw [hS23]; exact (show a_ ∈ S20.1 from by rw [hS20]; exact (show a_ ∈ S17.1 from by rw [hS17]; exact (show a_ ∈ S14.1 from by rw [hS14]; exact List.mem_append_left _ (show a_ ∈ S7.1 from by rw [hS9]; exact List.mem_append_left _ ha_))))))))))))).trans ((show S321.2 a_ = S317.2 a_ from by rw [hS321]; exact pnew_n (fun z : a_ = nq320 => hq_nq320 (by rw [← z]; exact (show a_ ∈ S317.1 from by rw [hS317]; exact (show a_ ∈ S305.1 from by rw [hS305]; exact (show a_ ∈ S293.1 from by rw [hS293]; exact (show a_ ∈ S271.1 from by rw [hS271]; exact List.mem_append_left _ (show a_ ∈ S26.1 from by rw [hS26]; exact (show a_ ∈ S23.1 from by rw [hS23]; exact (show a_ ∈ S20.1 from by rw [hS20]; exact (show a_ ∈ S17.1 from by rw [hS17]; exact (show a_ ∈ S14.1 from by rw [hS14]; exact List.mem_append_left _ (show a_ ∈ S7.1 from by rw [hS9]; exact List.mem_append_left _ ha_))))))))))))).trans ((show S317.2 a_ = S305.2 a_ from by rw [hS317]; exact pup_n (fun z : a_ = na270 => hq_na270 (by rw [← z]; exact (show a_ ∈ S26.1 from by rw [hS26]; exact (show a_ ∈ S23.1 from by rw [hS23]; exact (show a_ ∈ S20.1 from by rw [hS20]; exact (show a_ ∈ S17.1 from by rw [hS17]; exact (show a_ ∈ S14.1 from by rw [hS14]; exact List.mem_append_left _ (show a_ ∈ S7.1 from by rw [hS9]; exact List.mem_append_left _ ha_))))))))).trans ((show S305.2 a_ = S293.2 a_ from by rw [hS305]; exact pup_n (fun z : a_ = na270 => hq_na270 (by rw [← z]; exact (show a_ ∈ S26.1 from by rw [hS26]; exact (show a_ ∈ S23.1 from by rw [hS23]; exact (show a_ ∈ S20.1 from by rw [hS20]; exact (show a_ ∈ S17.1 from by rw [hS17]; exact (show a_ ∈ S14.1 from by rw [hS14]; exact List.mem_append_left _ (show a_ ∈ S7.1 from by rw [hS9]; exact List.mem_append_left _ ha_))))))))).trans ((show S293.2 a_ = S271.2 a_ from by rw [hS293]; exact pup_n (fun z : a_ = na270 => hq_na270 (by rw [← z]; exact (show a_ ∈ S26.1 from by rw [hS26]; exact (show a_ ∈ S23.1 from by rw [hS23]; exact (show a_ ∈ S20.1 from by rw [hS20]; exact (show a_ ∈ S17.1 from by rw [hS17]; exact (show a_ ∈ S14.1 from by rw [hS14]; exact List.mem_append_left _ (show a_ ∈ S7.1 from by rw [hS9]; exact List.mem_append_left _ ha_))))))))).trans ((show S271.2 a_ = S26.2 a_ from by rw [hS271]; exact pnew_n (fun z : a_ = na270 => hq_na270 (by rw [← z]; exact (show a_ ∈ S26.1 from by rw [hS26]; exact (show a_ ∈ S23.1 from by rw [hS23]; exact (show a_ ∈ S20.1 from by rw [hS20]; exact (show a_ ∈ S17.1 from by rw [hS17]; exact (show a_ ∈ S14.1 from by rw [hS14]; exact List.mem_append_left _ (show a_ ∈ S7.1 from by rw [hS9]; exact List.mem_append_left _ ha_))))))))).trans ((show S26.2 a_ = S23.2 a_ from by rw [hS26]; exact pup_n (fun z : a_ = na13 => hq_na13 (by rw [← z]; exact (show a_ ∈ S7.1 from by rw [hS9]; exact List.mem_append_left _ ha_)))).trans ((show S23.2 a_ = S20.2 a_ from by rw [hS23]; exact pup_n (fun z : a_ = na13 => hq_na13 (by rw [← z]; exact (show a_ ∈ S7.1 from by rw [hS9]; exact List.mem_append_left _ ha_)))).trans ((show S20.2 a_ = S17.2 a_ from by rw [hS20]; exact pup_n (fun z : a_ = na13 => hq_na13 (by rw [← z]; exact (show a_ ∈ S7.1 from by rw [hS9]; exact List.mem_append_left _ ha_)))).trans ((show S17.2 a_ = S14.2 a_ from by rw [hS17]; exact pup_n (fun z : a_ = na13 => hq_na13 (by rw [← z]; exact (show a_ ∈ S7.1 from by rw [hS9]; exact List.mem_append_left _ ha_)))).trans ((show S14.2 a_ = S7.2 a_ from by rw [hS14]; exact pnew_n (fun z : a_ = na13 => hq_na13 (by rw [← z]; exact (show a_ ∈ S7.1 from by rw [hS9]; exact List.mem_append_left _ ha_)))).trans (hfr10 a_ ha_ hn_0)))))))))))))), hf390⟩)) hr hlocks dX13_block_136)
                                      · exact absurd h_69 (by first | decide | omega)
                                    · exact absurd h_99 (by first | decide | omega)
                                  · exact absurd h_87 (by first | decide | omega)
                                · skip
                                  obtain ⟨hc391, hr_, hS_⟩ := hpost
                                  subst hr_
                                  subst hS_
                                  refine n_if_ne (tgt := 94) hx hb (by first | decide | omega) dX13_block_87 (by decide) (fun h_87 => ?_) (fun h_87 => ?_)
                                  · exact absurd h_87 (by first | decide | omega)
                                  · skip
                                    refine lv_iconst (v := nI 1) hx hb dX13_block_90 (by decide) ?_
                                    refine lv_goto (tgt := 95) hx hb dX13_block_91 (by decide) ?_
                                    refine lv_iconst (v := nI 1) hx hb dX13_block_95 (by decide) ?_
                                    have hL392 : mm ∈ S305.1 := by rw [hS305]; exact hL301
                                    have hf393 : S305.2 mm = .inr (13, [.int (nI 0), .ref me, .ref sg, .ref cn, .ref im]) := by rw [hS305]; exact (pup_n (fun z : mm = na270 => hq_na270 (by rw [← z]; exact hL287))).trans hf302
                                    refine p_calli (va_runV (As := [.int (nI 1), .int (nI 1)]) (rest := []) C.fix (e_X13_refuse1 l D cy S305 H.size mm me sg cn im 1 hL392 hf393 (by first | assumption | decide | omega) (by first | assumption | decide | omega)) (cwV 2 C.2.2.2.2.1 (gU_V mw_402 mw_403 mw_404 mw_5 (subU mw_405)) rfl rfl rfl hde_X13_block_V_2 ⟨Nat.le_of_ble_eq_true rfl, Nat.le_of_ble_eq_true rfl⟩) (p_preV C hw hL392 hf393 rfl) rfl rfl hl.1 rfl (lv_room (Nat.le_of_ble_eq_true rfl)) dX13_block_96 ⟨(Nat.le_of_ble_eq_true rfl), (Nat.le_of_ble_eq_true rfl)⟩) hw hA (fun r395 S394 H locs hpost hw => ?_)
                                    obtain ⟨hr_, hS396, hfr397, hf398⟩ := hpost
                                    subst hr_
                                    have hL399 : mm ∈ S394.1 := by rw [hS396]; exact List.mem_append_left _ hL392
                                    refine n_if_eq (tgt := 104) hx hb (by first | decide | omega) dX13_block_99 (by decide) (fun h_99 => ?_) (fun h_99 => ?_)
                                    · exact absurd h_99 (by first | decide | omega)
                                    · skip
                                      refine lv_iconst (v := nI 0) hx hb dX13_block_102 (by decide) ?_
                                      refine W.widen (k := 8) (n := 40) (Nat.le_of_ble_eq_true rfl) (Nat.le_of_ble_eq_true rfl) ?_
                                      exact (p_iret C hw ((Or.inr ⟨([na13] ++ [na270]), (by unfold okB6; rw [hnn]; first | exact ⟨⟨by omega, by omega⟩, ⟨by omega, by omega⟩, (okF_in hPW).mp (by omega), (fun q => (okF_in hPW).mp (by omega)), (fun q => (okF_in hPW).mp (by omega)), (fun q => (okF_in hPW).mp (by omega))⟩ | exact (fun h => by have q1 := (okF_in hPW).mpr h.2.2.1; omega) | exact (fun h => by have q1 := (okF_in hPW).mpr (h.2.2.2.1 (by omega)); omega) | exact (fun h => by have q1 := (okF_in hPW).mpr (h.2.2.2.2.1 (by omega)); omega) | exact (fun h => by have q1 := (okF_in hPW).mpr (h.2.2.2.2.2 (by omega)); omega)), rfl, (by simp only [hS396, hS305, hS293, hS271, hS26, hS23, hS20, hS17, hS14, hS9, pup, pnew, List.append_nil, List.append_assoc, List.cons_append, List.nil_append]), (fun a_ ha_ hn_0 => ((hfr397 a_ (show a_ ∈ S305.1 from by rw [hS305]; exact (show a_ ∈ S293.1 from by rw [hS293]; exact (show a_ ∈ S271.1 from by rw [hS271]; exact List.mem_append_left _ (show a_ ∈ S26.1 from by rw [hS26]; exact (show a_ ∈ S23.1 from by rw [hS23]; exact (show a_ ∈ S20.1 from by rw [hS20]; exact (show a_ ∈ S17.1 from by rw [hS17]; exact (show a_ ∈ S14.1 from by rw [hS14]; exact List.mem_append_left _ (show a_ ∈ S7.1 from by rw [hS9]; exact List.mem_append_left _ ha_))))))))) hn_0).trans ((show S305.2 a_ = S293.2 a_ from by rw [hS305]; exact pup_n (fun z : a_ = na270 => hq_na270 (by rw [← z]; exact (show a_ ∈ S26.1 from by rw [hS26]; exact (show a_ ∈ S23.1 from by rw [hS23]; exact (show a_ ∈ S20.1 from by rw [hS20]; exact (show a_ ∈ S17.1 from by rw [hS17]; exact (show a_ ∈ S14.1 from by rw [hS14]; exact List.mem_append_left _ (show a_ ∈ S7.1 from by rw [hS9]; exact List.mem_append_left _ ha_))))))))).trans ((show S293.2 a_ = S271.2 a_ from by rw [hS293]; exact pup_n (fun z : a_ = na270 => hq_na270 (by rw [← z]; exact (show a_ ∈ S26.1 from by rw [hS26]; exact (show a_ ∈ S23.1 from by rw [hS23]; exact (show a_ ∈ S20.1 from by rw [hS20]; exact (show a_ ∈ S17.1 from by rw [hS17]; exact (show a_ ∈ S14.1 from by rw [hS14]; exact List.mem_append_left _ (show a_ ∈ S7.1 from by rw [hS9]; exact List.mem_append_left _ ha_))))))))).trans ((show S271.2 a_ = S26.2 a_ from by rw [hS271]; exact pnew_n (fun z : a_ = na270 => hq_na270 (by rw [← z]; exact (show a_ ∈ S26.1 from by rw [hS26]; exact (show a_ ∈ S23.1 from by rw [hS23]; exact (show a_ ∈ S20.1 from by rw [hS20]; exact (show a_ ∈ S17.1 from by rw [hS17]; exact (show a_ ∈ S14.1 from by rw [hS14]; exact List.mem_append_left _ (show a_ ∈ S7.1 from by rw [hS9]; exact List.mem_append_left _ ha_))))))))).trans ((show S26.2 a_ = S23.2 a_ from by rw [hS26]; exact pup_n (fun z : a_ = na13 => hq_na13 (by rw [← z]; exact (show a_ ∈ S7.1 from by rw [hS9]; exact List.mem_append_left _ ha_)))).trans ((show S23.2 a_ = S20.2 a_ from by rw [hS23]; exact pup_n (fun z : a_ = na13 => hq_na13 (by rw [← z]; exact (show a_ ∈ S7.1 from by rw [hS9]; exact List.mem_append_left _ ha_)))).trans ((show S20.2 a_ = S17.2 a_ from by rw [hS20]; exact pup_n (fun z : a_ = na13 => hq_na13 (by rw [← z]; exact (show a_ ∈ S7.1 from by rw [hS9]; exact List.mem_append_left _ ha_)))).trans ((show S17.2 a_ = S14.2 a_ from by rw [hS17]; exact pup_n (fun z : a_ = na13 => hq_na13 (by rw [← z]; exact (show a_ ∈ S7.1 from by rw [hS9]; exact List.mem_append_left _ ha_)))).trans ((show S14.2 a_ = S7.2 a_ from by rw [hS14]; exact pnew_n (fun z : a_ = na13 => hq_na13 (by rw [← z]; exact (show a_ ∈ S7.1 from by rw [hS9]; exact List.mem_append_left _ ha_)))).trans (hfr10 a_ ha_ hn_0))))))))))), hf398⟩)) hr hlocks dX13_block_103)
                            · exact absurd h_99 (by first | decide | omega)
                          · exact absurd h_87 (by first | decide | omega)
                        · skip
                          obtain ⟨hc400, hr_, hS_⟩ := hpost
                          subst hr_
                          subst hS_
                          refine n_if_ne (tgt := 94) hx hb (by first | decide | omega) dX13_block_87 (by decide) (fun h_87 => ?_) (fun h_87 => ?_)
                          · exact absurd h_87 (by first | decide | omega)
                          · skip
                            refine lv_iconst (v := nI 1) hx hb dX13_block_90 (by decide) ?_
                            refine lv_goto (tgt := 95) hx hb dX13_block_91 (by decide) ?_
                            refine lv_iconst (v := nI 1) hx hb dX13_block_95 (by decide) ?_
                            have hL401 : mm ∈ S293.1 := by rw [hS293]; exact hL289
                            have hf402 : S293.2 mm = .inr (13, [.int (nI 0), .ref me, .ref sg, .ref cn, .ref im]) := by rw [hS293]; exact (pup_n (fun z : mm = na270 => hq_na270 (by rw [← z]; exact hL287))).trans hf290
                            refine p_calli (va_runV (As := [.int (nI 1), .int (nI 1)]) (rest := []) C.fix (e_X13_refuse1 l D cy S293 H.size mm me sg cn im 1 hL401 hf402 (by first | assumption | decide | omega) (by first | assumption | decide | omega)) (cwV 2 C.2.2.2.2.1 (gU_V mw_402 mw_403 mw_404 mw_5 (subU mw_405)) rfl rfl rfl hde_X13_block_V_2 ⟨Nat.le_of_ble_eq_true rfl, Nat.le_of_ble_eq_true rfl⟩) (p_preV C hw hL401 hf402 rfl) rfl rfl hl.1 rfl (lv_room (Nat.le_of_ble_eq_true rfl)) dX13_block_96 ⟨(Nat.le_of_ble_eq_true rfl), (Nat.le_of_ble_eq_true rfl)⟩) hw hA (fun r404 S403 H locs hpost hw => ?_)
                            obtain ⟨hr_, hS405, hfr406, hf407⟩ := hpost
                            subst hr_
                            have hL408 : mm ∈ S403.1 := by rw [hS405]; exact List.mem_append_left _ hL401
                            refine n_if_eq (tgt := 104) hx hb (by first | decide | omega) dX13_block_99 (by decide) (fun h_99 => ?_) (fun h_99 => ?_)
                            · exact absurd h_99 (by first | decide | omega)
                            · skip
                              refine lv_iconst (v := nI 0) hx hb dX13_block_102 (by decide) ?_
                              refine W.widen (k := 8) (n := 40) (Nat.le_of_ble_eq_true rfl) (Nat.le_of_ble_eq_true rfl) ?_
                              exact (p_iret C hw ((Or.inr ⟨([na13] ++ [na270]), (by unfold okB6; rw [hnn]; first | exact ⟨⟨by omega, by omega⟩, ⟨by omega, by omega⟩, (okF_in hPW).mp (by omega), (fun q => (okF_in hPW).mp (by omega)), (fun q => (okF_in hPW).mp (by omega)), (fun q => (okF_in hPW).mp (by omega))⟩ | exact (fun h => by have q1 := (okF_in hPW).mpr h.2.2.1; omega) | exact (fun h => by have q1 := (okF_in hPW).mpr (h.2.2.2.1 (by omega)); omega) | exact (fun h => by have q1 := (okF_in hPW).mpr (h.2.2.2.2.1 (by omega)); omega) | exact (fun h => by have q1 := (okF_in hPW).mpr (h.2.2.2.2.2 (by omega)); omega)), rfl, (by simp only [hS405, hS293, hS271, hS26, hS23, hS20, hS17, hS14, hS9, pup, pnew, List.append_nil, List.append_assoc, List.cons_append, List.nil_append]), (fun a_ ha_ hn_0 => ((hfr406 a_ (show a_ ∈ S293.1 from by rw [hS293]; exact (show a_ ∈ S271.1 from by rw [hS271]; exact List.mem_append_left _ (show a_ ∈ S26.1 from by rw [hS26]; exact (show a_ ∈ S23.1 from by rw [hS23]; exact (show a_ ∈ S20.1 from by rw [hS20]; exact (show a_ ∈ S17.1 from by rw [hS17]; exact (show a_ ∈ S14.1 from by rw [hS14]; exact List.mem_append_left _ (show a_ ∈ S7.1 from by rw [hS9]; exact List.mem_append_left _ ha_)))))))) hn_0).trans ((show S293.2 a_ = S271.2 a_ from by rw [hS293]; exact pup_n (fun z : a_ = na270 => hq_na270 (by rw [← z]; exact (show a_ ∈ S26.1 from by rw [hS26]; exact (show a_ ∈ S23.1 from by rw [hS23]; exact (show a_ ∈ S20.1 from by rw [hS20]; exact (show a_ ∈ S17.1 from by rw [hS17]; exact (show a_ ∈ S14.1 from by rw [hS14]; exact List.mem_append_left _ (show a_ ∈ S7.1 from by rw [hS9]; exact List.mem_append_left _ ha_))))))))).trans ((show S271.2 a_ = S26.2 a_ from by rw [hS271]; exact pnew_n (fun z : a_ = na270 => hq_na270 (by rw [← z]; exact (show a_ ∈ S26.1 from by rw [hS26]; exact (show a_ ∈ S23.1 from by rw [hS23]; exact (show a_ ∈ S20.1 from by rw [hS20]; exact (show a_ ∈ S17.1 from by rw [hS17]; exact (show a_ ∈ S14.1 from by rw [hS14]; exact List.mem_append_left _ (show a_ ∈ S7.1 from by rw [hS9]; exact List.mem_append_left _ ha_))))))))).trans ((show S26.2 a_ = S23.2 a_ from by rw [hS26]; exact pup_n (fun z : a_ = na13 => hq_na13 (by rw [← z]; exact (show a_ ∈ S7.1 from by rw [hS9]; exact List.mem_append_left _ ha_)))).trans ((show S23.2 a_ = S20.2 a_ from by rw [hS23]; exact pup_n (fun z : a_ = na13 => hq_na13 (by rw [← z]; exact (show a_ ∈ S7.1 from by rw [hS9]; exact List.mem_append_left _ ha_)))).trans ((show S20.2 a_ = S17.2 a_ from by rw [hS20]; exact pup_n (fun z : a_ = na13 => hq_na13 (by rw [← z]; exact (show a_ ∈ S7.1 from by rw [hS9]; exact List.mem_append_left _ ha_)))).trans ((show S17.2 a_ = S14.2 a_ from by rw [hS17]; exact pup_n (fun z : a_ = na13 => hq_na13 (by rw [← z]; exact (show a_ ∈ S7.1 from by rw [hS9]; exact List.mem_append_left _ ha_)))).trans ((show S14.2 a_ = S7.2 a_ from by rw [hS14]; exact pnew_n (fun z : a_ = na13 => hq_na13 (by rw [← z]; exact (show a_ ∈ S7.1 from by rw [hS9]; exact List.mem_append_left _ ha_)))).trans (hfr10 a_ ha_ hn_0)))))))))), hf407⟩)) hr hlocks dX13_block_103)
                    · exact absurd h_99 (by first | decide | omega)
                  · exact absurd h_87 (by first | decide | omega)
                · skip
                  obtain ⟨hc409, hr_, hS_⟩ := hpost
                  subst hr_
                  subst hS_
                  refine n_if_ne (tgt := 94) hx hb (by first | decide | omega) dX13_block_87 (by decide) (fun h_87 => ?_) (fun h_87 => ?_)
                  · exact absurd h_87 (by first | decide | omega)
                  · skip
                    refine lv_iconst (v := nI 1) hx hb dX13_block_90 (by decide) ?_
                    refine lv_goto (tgt := 95) hx hb dX13_block_91 (by decide) ?_
                    refine lv_iconst (v := nI 1) hx hb dX13_block_95 (by decide) ?_
                    have hL410 : mm ∈ S14.1 := by rw [hS14]; exact List.mem_append_left _ hL12
                    have hf411 : S14.2 mm = .inr (13, [.int (nI 0), .ref me, .ref sg, .ref cn, .ref im]) := by rw [hS14]; exact (pnew_n (fun z : mm = na13 => hq_na13 (by rw [← z]; exact hL12))).trans hf11
                    have hL412 : mm ∈ S17.1 := by rw [hS17]; exact hL410
                    have hf413 : S17.2 mm = .inr (13, [.int (nI 0), .ref me, .ref sg, .ref cn, .ref im]) := by rw [hS17]; exact (pup_n (fun z : mm = na13 => hq_na13 (by rw [← z]; exact hL12))).trans hf411
                    have hL414 : mm ∈ S20.1 := by rw [hS20]; exact hL412
                    have hf415 : S20.2 mm = .inr (13, [.int (nI 0), .ref me, .ref sg, .ref cn, .ref im]) := by rw [hS20]; exact (pup_n (fun z : mm = na13 => hq_na13 (by rw [← z]; exact hL12))).trans hf413
                    have hL416 : mm ∈ S23.1 := by rw [hS23]; exact hL414
                    have hf417 : S23.2 mm = .inr (13, [.int (nI 0), .ref me, .ref sg, .ref cn, .ref im]) := by rw [hS23]; exact (pup_n (fun z : mm = na13 => hq_na13 (by rw [← z]; exact hL12))).trans hf415
                    have hL418 : mm ∈ S26.1 := by rw [hS26]; exact hL416
                    have hf419 : S26.2 mm = .inr (13, [.int (nI 0), .ref me, .ref sg, .ref cn, .ref im]) := by rw [hS26]; exact (pup_n (fun z : mm = na13 => hq_na13 (by rw [← z]; exact hL12))).trans hf417
                    have hL420 : mm ∈ S271.1 := by rw [hS271]; exact List.mem_append_left _ hL418
                    have hf421 : S271.2 mm = .inr (13, [.int (nI 0), .ref me, .ref sg, .ref cn, .ref im]) := by rw [hS271]; exact (pnew_n (fun z : mm = na270 => hq_na270 (by rw [← z]; exact hL418))).trans hf419
                    refine p_calli (va_runV (As := [.int (nI 1), .int (nI 1)]) (rest := []) C.fix (e_X13_refuse1 l D cy S271 H.size mm me sg cn im 1 hL420 hf421 (by first | assumption | decide | omega) (by first | assumption | decide | omega)) (cwV 2 C.2.2.2.2.1 (gU_V mw_402 mw_403 mw_404 mw_5 (subU mw_405)) rfl rfl rfl hde_X13_block_V_2 ⟨Nat.le_of_ble_eq_true rfl, Nat.le_of_ble_eq_true rfl⟩) (p_preV C hw hL420 hf421 rfl) rfl rfl hl.1 rfl (lv_room (Nat.le_of_ble_eq_true rfl)) dX13_block_96 ⟨(Nat.le_of_ble_eq_true rfl), (Nat.le_of_ble_eq_true rfl)⟩) hw hA (fun r423 S422 H locs hpost hw => ?_)
                    obtain ⟨hr_, hS424, hfr425, hf426⟩ := hpost
                    subst hr_
                    have hL427 : mm ∈ S422.1 := by rw [hS424]; exact List.mem_append_left _ hL420
                    refine n_if_eq (tgt := 104) hx hb (by first | decide | omega) dX13_block_99 (by decide) (fun h_99 => ?_) (fun h_99 => ?_)
                    · exact absurd h_99 (by first | decide | omega)
                    · skip
                      refine lv_iconst (v := nI 0) hx hb dX13_block_102 (by decide) ?_
                      refine W.widen (k := 8) (n := 40) (Nat.le_of_ble_eq_true rfl) (Nat.le_of_ble_eq_true rfl) ?_
                      exact (p_iret C hw ((Or.inr ⟨([na13] ++ [na270]), (by unfold okB6; rw [hnn]; first | exact ⟨⟨by omega, by omega⟩, ⟨by omega, by omega⟩, (okF_in hPW).mp (by omega), (fun q => (okF_in hPW).mp (by omega)), (fun q => (okF_in hPW).mp (by omega)), (fun q => (okF_in hPW).mp (by omega))⟩ | exact (fun h => by have q1 := (okF_in hPW).mpr h.2.2.1; omega) | exact (fun h => by have q1 := (okF_in hPW).mpr (h.2.2.2.1 (by omega)); omega) | exact (fun h => by have q1 := (okF_in hPW).mpr (h.2.2.2.2.1 (by omega)); omega) | exact (fun h => by have q1 := (okF_in hPW).mpr (h.2.2.2.2.2 (by omega)); omega)), rfl, (by simp only [hS424, hS271, hS26, hS23, hS20, hS17, hS14, hS9, pup, pnew, List.append_nil, List.append_assoc, List.cons_append, List.nil_append]), (fun a_ ha_ hn_0 => ((hfr425 a_ (show a_ ∈ S271.1 from by rw [hS271]; exact List.mem_append_left _ (show a_ ∈ S26.1 from by rw [hS26]; exact (show a_ ∈ S23.1 from by rw [hS23]; exact (show a_ ∈ S20.1 from by rw [hS20]; exact (show a_ ∈ S17.1 from by rw [hS17]; exact (show a_ ∈ S14.1 from by rw [hS14]; exact List.mem_append_left _ (show a_ ∈ S7.1 from by rw [hS9]; exact List.mem_append_left _ ha_))))))) hn_0).trans ((show S271.2 a_ = S26.2 a_ from by rw [hS271]; exact pnew_n (fun z : a_ = na270 => hq_na270 (by rw [← z]; exact (show a_ ∈ S26.1 from by rw [hS26]; exact (show a_ ∈ S23.1 from by rw [hS23]; exact (show a_ ∈ S20.1 from by rw [hS20]; exact (show a_ ∈ S17.1 from by rw [hS17]; exact (show a_ ∈ S14.1 from by rw [hS14]; exact List.mem_append_left _ (show a_ ∈ S7.1 from by rw [hS9]; exact List.mem_append_left _ ha_))))))))).trans ((show S26.2 a_ = S23.2 a_ from by rw [hS26]; exact pup_n (fun z : a_ = na13 => hq_na13 (by rw [← z]; exact (show a_ ∈ S7.1 from by rw [hS9]; exact List.mem_append_left _ ha_)))).trans ((show S23.2 a_ = S20.2 a_ from by rw [hS23]; exact pup_n (fun z : a_ = na13 => hq_na13 (by rw [← z]; exact (show a_ ∈ S7.1 from by rw [hS9]; exact List.mem_append_left _ ha_)))).trans ((show S20.2 a_ = S17.2 a_ from by rw [hS20]; exact pup_n (fun z : a_ = na13 => hq_na13 (by rw [← z]; exact (show a_ ∈ S7.1 from by rw [hS9]; exact List.mem_append_left _ ha_)))).trans ((show S17.2 a_ = S14.2 a_ from by rw [hS17]; exact pup_n (fun z : a_ = na13 => hq_na13 (by rw [← z]; exact (show a_ ∈ S7.1 from by rw [hS9]; exact List.mem_append_left _ ha_)))).trans ((show S14.2 a_ = S7.2 a_ from by rw [hS14]; exact pnew_n (fun z : a_ = na13 => hq_na13 (by rw [← z]; exact (show a_ ∈ S7.1 from by rw [hS9]; exact List.mem_append_left _ ha_)))).trans (hfr10 a_ ha_ hn_0))))))))), hf426⟩)) hr hlocks dX13_block_103)
            · skip
              refine lv_iload_n hx hb dX13_block_58 rfl (lv_at hl 2 rfl) ?_
              refine p_newa C hw hA (mU mw_59) 0 rfl (n := 4) (by first | decide | omega) (Nat.le_of_ble_eq_true rfl) (Nat.le_of_ble_eq_true rfl) dX13_block_59 (fun na428 H hq_na428 hw => ?_)
              obtain ⟨S429, hS429⟩ : ∃ z, z = pnew S26 na428 (.inl (cy 0, 4, .inl (fun _ => 0))) := ⟨_, rfl⟩
              replace hw : pW D (pA S s.heap.size) s.heap S429 H locs := by rw [hS429]; exact hw
              have hL430 : na428 ∈ S429.1 := by rw [hS429]; exact List.mem_append_right _ List.mem_cons_self
              have hf431 : S429.2 na428 = .inl (cy 0, 4, .inl (fun _ => 0)) := by rw [hS429]; exact pnew_s
              refine lv_astore (lv' := [(8, .ref na428), (7, .ref na13), (0, .ref mm), (1, .int (nI 4)), (2, .int (nI nN)), (3, .int a1), (4, .int a2), (5, .int a3), (6, .int a4)]) hx hb dX13_block_61 hl (by decide) rfl (fun ls hl => ?_)
              refine lv_iconst (v := nI 0) hx hb dX13_block_63 (by decide) ?_
              refine lv_istore (lv' := [(9, .int (nI 0)), (8, .ref na428), (7, .ref na13), (0, .ref mm), (1, .int (nI 4)), (2, .int (nI nN)), (3, .int a1), (4, .int a2), (5, .int a3), (6, .int a4)]) hx hb dX13_block_64 hl (by decide) rfl (fun ls hl => ?_)
              refine lv_iload hx hb dX13_block_66 (lv_at hl 0 rfl) ?_
              refine lv_iload_n hx hb dX13_block_68 rfl (lv_at hl 4 rfl) ?_
              refine n_icmp_ge (tgt := 120) hx hb (by first | decide | omega) (by first | decide | omega) dX13_block_69 (by decide) (fun h_69 => ?_) (fun h_69 => ?_)
              · exact absurd h_69 (by first | decide | omega)
              · skip
                refine lv_aload_n hx hb dX13_block_72 rfl (lv_at hl 3 rfl) ?_
                refine lv_aload hx hb dX13_block_73 (lv_at hl 2 rfl) ?_
                refine lv_iload hx hb dX13_block_75 (lv_at hl 0 rfl) ?_
                have hL432 : na13 ∈ S429.1 := by rw [hS429]; exact List.mem_append_left _ hL27
                have hf433 : S429.2 na13 = .inl (cy 0, 4, .inl (upd (upd (upd (upd (fun _ => 0) 0 a1) 1 a2) 2 a3) 3 a4)) := by rw [hS429]; exact (pnew_n (fun z : na13 = na428 => hq_na428 (by rw [← z]; exact hL27))).trans hf28
                refine p_ald C hw 0 rfl hL432 hf433 (by first | decide | omega) (by first | decide | omega) dX13_block_77 ?_
                refine x_ren (b := a1) rfl ?_
                refine lv_iconst (v := nI 0) hx hb dX13_block_78 (by decide) ?_
                refine lv_iconst (v := nI 1) hx hb dX13_block_79 (by decide) ?_
                refine lv_iload_n hx hb dX13_block_80 rfl (lv_at hl 5 rfl) ?_
                refine n_ishl hx hb (by omega) (by rw [← hPW]; omega) dX13_block_81 ?_
                refine n_ren (b := PW) (by rw [hPW, Nat.one_mul]) ?_
                refine lv_iconst (v := nI 1) hx hb dX13_block_82 (by decide) ?_
                refine n_isub hx hb (by first | decide | omega) dX13_block_83 ?_
                refine p_calli (va_runS (As := [.int a1, .int (nI 0), .int (nI (PW - 1))]) (rest := [.ref mm]) C.fix (e_X13_isIn l D cy S429 H.size a1 (nI 0) (nI (PW - 1)) a1.toInt ((0 : Nat) : Int) ((PW - 1 : Nat) : Int)  rfl (nI_toInt (by first | decide | omega)) (nI_toInt (show PW - 1 < 2 ^ 31 by omega))) (va_cwS 3 C.2.2.2.2.1 (gU_S mw_394 mw_395 mw_5 (subU mw_396)) rfl rfl rfl hde_X13_block_S_0 ⟨Nat.le_of_ble_eq_true rfl, Nat.le_of_ble_eq_true rfl⟩) (p_preS C hw) rfl rfl hl.1 rfl (lv_room (Nat.le_of_ble_eq_true rfl)) dX13_block_84 ⟨(Nat.le_of_ble_eq_true rfl), (Nat.le_of_ble_eq_true rfl)⟩) hw hA (fun r435 S434 H locs hpost hw => ?_)
                rcases hpost with hpost | hpost
                · skip
                  obtain ⟨hc436, hr_, hS_⟩ := hpost
                  subst hr_
                  subst hS_
                  refine n_if_ne (tgt := 94) hx hb (by first | decide | omega) dX13_block_87 (by decide) (fun h_87 => ?_) (fun h_87 => ?_)
                  · skip
                    refine lv_iconst (v := nI 0) hx hb dX13_block_94 (by decide) ?_
                    refine lv_iconst (v := nI 1) hx hb dX13_block_95 (by decide) ?_
                    have hL437 : mm ∈ S14.1 := by rw [hS14]; exact List.mem_append_left _ hL12
                    have hf438 : S14.2 mm = .inr (13, [.int (nI 0), .ref me, .ref sg, .ref cn, .ref im]) := by rw [hS14]; exact (pnew_n (fun z : mm = na13 => hq_na13 (by rw [← z]; exact hL12))).trans hf11
                    have hL439 : mm ∈ S17.1 := by rw [hS17]; exact hL437
                    have hf440 : S17.2 mm = .inr (13, [.int (nI 0), .ref me, .ref sg, .ref cn, .ref im]) := by rw [hS17]; exact (pup_n (fun z : mm = na13 => hq_na13 (by rw [← z]; exact hL12))).trans hf438
                    have hL441 : mm ∈ S20.1 := by rw [hS20]; exact hL439
                    have hf442 : S20.2 mm = .inr (13, [.int (nI 0), .ref me, .ref sg, .ref cn, .ref im]) := by rw [hS20]; exact (pup_n (fun z : mm = na13 => hq_na13 (by rw [← z]; exact hL12))).trans hf440
                    have hL443 : mm ∈ S23.1 := by rw [hS23]; exact hL441
                    have hf444 : S23.2 mm = .inr (13, [.int (nI 0), .ref me, .ref sg, .ref cn, .ref im]) := by rw [hS23]; exact (pup_n (fun z : mm = na13 => hq_na13 (by rw [← z]; exact hL12))).trans hf442
                    have hL445 : mm ∈ S26.1 := by rw [hS26]; exact hL443
                    have hf446 : S26.2 mm = .inr (13, [.int (nI 0), .ref me, .ref sg, .ref cn, .ref im]) := by rw [hS26]; exact (pup_n (fun z : mm = na13 => hq_na13 (by rw [← z]; exact hL12))).trans hf444
                    have hL447 : mm ∈ S429.1 := by rw [hS429]; exact List.mem_append_left _ hL445
                    have hf448 : S429.2 mm = .inr (13, [.int (nI 0), .ref me, .ref sg, .ref cn, .ref im]) := by rw [hS429]; exact (pnew_n (fun z : mm = na428 => hq_na428 (by rw [← z]; exact hL445))).trans hf446
                    refine p_calli (va_runV (As := [.int (nI 0), .int (nI 1)]) (rest := []) C.fix (e_X13_refuse0 l D cy S429 H.size mm me sg cn im 1 hL447 hf448 ) (cwV 2 C.2.2.2.2.1 (gU_V mw_402 mw_403 mw_404 mw_5 (subU mw_405)) rfl rfl rfl hde_X13_block_V_2 ⟨Nat.le_of_ble_eq_true rfl, Nat.le_of_ble_eq_true rfl⟩) (p_preV C hw hL447 hf448 rfl) rfl rfl hl.1 rfl (lv_room (Nat.le_of_ble_eq_true rfl)) dX13_block_96 ⟨(Nat.le_of_ble_eq_true rfl), (Nat.le_of_ble_eq_true rfl)⟩) hw hA (fun r450 S449 H locs hpost hw => ?_)
                    obtain ⟨hr_, hS_⟩ := hpost
                    subst hr_
                    subst hS_
                    refine n_if_eq (tgt := 104) hx hb (by first | decide | omega) dX13_block_99 (by decide) (fun h_99 => ?_) (fun h_99 => ?_)
                    · skip
                      refine lv_aload hx hb dX13_block_104 (lv_at hl 1 rfl) ?_
                      refine lv_iload hx hb dX13_block_106 (lv_at hl 0 rfl) ?_
                      refine lv_aload hx hb dX13_block_108 (lv_at hl 2 rfl) ?_
                      refine lv_iload hx hb dX13_block_110 (lv_at hl 0 rfl) ?_
                      refine p_ald C hw 0 rfl hL432 hf433 (by first | decide | omega) (by first | decide | omega) dX13_block_112 ?_
                      refine x_ren (b := a1) rfl ?_
                      refine p_ast C hw 0 rfl hL430 hf431 (by first | decide | omega) (by first | decide | omega) dX13_block_113 (fun H locs hw => ?_)
                      obtain ⟨S451, hS451⟩ : ∃ z, z = pup S429 na428 (.inl (cy 0, 4, .inl (upd (fun _ => 0) 0 a1))) := ⟨_, rfl⟩
                      replace hw : pW D (pA S s.heap.size) s.heap S451 H locs := by rw [hS451]; exact hw
                      have hL452 : na428 ∈ S451.1 := by rw [hS451]; exact hL430
                      have hf453 : S451.2 na428 = .inl (cy 0, 4, .inl (upd (fun _ => 0) 0 a1)) := by rw [hS451]; exact pup_s
                      refine lv_iinc (v := (nI 1)) (lv' := [(9, .int (nI 1)), (8, .ref na428), (7, .ref na13), (0, .ref mm), (1, .int (nI 4)), (2, .int (nI nN)), (3, .int a1), (4, .int a2), (5, .int a3), (6, .int a4)]) hx hb dX13_block_114 hl (k := 0) rfl (by decide) (by decide) rfl (fun ls hl => ?_)
                      refine lv_goto (tgt := 66) hx hb dX13_block_117 (by decide) ?_
                      refine lv_iload hx hb dX13_block_66 (lv_at hl 0 rfl) ?_
                      refine lv_iload_n hx hb dX13_block_68 rfl (lv_at hl 4 rfl) ?_
                      refine n_icmp_ge (tgt := 120) hx hb (by first | decide | omega) (by first | decide | omega) dX13_block_69 (by decide) (fun h_69 => ?_) (fun h_69 => ?_)
                      · exact absurd h_69 (by first | decide | omega)
                      · skip
                        refine lv_aload_n hx hb dX13_block_72 rfl (lv_at hl 3 rfl) ?_
                        refine lv_aload hx hb dX13_block_73 (lv_at hl 2 rfl) ?_
                        refine lv_iload hx hb dX13_block_75 (lv_at hl 0 rfl) ?_
                        have hL454 : na13 ∈ S451.1 := by rw [hS451]; exact hL432
                        have hf455 : S451.2 na13 = .inl (cy 0, 4, .inl (upd (upd (upd (upd (fun _ => 0) 0 a1) 1 a2) 2 a3) 3 a4)) := by rw [hS451]; exact (pup_n (fun z : na13 = na428 => hq_na428 (by rw [← z]; exact hL27))).trans hf433
                        refine p_ald C hw 0 rfl hL454 hf455 (by first | decide | omega) (by first | decide | omega) dX13_block_77 ?_
                        refine x_ren (b := a2) rfl ?_
                        refine lv_iconst (v := nI 0) hx hb dX13_block_78 (by decide) ?_
                        refine lv_iconst (v := nI 1) hx hb dX13_block_79 (by decide) ?_
                        refine lv_iload_n hx hb dX13_block_80 rfl (lv_at hl 5 rfl) ?_
                        refine n_ishl hx hb (by omega) (by rw [← hPW]; omega) dX13_block_81 ?_
                        refine n_ren (b := PW) (by rw [hPW, Nat.one_mul]) ?_
                        refine lv_iconst (v := nI 1) hx hb dX13_block_82 (by decide) ?_
                        refine n_isub hx hb (by first | decide | omega) dX13_block_83 ?_
                        refine p_calli (va_runS (As := [.int a2, .int (nI 0), .int (nI (PW - 1))]) (rest := [.ref mm]) C.fix (e_X13_isIn l D cy S451 H.size a2 (nI 0) (nI (PW - 1)) a2.toInt ((0 : Nat) : Int) ((PW - 1 : Nat) : Int)  rfl (nI_toInt (by first | decide | omega)) (nI_toInt (show PW - 1 < 2 ^ 31 by omega))) (va_cwS 3 C.2.2.2.2.1 (gU_S mw_394 mw_395 mw_5 (subU mw_396)) rfl rfl rfl hde_X13_block_S_0 ⟨Nat.le_of_ble_eq_true rfl, Nat.le_of_ble_eq_true rfl⟩) (p_preS C hw) rfl rfl hl.1 rfl (lv_room (Nat.le_of_ble_eq_true rfl)) dX13_block_84 ⟨(Nat.le_of_ble_eq_true rfl), (Nat.le_of_ble_eq_true rfl)⟩) hw hA (fun r457 S456 H locs hpost hw => ?_)
                        rcases hpost with hpost | hpost
                        · skip
                          obtain ⟨hc458, hr_, hS_⟩ := hpost
                          subst hr_
                          subst hS_
                          refine n_if_ne (tgt := 94) hx hb (by first | decide | omega) dX13_block_87 (by decide) (fun h_87 => ?_) (fun h_87 => ?_)
                          · skip
                            refine lv_iconst (v := nI 0) hx hb dX13_block_94 (by decide) ?_
                            refine lv_iconst (v := nI 1) hx hb dX13_block_95 (by decide) ?_
                            have hL459 : mm ∈ S451.1 := by rw [hS451]; exact hL447
                            have hf460 : S451.2 mm = .inr (13, [.int (nI 0), .ref me, .ref sg, .ref cn, .ref im]) := by rw [hS451]; exact (pup_n (fun z : mm = na428 => hq_na428 (by rw [← z]; exact hL445))).trans hf448
                            refine p_calli (va_runV (As := [.int (nI 0), .int (nI 1)]) (rest := []) C.fix (e_X13_refuse0 l D cy S451 H.size mm me sg cn im 1 hL459 hf460 ) (cwV 2 C.2.2.2.2.1 (gU_V mw_402 mw_403 mw_404 mw_5 (subU mw_405)) rfl rfl rfl hde_X13_block_V_2 ⟨Nat.le_of_ble_eq_true rfl, Nat.le_of_ble_eq_true rfl⟩) (p_preV C hw hL459 hf460 rfl) rfl rfl hl.1 rfl (lv_room (Nat.le_of_ble_eq_true rfl)) dX13_block_96 ⟨(Nat.le_of_ble_eq_true rfl), (Nat.le_of_ble_eq_true rfl)⟩) hw hA (fun r462 S461 H locs hpost hw => ?_)
                            obtain ⟨hr_, hS_⟩ := hpost
                            subst hr_
                            subst hS_
                            refine n_if_eq (tgt := 104) hx hb (by first | decide | omega) dX13_block_99 (by decide) (fun h_99 => ?_) (fun h_99 => ?_)
                            · skip
                              refine lv_aload hx hb dX13_block_104 (lv_at hl 1 rfl) ?_
                              refine lv_iload hx hb dX13_block_106 (lv_at hl 0 rfl) ?_
                              refine lv_aload hx hb dX13_block_108 (lv_at hl 2 rfl) ?_
                              refine lv_iload hx hb dX13_block_110 (lv_at hl 0 rfl) ?_
                              refine p_ald C hw 0 rfl hL454 hf455 (by first | decide | omega) (by first | decide | omega) dX13_block_112 ?_
                              refine x_ren (b := a2) rfl ?_
                              refine p_ast C hw 0 rfl hL452 hf453 (by first | decide | omega) (by first | decide | omega) dX13_block_113 (fun H locs hw => ?_)
                              obtain ⟨S463, hS463⟩ : ∃ z, z = pup S451 na428 (.inl (cy 0, 4, .inl (upd (upd (fun _ => 0) 0 a1) 1 a2))) := ⟨_, rfl⟩
                              replace hw : pW D (pA S s.heap.size) s.heap S463 H locs := by rw [hS463]; exact hw
                              have hL464 : na428 ∈ S463.1 := by rw [hS463]; exact hL452
                              have hf465 : S463.2 na428 = .inl (cy 0, 4, .inl (upd (upd (fun _ => 0) 0 a1) 1 a2)) := by rw [hS463]; exact pup_s
                              refine lv_iinc (v := (nI 2)) (lv' := [(9, .int (nI 2)), (8, .ref na428), (7, .ref na13), (0, .ref mm), (1, .int (nI 4)), (2, .int (nI nN)), (3, .int a1), (4, .int a2), (5, .int a3), (6, .int a4)]) hx hb dX13_block_114 hl (k := 0) rfl (by decide) (by decide) rfl (fun ls hl => ?_)
                              refine lv_goto (tgt := 66) hx hb dX13_block_117 (by decide) ?_
                              refine lv_iload hx hb dX13_block_66 (lv_at hl 0 rfl) ?_
                              refine lv_iload_n hx hb dX13_block_68 rfl (lv_at hl 4 rfl) ?_
                              refine n_icmp_ge (tgt := 120) hx hb (by first | decide | omega) (by first | decide | omega) dX13_block_69 (by decide) (fun h_69 => ?_) (fun h_69 => ?_)
                              · exact absurd h_69 (by first | decide | omega)
                              · skip
                                refine lv_aload_n hx hb dX13_block_72 rfl (lv_at hl 3 rfl) ?_
                                refine lv_aload hx hb dX13_block_73 (lv_at hl 2 rfl) ?_
                                refine lv_iload hx hb dX13_block_75 (lv_at hl 0 rfl) ?_
                                have hL466 : na13 ∈ S463.1 := by rw [hS463]; exact hL454
                                have hf467 : S463.2 na13 = .inl (cy 0, 4, .inl (upd (upd (upd (upd (fun _ => 0) 0 a1) 1 a2) 2 a3) 3 a4)) := by rw [hS463]; exact (pup_n (fun z : na13 = na428 => hq_na428 (by rw [← z]; exact hL27))).trans hf455
                                refine p_ald C hw 0 rfl hL466 hf467 (by first | decide | omega) (by first | decide | omega) dX13_block_77 ?_
                                refine x_ren (b := a3) rfl ?_
                                refine lv_iconst (v := nI 0) hx hb dX13_block_78 (by decide) ?_
                                refine lv_iconst (v := nI 1) hx hb dX13_block_79 (by decide) ?_
                                refine lv_iload_n hx hb dX13_block_80 rfl (lv_at hl 5 rfl) ?_
                                refine n_ishl hx hb (by omega) (by rw [← hPW]; omega) dX13_block_81 ?_
                                refine n_ren (b := PW) (by rw [hPW, Nat.one_mul]) ?_
                                refine lv_iconst (v := nI 1) hx hb dX13_block_82 (by decide) ?_
                                refine n_isub hx hb (by first | decide | omega) dX13_block_83 ?_
                                refine p_calli (va_runS (As := [.int a3, .int (nI 0), .int (nI (PW - 1))]) (rest := [.ref mm]) C.fix (e_X13_isIn l D cy S463 H.size a3 (nI 0) (nI (PW - 1)) a3.toInt ((0 : Nat) : Int) ((PW - 1 : Nat) : Int)  rfl (nI_toInt (by first | decide | omega)) (nI_toInt (show PW - 1 < 2 ^ 31 by omega))) (va_cwS 3 C.2.2.2.2.1 (gU_S mw_394 mw_395 mw_5 (subU mw_396)) rfl rfl rfl hde_X13_block_S_0 ⟨Nat.le_of_ble_eq_true rfl, Nat.le_of_ble_eq_true rfl⟩) (p_preS C hw) rfl rfl hl.1 rfl (lv_room (Nat.le_of_ble_eq_true rfl)) dX13_block_84 ⟨(Nat.le_of_ble_eq_true rfl), (Nat.le_of_ble_eq_true rfl)⟩) hw hA (fun r469 S468 H locs hpost hw => ?_)
                                rcases hpost with hpost | hpost
                                · skip
                                  obtain ⟨hc470, hr_, hS_⟩ := hpost
                                  subst hr_
                                  subst hS_
                                  refine n_if_ne (tgt := 94) hx hb (by first | decide | omega) dX13_block_87 (by decide) (fun h_87 => ?_) (fun h_87 => ?_)
                                  · skip
                                    refine lv_iconst (v := nI 0) hx hb dX13_block_94 (by decide) ?_
                                    refine lv_iconst (v := nI 1) hx hb dX13_block_95 (by decide) ?_
                                    have hL471 : mm ∈ S463.1 := by rw [hS463]; exact hL459
                                    have hf472 : S463.2 mm = .inr (13, [.int (nI 0), .ref me, .ref sg, .ref cn, .ref im]) := by rw [hS463]; exact (pup_n (fun z : mm = na428 => hq_na428 (by rw [← z]; exact hL445))).trans hf460
                                    refine p_calli (va_runV (As := [.int (nI 0), .int (nI 1)]) (rest := []) C.fix (e_X13_refuse0 l D cy S463 H.size mm me sg cn im 1 hL471 hf472 ) (cwV 2 C.2.2.2.2.1 (gU_V mw_402 mw_403 mw_404 mw_5 (subU mw_405)) rfl rfl rfl hde_X13_block_V_2 ⟨Nat.le_of_ble_eq_true rfl, Nat.le_of_ble_eq_true rfl⟩) (p_preV C hw hL471 hf472 rfl) rfl rfl hl.1 rfl (lv_room (Nat.le_of_ble_eq_true rfl)) dX13_block_96 ⟨(Nat.le_of_ble_eq_true rfl), (Nat.le_of_ble_eq_true rfl)⟩) hw hA (fun r474 S473 H locs hpost hw => ?_)
                                    obtain ⟨hr_, hS_⟩ := hpost
                                    subst hr_
                                    subst hS_
                                    refine n_if_eq (tgt := 104) hx hb (by first | decide | omega) dX13_block_99 (by decide) (fun h_99 => ?_) (fun h_99 => ?_)
                                    · skip
                                      refine lv_aload hx hb dX13_block_104 (lv_at hl 1 rfl) ?_
                                      refine lv_iload hx hb dX13_block_106 (lv_at hl 0 rfl) ?_
                                      refine lv_aload hx hb dX13_block_108 (lv_at hl 2 rfl) ?_
                                      refine lv_iload hx hb dX13_block_110 (lv_at hl 0 rfl) ?_
                                      refine p_ald C hw 0 rfl hL466 hf467 (by first | decide | omega) (by first | decide | omega) dX13_block_112 ?_
                                      refine x_ren (b := a3) rfl ?_
                                      refine p_ast C hw 0 rfl hL464 hf465 (by first | decide | omega) (by first | decide | omega) dX13_block_113 (fun H locs hw => ?_)
                                      obtain ⟨S475, hS475⟩ : ∃ z, z = pup S463 na428 (.inl (cy 0, 4, .inl (upd (upd (upd (fun _ => 0) 0 a1) 1 a2) 2 a3))) := ⟨_, rfl⟩
                                      replace hw : pW D (pA S s.heap.size) s.heap S475 H locs := by rw [hS475]; exact hw
                                      have hL476 : na428 ∈ S475.1 := by rw [hS475]; exact hL464
                                      have hf477 : S475.2 na428 = .inl (cy 0, 4, .inl (upd (upd (upd (fun _ => 0) 0 a1) 1 a2) 2 a3)) := by rw [hS475]; exact pup_s
                                      refine lv_iinc (v := (nI 3)) (lv' := [(9, .int (nI 3)), (8, .ref na428), (7, .ref na13), (0, .ref mm), (1, .int (nI 4)), (2, .int (nI nN)), (3, .int a1), (4, .int a2), (5, .int a3), (6, .int a4)]) hx hb dX13_block_114 hl (k := 0) rfl (by decide) (by decide) rfl (fun ls hl => ?_)
                                      refine lv_goto (tgt := 66) hx hb dX13_block_117 (by decide) ?_
                                      refine lv_iload hx hb dX13_block_66 (lv_at hl 0 rfl) ?_
                                      refine lv_iload_n hx hb dX13_block_68 rfl (lv_at hl 4 rfl) ?_
                                      refine n_icmp_ge (tgt := 120) hx hb (by first | decide | omega) (by first | decide | omega) dX13_block_69 (by decide) (fun h_69 => ?_) (fun h_69 => ?_)
                                      · exact absurd h_69 (by first | decide | omega)
                                      · skip
                                        refine lv_aload_n hx hb dX13_block_72 rfl (lv_at hl 3 rfl) ?_
                                        refine lv_aload hx hb dX13_block_73 (lv_at hl 2 rfl) ?_
                                        refine lv_iload hx hb dX13_block_75 (lv_at hl 0 rfl) ?_
                                        have hL478 : na13 ∈ S475.1 := by rw [hS475]; exact hL466
                                        have hf479 : S475.2 na13 = .inl (cy 0, 4, .inl (upd (upd (upd (upd (fun _ => 0) 0 a1) 1 a2) 2 a3) 3 a4)) := by rw [hS475]; exact (pup_n (fun z : na13 = na428 => hq_na428 (by rw [← z]; exact hL27))).trans hf467
                                        refine p_ald C hw 0 rfl hL478 hf479 (by first | decide | omega) (by first | decide | omega) dX13_block_77 ?_
                                        refine x_ren (b := a4) rfl ?_
                                        refine lv_iconst (v := nI 0) hx hb dX13_block_78 (by decide) ?_
                                        refine lv_iconst (v := nI 1) hx hb dX13_block_79 (by decide) ?_
                                        refine lv_iload_n hx hb dX13_block_80 rfl (lv_at hl 5 rfl) ?_
                                        refine n_ishl hx hb (by omega) (by rw [← hPW]; omega) dX13_block_81 ?_
                                        refine n_ren (b := PW) (by rw [hPW, Nat.one_mul]) ?_
                                        refine lv_iconst (v := nI 1) hx hb dX13_block_82 (by decide) ?_
                                        refine n_isub hx hb (by first | decide | omega) dX13_block_83 ?_
                                        refine p_calli (va_runS (As := [.int a4, .int (nI 0), .int (nI (PW - 1))]) (rest := [.ref mm]) C.fix (e_X13_isIn l D cy S475 H.size a4 (nI 0) (nI (PW - 1)) a4.toInt ((0 : Nat) : Int) ((PW - 1 : Nat) : Int)  rfl (nI_toInt (by first | decide | omega)) (nI_toInt (show PW - 1 < 2 ^ 31 by omega))) (va_cwS 3 C.2.2.2.2.1 (gU_S mw_394 mw_395 mw_5 (subU mw_396)) rfl rfl rfl hde_X13_block_S_0 ⟨Nat.le_of_ble_eq_true rfl, Nat.le_of_ble_eq_true rfl⟩) (p_preS C hw) rfl rfl hl.1 rfl (lv_room (Nat.le_of_ble_eq_true rfl)) dX13_block_84 ⟨(Nat.le_of_ble_eq_true rfl), (Nat.le_of_ble_eq_true rfl)⟩) hw hA (fun r481 S480 H locs hpost hw => ?_)
                                        rcases hpost with hpost | hpost
                                        · skip
                                          obtain ⟨hc482, hr_, hS_⟩ := hpost
                                          subst hr_
                                          subst hS_
                                          refine n_if_ne (tgt := 94) hx hb (by first | decide | omega) dX13_block_87 (by decide) (fun h_87 => ?_) (fun h_87 => ?_)
                                          · skip
                                            refine lv_iconst (v := nI 0) hx hb dX13_block_94 (by decide) ?_
                                            refine lv_iconst (v := nI 1) hx hb dX13_block_95 (by decide) ?_
                                            have hL483 : mm ∈ S475.1 := by rw [hS475]; exact hL471
                                            have hf484 : S475.2 mm = .inr (13, [.int (nI 0), .ref me, .ref sg, .ref cn, .ref im]) := by rw [hS475]; exact (pup_n (fun z : mm = na428 => hq_na428 (by rw [← z]; exact hL445))).trans hf472
                                            refine p_calli (va_runV (As := [.int (nI 0), .int (nI 1)]) (rest := []) C.fix (e_X13_refuse0 l D cy S475 H.size mm me sg cn im 1 hL483 hf484 ) (cwV 2 C.2.2.2.2.1 (gU_V mw_402 mw_403 mw_404 mw_5 (subU mw_405)) rfl rfl rfl hde_X13_block_V_2 ⟨Nat.le_of_ble_eq_true rfl, Nat.le_of_ble_eq_true rfl⟩) (p_preV C hw hL483 hf484 rfl) rfl rfl hl.1 rfl (lv_room (Nat.le_of_ble_eq_true rfl)) dX13_block_96 ⟨(Nat.le_of_ble_eq_true rfl), (Nat.le_of_ble_eq_true rfl)⟩) hw hA (fun r486 S485 H locs hpost hw => ?_)
                                            obtain ⟨hr_, hS_⟩ := hpost
                                            subst hr_
                                            subst hS_
                                            refine n_if_eq (tgt := 104) hx hb (by first | decide | omega) dX13_block_99 (by decide) (fun h_99 => ?_) (fun h_99 => ?_)
                                            · skip
                                              refine lv_aload hx hb dX13_block_104 (lv_at hl 1 rfl) ?_
                                              refine lv_iload hx hb dX13_block_106 (lv_at hl 0 rfl) ?_
                                              refine lv_aload hx hb dX13_block_108 (lv_at hl 2 rfl) ?_
                                              refine lv_iload hx hb dX13_block_110 (lv_at hl 0 rfl) ?_
                                              refine p_ald C hw 0 rfl hL478 hf479 (by first | decide | omega) (by first | decide | omega) dX13_block_112 ?_
                                              refine x_ren (b := a4) rfl ?_
                                              refine p_ast C hw 0 rfl hL476 hf477 (by first | decide | omega) (by first | decide | omega) dX13_block_113 (fun H locs hw => ?_)
                                              obtain ⟨S487, hS487⟩ : ∃ z, z = pup S475 na428 (.inl (cy 0, 4, .inl (upd (upd (upd (upd (fun _ => 0) 0 a1) 1 a2) 2 a3) 3 a4))) := ⟨_, rfl⟩
                                              replace hw : pW D (pA S s.heap.size) s.heap S487 H locs := by rw [hS487]; exact hw
                                              have hL488 : na428 ∈ S487.1 := by rw [hS487]; exact hL476
                                              have hf489 : S487.2 na428 = .inl (cy 0, 4, .inl (upd (upd (upd (upd (fun _ => 0) 0 a1) 1 a2) 2 a3) 3 a4)) := by rw [hS487]; exact pup_s
                                              refine lv_iinc (v := (nI 4)) (lv' := [(9, .int (nI 4)), (8, .ref na428), (7, .ref na13), (0, .ref mm), (1, .int (nI 4)), (2, .int (nI nN)), (3, .int a1), (4, .int a2), (5, .int a3), (6, .int a4)]) hx hb dX13_block_114 hl (k := 0) rfl (by decide) (by decide) rfl (fun ls hl => ?_)
                                              refine lv_goto (tgt := 66) hx hb dX13_block_117 (by decide) ?_
                                              refine lv_iload hx hb dX13_block_66 (lv_at hl 0 rfl) ?_
                                              refine lv_iload_n hx hb dX13_block_68 rfl (lv_at hl 4 rfl) ?_
                                              refine n_icmp_ge (tgt := 120) hx hb (by first | decide | omega) (by first | decide | omega) dX13_block_69 (by decide) (fun h_69 => ?_) (fun h_69 => ?_)
                                              · skip
                                                refine lv_aload_n hx hb dX13_block_120 rfl (lv_at hl 3 rfl) ?_
                                                refine p_new C hw hA (ci := 12) (Cn := RX12) (T := TX12) (N := 4) (fs := [.int (nI 0), .int (nI 0), .int (nI 0), .null]) tyX12 tyX12_ok rfl hin_RX12 (mU mw_418) (mU mw_590) (mU mw_407) (fun j hj => by rcases (show j = 0 ∨ j = 1 ∨ j = 2 ∨ j = 3 by omega) with rfl | rfl | rfl | rfl <;> rfl) (Nat.le_of_ble_eq_true rfl) (Nat.le_of_ble_eq_true rfl) dX13_block_121 (fun nq490 H hq_nq490 hw => ?_)
                                                obtain ⟨S491, hS491⟩ : ∃ z, z = pnew S487 nq490 (.inr (12, [.int (nI 0), .int (nI 0), .int (nI 0), .null])) := ⟨_, rfl⟩
                                                replace hw : pW D (pA S s.heap.size) s.heap S491 H locs := by rw [hS491]; exact hw
                                                have hL492 : nq490 ∈ S491.1 := by rw [hS491]; exact List.mem_append_right _ List.mem_cons_self
                                                have hf493 : S491.2 nq490 = .inr (12, [.int (nI 0), .int (nI 0), .int (nI 0), .null]) := by rw [hS491]; exact pnew_s
                                                refine lv_dup hx hb dX13_block_124 rfl ?_
                                                refine lv_iconst (v := nI 1) hx hb dX13_block_125 (by decide) ?_
                                                refine lv_iload_n hx hb dX13_block_126 rfl (lv_at hl 4 rfl) ?_
                                                refine lv_iload_n hx hb dX13_block_127 rfl (lv_at hl 5 rfl) ?_
                                                refine lv_aload hx hb dX13_block_128 (lv_at hl 1 rfl) ?_
                                                refine p_callv (va_runI (As := [.int (nI 1), .int (nI 4), .int (nI nN), .ref na428]) (rest := [.ref nq490, .ref mm]) C.fix (e_X12_init l D cy S491 H.size nq490 na428 1 4 nN hL492 hf493 ) (cwI 4 C.2.2.2.2.1 (gU_sub (subU mw_593)) rfl rfl rfl (C.2.2.2.2.1 (.initialized RX12) (mU mw_407)) (C.2.2.2.2.1 (.methodLink RX13 127 yX12_init) (mU mw_591)) (C.2.2.2.2.1 (.instanceMethod yX12_init) (mU mw_592)) rfl (by decide +kernel) ⟨Nat.le_of_ble_eq_true rfl, Nat.le_of_ble_eq_true rfl⟩) (p_preS C hw) rfl rfl hl.1 rfl (lv_room (Nat.le_of_ble_eq_true rfl)) dX13_block_130 ⟨(Nat.le_of_ble_eq_true rfl), (Nat.le_of_ble_eq_true rfl)⟩) hw hA (fun S494 H locs hpost hw => ?_)
                                                obtain ⟨hS496, hfr497, hf498⟩ := hpost
                                                have hL499 : nq490 ∈ S494.1 := by rw [hS496]; exact List.mem_append_left _ hL492
                                                have hL500 : mm ∈ S487.1 := by rw [hS487]; exact hL483
                                                have hf501 : S487.2 mm = .inr (13, [.int (nI 0), .ref me, .ref sg, .ref cn, .ref im]) := by rw [hS487]; exact (pup_n (fun z : mm = na428 => hq_na428 (by rw [← z]; exact hL445))).trans hf484
                                                have hL502 : mm ∈ S491.1 := by rw [hS491]; exact List.mem_append_left _ hL500
                                                have hf503 : S491.2 mm = .inr (13, [.int (nI 0), .ref me, .ref sg, .ref cn, .ref im]) := by rw [hS491]; exact (pnew_n (fun z : mm = nq490 => hq_nq490 (by rw [← z]; exact hL500))).trans hf501
                                                have hL504 : mm ∈ S494.1 := by rw [hS496]; exact List.mem_append_left _ hL502
                                                have hf505 : S494.2 mm = .inr (13, [.int (nI 0), .ref me, .ref sg, .ref cn, .ref im]) := (hfr497 mm hL502 (fun z : mm = nq490 => hq_nq490 (by rw [← z]; exact hL500))).trans hf503
                                                have hL506 : me ∈ S7.1 := by rw [hS9]; exact List.mem_append_left _ hL_me
                                                have hf507 : S7.2 me = .inl (cy 0, 0, .inl (fun _ => 0)) := (hfr10 me hL_me (ne_cells hf_me hf_mm (by nofun))).trans hf_me
                                                have hL508 : me ∈ S14.1 := by rw [hS14]; exact List.mem_append_left _ hL506
                                                have hf509 : S14.2 me = .inl (cy 0, 0, .inl (fun _ => 0)) := by rw [hS14]; exact (pnew_n (fun z : me = na13 => hq_na13 (by rw [← z]; exact hL506))).trans hf507
                                                have hL510 : me ∈ S17.1 := by rw [hS17]; exact hL508
                                                have hf511 : S17.2 me = .inl (cy 0, 0, .inl (fun _ => 0)) := by rw [hS17]; exact (pup_n (fun z : me = na13 => hq_na13 (by rw [← z]; exact hL506))).trans hf509
                                                have hL512 : me ∈ S20.1 := by rw [hS20]; exact hL510
                                                have hf513 : S20.2 me = .inl (cy 0, 0, .inl (fun _ => 0)) := by rw [hS20]; exact (pup_n (fun z : me = na13 => hq_na13 (by rw [← z]; exact hL506))).trans hf511
                                                have hL514 : me ∈ S23.1 := by rw [hS23]; exact hL512
                                                have hf515 : S23.2 me = .inl (cy 0, 0, .inl (fun _ => 0)) := by rw [hS23]; exact (pup_n (fun z : me = na13 => hq_na13 (by rw [← z]; exact hL506))).trans hf513
                                                have hL516 : me ∈ S26.1 := by rw [hS26]; exact hL514
                                                have hf517 : S26.2 me = .inl (cy 0, 0, .inl (fun _ => 0)) := by rw [hS26]; exact (pup_n (fun z : me = na13 => hq_na13 (by rw [← z]; exact hL506))).trans hf515
                                                have hL518 : me ∈ S429.1 := by rw [hS429]; exact List.mem_append_left _ hL516
                                                have hf519 : S429.2 me = .inl (cy 0, 0, .inl (fun _ => 0)) := by rw [hS429]; exact (pnew_n (fun z : me = na428 => hq_na428 (by rw [← z]; exact hL516))).trans hf517
                                                have hL520 : me ∈ S451.1 := by rw [hS451]; exact hL518
                                                have hf521 : S451.2 me = .inl (cy 0, 0, .inl (fun _ => 0)) := by rw [hS451]; exact (pup_n (fun z : me = na428 => hq_na428 (by rw [← z]; exact hL516))).trans hf519
                                                have hL522 : me ∈ S463.1 := by rw [hS463]; exact hL520
                                                have hf523 : S463.2 me = .inl (cy 0, 0, .inl (fun _ => 0)) := by rw [hS463]; exact (pup_n (fun z : me = na428 => hq_na428 (by rw [← z]; exact hL516))).trans hf521
                                                have hL524 : me ∈ S475.1 := by rw [hS475]; exact hL522
                                                have hf525 : S475.2 me = .inl (cy 0, 0, .inl (fun _ => 0)) := by rw [hS475]; exact (pup_n (fun z : me = na428 => hq_na428 (by rw [← z]; exact hL516))).trans hf523
                                                have hL526 : me ∈ S487.1 := by rw [hS487]; exact hL524
                                                have hf527 : S487.2 me = .inl (cy 0, 0, .inl (fun _ => 0)) := by rw [hS487]; exact (pup_n (fun z : me = na428 => hq_na428 (by rw [← z]; exact hL516))).trans hf525
                                                have hL528 : me ∈ S491.1 := by rw [hS491]; exact List.mem_append_left _ hL526
                                                have hf529 : S491.2 me = .inl (cy 0, 0, .inl (fun _ => 0)) := by rw [hS491]; exact (pnew_n (fun z : me = nq490 => hq_nq490 (by rw [← z]; exact hL526))).trans hf527
                                                have hL530 : me ∈ S494.1 := by rw [hS496]; exact List.mem_append_left _ hL528
                                                have hf531 : S494.2 me = .inl (cy 0, 0, .inl (fun _ => 0)) := (hfr497 me hL528 (fun z : me = nq490 => hq_nq490 (by rw [← z]; exact hL526))).trans hf529
                                                have hL532 : sg ∈ S7.1 := by rw [hS9]; exact List.mem_append_left _ hL_sg
                                                have hf533 : S7.2 sg = .inr (0, [.int (nI 0), .ref ed, .int (nI 0)]) := (hfr10 sg hL_sg (ne_cells hf_sg hf_mm (by nofun))).trans hf_sg
                                                have hL534 : sg ∈ S14.1 := by rw [hS14]; exact List.mem_append_left _ hL532
                                                have hf535 : S14.2 sg = .inr (0, [.int (nI 0), .ref ed, .int (nI 0)]) := by rw [hS14]; exact (pnew_n (fun z : sg = na13 => hq_na13 (by rw [← z]; exact hL532))).trans hf533
                                                have hL536 : sg ∈ S17.1 := by rw [hS17]; exact hL534
                                                have hf537 : S17.2 sg = .inr (0, [.int (nI 0), .ref ed, .int (nI 0)]) := by rw [hS17]; exact (pup_n (fun z : sg = na13 => hq_na13 (by rw [← z]; exact hL532))).trans hf535
                                                have hL538 : sg ∈ S20.1 := by rw [hS20]; exact hL536
                                                have hf539 : S20.2 sg = .inr (0, [.int (nI 0), .ref ed, .int (nI 0)]) := by rw [hS20]; exact (pup_n (fun z : sg = na13 => hq_na13 (by rw [← z]; exact hL532))).trans hf537
                                                have hL540 : sg ∈ S23.1 := by rw [hS23]; exact hL538
                                                have hf541 : S23.2 sg = .inr (0, [.int (nI 0), .ref ed, .int (nI 0)]) := by rw [hS23]; exact (pup_n (fun z : sg = na13 => hq_na13 (by rw [← z]; exact hL532))).trans hf539
                                                have hL542 : sg ∈ S26.1 := by rw [hS26]; exact hL540
                                                have hf543 : S26.2 sg = .inr (0, [.int (nI 0), .ref ed, .int (nI 0)]) := by rw [hS26]; exact (pup_n (fun z : sg = na13 => hq_na13 (by rw [← z]; exact hL532))).trans hf541
                                                have hL544 : sg ∈ S429.1 := by rw [hS429]; exact List.mem_append_left _ hL542
                                                have hf545 : S429.2 sg = .inr (0, [.int (nI 0), .ref ed, .int (nI 0)]) := by rw [hS429]; exact (pnew_n (fun z : sg = na428 => hq_na428 (by rw [← z]; exact hL542))).trans hf543
                                                have hL546 : sg ∈ S451.1 := by rw [hS451]; exact hL544
                                                have hf547 : S451.2 sg = .inr (0, [.int (nI 0), .ref ed, .int (nI 0)]) := by rw [hS451]; exact (pup_n (fun z : sg = na428 => hq_na428 (by rw [← z]; exact hL542))).trans hf545
                                                have hL548 : sg ∈ S463.1 := by rw [hS463]; exact hL546
                                                have hf549 : S463.2 sg = .inr (0, [.int (nI 0), .ref ed, .int (nI 0)]) := by rw [hS463]; exact (pup_n (fun z : sg = na428 => hq_na428 (by rw [← z]; exact hL542))).trans hf547
                                                have hL550 : sg ∈ S475.1 := by rw [hS475]; exact hL548
                                                have hf551 : S475.2 sg = .inr (0, [.int (nI 0), .ref ed, .int (nI 0)]) := by rw [hS475]; exact (pup_n (fun z : sg = na428 => hq_na428 (by rw [← z]; exact hL542))).trans hf549
                                                have hL552 : sg ∈ S487.1 := by rw [hS487]; exact hL550
                                                have hf553 : S487.2 sg = .inr (0, [.int (nI 0), .ref ed, .int (nI 0)]) := by rw [hS487]; exact (pup_n (fun z : sg = na428 => hq_na428 (by rw [← z]; exact hL542))).trans hf551
                                                have hL554 : sg ∈ S491.1 := by rw [hS491]; exact List.mem_append_left _ hL552
                                                have hf555 : S491.2 sg = .inr (0, [.int (nI 0), .ref ed, .int (nI 0)]) := by rw [hS491]; exact (pnew_n (fun z : sg = nq490 => hq_nq490 (by rw [← z]; exact hL552))).trans hf553
                                                have hL556 : sg ∈ S494.1 := by rw [hS496]; exact List.mem_append_left _ hL554
                                                have hf557 : S494.2 sg = .inr (0, [.int (nI 0), .ref ed, .int (nI 0)]) := (hfr497 sg hL554 (fun z : sg = nq490 => hq_nq490 (by rw [← z]; exact hL552))).trans hf555
                                                refine p_calli (va_runV (As := [.ref nq490]) (rest := []) C.fix (e_X13_addblk l D cy ed S494 H.size mm nq490 me sg cn im na428 4 nN hL504 hf505 hL530 hf531 hL556 hf557 hL499 hf498 (by first | assumption | decide | omega) (by first | assumption | decide | omega)) (cwV 1 C.2.2.2.2.1 (gU_V mw_595 mw_596 mw_597 mw_5 (subU mw_598)) rfl rfl rfl hde_X13_block_V_3 ⟨Nat.le_of_ble_eq_true rfl, Nat.le_of_ble_eq_true rfl⟩) (e_preV C hw hA hE hL504 hf505 rfl) rfl rfl hl.1 rfl (lv_room (Nat.le_of_ble_eq_true rfl)) dX13_block_133 ⟨(Nat.le_of_ble_eq_true rfl), (Nat.le_of_ble_eq_true rfl)⟩) hw hA (fun r559 S558 H locs hpost hw => ?_)
                                                obtain ⟨nl560, hr_, hS561, hfr562⟩ := hpost
                                                subst hr_
                                                refine W.widen (k := 8) (n := 40) (Nat.le_of_ble_eq_true rfl) (Nat.le_of_ble_eq_true rfl) ?_
                                                have hL563 : mm ∈ S558.1 := by rw [hS561]; exact List.mem_append_left _ hL504
                                                have hf564 : S558.2 mm = .inr (13, [.int (nI 0), .ref me, .ref sg, .ref cn, .ref im]) := (hfr562 mm hL504 (ne_cells hf505 hf557 (by nofun))).trans hf505
                                                exact (p_iret C hw ((Or.inl ⟨([na13] ++ [na428] ++ [nq490] ++ nl560), (by unfold okB6; rw [hnn]; first | exact ⟨⟨by omega, by omega⟩, ⟨by omega, by omega⟩, (okF_in hPW).mp (by omega), (fun q => (okF_in hPW).mp (by omega)), (fun q => (okF_in hPW).mp (by omega)), (fun q => (okF_in hPW).mp (by omega))⟩ | exact (fun h => by have q1 := (okF_in hPW).mpr h.2.2.1; omega) | exact (fun h => by have q1 := (okF_in hPW).mpr (h.2.2.2.1 (by omega)); omega) | exact (fun h => by have q1 := (okF_in hPW).mpr (h.2.2.2.2.1 (by omega)); omega) | exact (fun h => by have q1 := (okF_in hPW).mpr (h.2.2.2.2.2 (by omega)); omega)), rfl, (by simp only [hS561, hS496, hS491, hS487, hS475, hS463, hS451, hS429, hS26, hS23, hS20, hS17, hS14, hS9, pup, pnew, List.append_nil, List.append_assoc, List.cons_append, List.nil_append]), (fun a_ ha_ hn_0 hn_1 => ((hfr562 a_ (show a_ ∈ S494.1 from by rw [hS496]; exact List.mem_append_left _ (show a_ ∈ S491.1 from by rw [hS491]; exact List.mem_append_left _ (show a_ ∈ S487.1 from by rw [hS487]; exact (show a_ ∈ S475.1 from by rw [hS475]; exact (show a_ ∈ S463.1 from by rw [hS463]; exact (show a_ ∈ S451.1 from by rw [hS451]; exact (show a_ ∈ S429.1 from by rw [hS429]; exact List.mem_append_left _ (show a_ ∈ S26.1 from by rw [hS26]; exact (show a_ ∈ S23.1 from by rw [hS23]; exact (show a_ ∈ S20.1 from by rw [hS20]; exact (show a_ ∈ S17.1 from by rw [hS17]; exact (show a_ ∈ S14.1 from by rw [hS14]; exact List.mem_append_left _ (show a_ ∈ S7.1 from by rw [hS9]; exact List.mem_append_left _ ha_))))))))))))) hn_1).trans ((hfr497 a_ (show a_ ∈ S491.1 from by rw [hS491]; exact List.mem_append_left _ (show a_ ∈ S487.1 from by rw [hS487]; exact (show a_ ∈ S475.1 from by rw [hS475]; exact (show a_ ∈ S463.1 from by rw [hS463]; exact (show a_ ∈ S451.1 from by rw [hS451]; exact (show a_ ∈ S429.1 from by rw [hS429]; exact List.mem_append_left _ (show a_ ∈ S26.1 from by rw [hS26]; exact (show a_ ∈ S23.1 from by rw [hS23]; exact (show a_ ∈ S20.1 from by rw [hS20]; exact (show a_ ∈ S17.1 from by rw [hS17]; exact (show a_ ∈ S14.1 from by rw [hS14]; exact List.mem_append_left _ (show a_ ∈ S7.1 from by rw [hS9]; exact List.mem_append_left _ ha_)))))))))))) (fun z : a_ = nq490 => hq_nq490 (by rw [← z]; exact (show a_ ∈ S487.1 from by rw [hS487]; exact (show a_ ∈ S475.1 from by rw [hS475]; exact (show a_ ∈ S463.1 from by rw [hS463]; exact (show a_ ∈ S451.1 from by rw [hS451]; exact (show a_ ∈ S429.1 from by rw [hS429]; exact List.mem_append_left _ (show a_ ∈ S26.1 from by rw [hS26]; exact (show a_ ∈ S23.1 from by rw [hS23]; exact (show a_ ∈ S20.1 from by rw [hS20]; exact (show a_ ∈ S17.1 from by rw [hS17]; exact (show a_ ∈ S14.1 from by rw [hS14]; exact List.mem_append_left _ (show a_ ∈ S7.1 from by rw [hS9]; exact List.mem_append_left _ ha_)))))))))))))).trans ((show S491.2 a_ = S487.2 a_ from by rw [hS491]; exact pnew_n (fun z : a_ = nq490 => hq_nq490 (by rw [← z]; exact (show a_ ∈ S487.1 from by rw [hS487]; exact (show a_ ∈ S475.1 from by rw [hS475]; exact (show a_ ∈ S463.1 from by rw [hS463]; exact (show a_ ∈ S451.1 from by rw [hS451]; exact (show a_ ∈ S429.1 from by rw [hS429]; exact List.mem_append_left _ (show a_ ∈ S26.1 from by rw [hS26]; exact (show a_ ∈ S23.1 from by rw [hS23]; exact (show a_ ∈ S20.1 from by rw [hS20]; exact (show a_ ∈ S17.1 from by rw [hS17]; exact (show a_ ∈ S14.1 from by rw [hS14]; exact List.mem_append_left _ (show a_ ∈ S7.1 from by rw [hS9]; exact List.mem_append_left _ ha_)))))))))))))).trans ((show S487.2 a_ = S475.2 a_ from by rw [hS487]; exact pup_n (fun z : a_ = na428 => hq_na428 (by rw [← z]; exact (show a_ ∈ S26.1 from by rw [hS26]; exact (show a_ ∈ S23.1 from by rw [hS23]; exact (show a_ ∈ S20.1 from by rw [hS20]; exact (show a_ ∈ S17.1 from by rw [hS17]; exact (show a_ ∈ S14.1 from by rw [hS14]; exact List.mem_append_left _ (show a_ ∈ S7.1 from by rw [hS9]; exact List.mem_append_left _ ha_))))))))).trans ((show S475.2 a_ = S463.2 a_ from by rw [hS475]; exact pup_n (fun z : a_ = na428 => hq_na428 (by rw [← z]; exact (show a_ ∈ S26.1 from by rw [hS26]; exact (show a_ ∈ S23.1 from by rw [hS23]; exact (show a_ ∈ S20.1 from by rw [hS20]; exact (show a_ ∈ S17.1 from by rw [hS17]; exact (show a_ ∈ S14.1 from by rw [hS14]; exact List.mem_append_left _ (show a_ ∈ S7.1 from by rw [hS9]; exact List.mem_append_left _ ha_))))))))).trans ((show S463.2 a_ = S451.2 a_ from by rw [hS463]; exact pup_n (fun z : a_ = na428 => hq_na428 (by rw [← z]; exact (show a_ ∈ S26.1 from by rw [hS26]; exact (show a_ ∈ S23.1 from by rw [hS23]; exact (show a_ ∈ S20.1 from by rw [hS20]; exact (show a_ ∈ S17.1 from by rw [hS17]; exact (show a_ ∈ S14.1 from by rw [hS14]; exact List.mem_append_left _ (show a_ ∈ S7.1 from by rw [hS9]; exact List.mem_append_left _ ha_))))))))).trans ((show S451.2 a_ = S429.2 a_ from by rw [hS451]; exact pup_n (fun z : a_ = na428 => hq_na428 (by rw [← z]; exact (show a_ ∈ S26.1 from by rw [hS26]; exact (show a_ ∈ S23.1 from by rw [hS23]; exact (show a_ ∈ S20.1 from by rw [hS20]; exact (show a_ ∈ S17.1 from by rw [hS17]; exact (show a_ ∈ S14.1 from by rw [hS14]; exact List.mem_append_left _ (show a_ ∈ S7.1 from by rw [hS9]; exact List.mem_append_left _ ha_))))))))).trans ((show S429.2 a_ = S26.2 a_ from by rw [hS429]; exact pnew_n (fun z : a_ = na428 => hq_na428 (by rw [← z]; exact (show a_ ∈ S26.1 from by rw [hS26]; exact (show a_ ∈ S23.1 from by rw [hS23]; exact (show a_ ∈ S20.1 from by rw [hS20]; exact (show a_ ∈ S17.1 from by rw [hS17]; exact (show a_ ∈ S14.1 from by rw [hS14]; exact List.mem_append_left _ (show a_ ∈ S7.1 from by rw [hS9]; exact List.mem_append_left _ ha_))))))))).trans ((show S26.2 a_ = S23.2 a_ from by rw [hS26]; exact pup_n (fun z : a_ = na13 => hq_na13 (by rw [← z]; exact (show a_ ∈ S7.1 from by rw [hS9]; exact List.mem_append_left _ ha_)))).trans ((show S23.2 a_ = S20.2 a_ from by rw [hS23]; exact pup_n (fun z : a_ = na13 => hq_na13 (by rw [← z]; exact (show a_ ∈ S7.1 from by rw [hS9]; exact List.mem_append_left _ ha_)))).trans ((show S20.2 a_ = S17.2 a_ from by rw [hS20]; exact pup_n (fun z : a_ = na13 => hq_na13 (by rw [← z]; exact (show a_ ∈ S7.1 from by rw [hS9]; exact List.mem_append_left _ ha_)))).trans ((show S17.2 a_ = S14.2 a_ from by rw [hS17]; exact pup_n (fun z : a_ = na13 => hq_na13 (by rw [← z]; exact (show a_ ∈ S7.1 from by rw [hS9]; exact List.mem_append_left _ ha_)))).trans ((show S14.2 a_ = S7.2 a_ from by rw [hS14]; exact pnew_n (fun z : a_ = na13 => hq_na13 (by rw [← z]; exact (show a_ ∈ S7.1 from by rw [hS9]; exact List.mem_append_left _ ha_)))).trans (hfr10 a_ ha_ hn_0))))))))))))))), hf564⟩)) hr hlocks dX13_block_136)
                                              · exact absurd h_69 (by first | decide | omega)
                                            · exact absurd h_99 (by first | decide | omega)
                                          · exact absurd h_87 (by first | decide | omega)
                                        · skip
                                          obtain ⟨hc565, hr_, hS_⟩ := hpost
                                          subst hr_
                                          subst hS_
                                          refine n_if_ne (tgt := 94) hx hb (by first | decide | omega) dX13_block_87 (by decide) (fun h_87 => ?_) (fun h_87 => ?_)
                                          · exact absurd h_87 (by first | decide | omega)
                                          · skip
                                            refine lv_iconst (v := nI 1) hx hb dX13_block_90 (by decide) ?_
                                            refine lv_goto (tgt := 95) hx hb dX13_block_91 (by decide) ?_
                                            refine lv_iconst (v := nI 1) hx hb dX13_block_95 (by decide) ?_
                                            have hL566 : mm ∈ S475.1 := by rw [hS475]; exact hL471
                                            have hf567 : S475.2 mm = .inr (13, [.int (nI 0), .ref me, .ref sg, .ref cn, .ref im]) := by rw [hS475]; exact (pup_n (fun z : mm = na428 => hq_na428 (by rw [← z]; exact hL445))).trans hf472
                                            refine p_calli (va_runV (As := [.int (nI 1), .int (nI 1)]) (rest := []) C.fix (e_X13_refuse1 l D cy S475 H.size mm me sg cn im 1 hL566 hf567 (by first | assumption | decide | omega) (by first | assumption | decide | omega)) (cwV 2 C.2.2.2.2.1 (gU_V mw_402 mw_403 mw_404 mw_5 (subU mw_405)) rfl rfl rfl hde_X13_block_V_2 ⟨Nat.le_of_ble_eq_true rfl, Nat.le_of_ble_eq_true rfl⟩) (p_preV C hw hL566 hf567 rfl) rfl rfl hl.1 rfl (lv_room (Nat.le_of_ble_eq_true rfl)) dX13_block_96 ⟨(Nat.le_of_ble_eq_true rfl), (Nat.le_of_ble_eq_true rfl)⟩) hw hA (fun r569 S568 H locs hpost hw => ?_)
                                            obtain ⟨hr_, hS570, hfr571, hf572⟩ := hpost
                                            subst hr_
                                            have hL573 : mm ∈ S568.1 := by rw [hS570]; exact List.mem_append_left _ hL566
                                            refine n_if_eq (tgt := 104) hx hb (by first | decide | omega) dX13_block_99 (by decide) (fun h_99 => ?_) (fun h_99 => ?_)
                                            · exact absurd h_99 (by first | decide | omega)
                                            · skip
                                              refine lv_iconst (v := nI 0) hx hb dX13_block_102 (by decide) ?_
                                              refine W.widen (k := 8) (n := 40) (Nat.le_of_ble_eq_true rfl) (Nat.le_of_ble_eq_true rfl) ?_
                                              exact (p_iret C hw ((Or.inr ⟨([na13] ++ [na428]), (by unfold okB6; rw [hnn]; first | exact ⟨⟨by omega, by omega⟩, ⟨by omega, by omega⟩, (okF_in hPW).mp (by omega), (fun q => (okF_in hPW).mp (by omega)), (fun q => (okF_in hPW).mp (by omega)), (fun q => (okF_in hPW).mp (by omega))⟩ | exact (fun h => by have q1 := (okF_in hPW).mpr h.2.2.1; omega) | exact (fun h => by have q1 := (okF_in hPW).mpr (h.2.2.2.1 (by omega)); omega) | exact (fun h => by have q1 := (okF_in hPW).mpr (h.2.2.2.2.1 (by omega)); omega) | exact (fun h => by have q1 := (okF_in hPW).mpr (h.2.2.2.2.2 (by omega)); omega)), rfl, (by simp only [hS570, hS475, hS463, hS451, hS429, hS26, hS23, hS20, hS17, hS14, hS9, pup, pnew, List.append_nil, List.append_assoc, List.cons_append, List.nil_append]), (fun a_ ha_ hn_0 => ((hfr571 a_ (show a_ ∈ S475.1 from by rw [hS475]; exact (show a_ ∈ S463.1 from by rw [hS463]; exact (show a_ ∈ S451.1 from by rw [hS451]; exact (show a_ ∈ S429.1 from by rw [hS429]; exact List.mem_append_left _ (show a_ ∈ S26.1 from by rw [hS26]; exact (show a_ ∈ S23.1 from by rw [hS23]; exact (show a_ ∈ S20.1 from by rw [hS20]; exact (show a_ ∈ S17.1 from by rw [hS17]; exact (show a_ ∈ S14.1 from by rw [hS14]; exact List.mem_append_left _ (show a_ ∈ S7.1 from by rw [hS9]; exact List.mem_append_left _ ha_)))))))))) hn_0).trans ((show S475.2 a_ = S463.2 a_ from by rw [hS475]; exact pup_n (fun z : a_ = na428 => hq_na428 (by rw [← z]; exact (show a_ ∈ S26.1 from by rw [hS26]; exact (show a_ ∈ S23.1 from by rw [hS23]; exact (show a_ ∈ S20.1 from by rw [hS20]; exact (show a_ ∈ S17.1 from by rw [hS17]; exact (show a_ ∈ S14.1 from by rw [hS14]; exact List.mem_append_left _ (show a_ ∈ S7.1 from by rw [hS9]; exact List.mem_append_left _ ha_))))))))).trans ((show S463.2 a_ = S451.2 a_ from by rw [hS463]; exact pup_n (fun z : a_ = na428 => hq_na428 (by rw [← z]; exact (show a_ ∈ S26.1 from by rw [hS26]; exact (show a_ ∈ S23.1 from by rw [hS23]; exact (show a_ ∈ S20.1 from by rw [hS20]; exact (show a_ ∈ S17.1 from by rw [hS17]; exact (show a_ ∈ S14.1 from by rw [hS14]; exact List.mem_append_left _ (show a_ ∈ S7.1 from by rw [hS9]; exact List.mem_append_left _ ha_))))))))).trans ((show S451.2 a_ = S429.2 a_ from by rw [hS451]; exact pup_n (fun z : a_ = na428 => hq_na428 (by rw [← z]; exact (show a_ ∈ S26.1 from by rw [hS26]; exact (show a_ ∈ S23.1 from by rw [hS23]; exact (show a_ ∈ S20.1 from by rw [hS20]; exact (show a_ ∈ S17.1 from by rw [hS17]; exact (show a_ ∈ S14.1 from by rw [hS14]; exact List.mem_append_left _ (show a_ ∈ S7.1 from by rw [hS9]; exact List.mem_append_left _ ha_))))))))).trans ((show S429.2 a_ = S26.2 a_ from by rw [hS429]; exact pnew_n (fun z : a_ = na428 => hq_na428 (by rw [← z]; exact (show a_ ∈ S26.1 from by rw [hS26]; exact (show a_ ∈ S23.1 from by rw [hS23]; exact (show a_ ∈ S20.1 from by rw [hS20]; exact (show a_ ∈ S17.1 from by rw [hS17]; exact (show a_ ∈ S14.1 from by rw [hS14]; exact List.mem_append_left _ (show a_ ∈ S7.1 from by rw [hS9]; exact List.mem_append_left _ ha_))))))))).trans ((show S26.2 a_ = S23.2 a_ from by rw [hS26]; exact pup_n (fun z : a_ = na13 => hq_na13 (by rw [← z]; exact (show a_ ∈ S7.1 from by rw [hS9]; exact List.mem_append_left _ ha_)))).trans ((show S23.2 a_ = S20.2 a_ from by rw [hS23]; exact pup_n (fun z : a_ = na13 => hq_na13 (by rw [← z]; exact (show a_ ∈ S7.1 from by rw [hS9]; exact List.mem_append_left _ ha_)))).trans ((show S20.2 a_ = S17.2 a_ from by rw [hS20]; exact pup_n (fun z : a_ = na13 => hq_na13 (by rw [← z]; exact (show a_ ∈ S7.1 from by rw [hS9]; exact List.mem_append_left _ ha_)))).trans ((show S17.2 a_ = S14.2 a_ from by rw [hS17]; exact pup_n (fun z : a_ = na13 => hq_na13 (by rw [← z]; exact (show a_ ∈ S7.1 from by rw [hS9]; exact List.mem_append_left _ ha_)))).trans ((show S14.2 a_ = S7.2 a_ from by rw [hS14]; exact pnew_n (fun z : a_ = na13 => hq_na13 (by rw [← z]; exact (show a_ ∈ S7.1 from by rw [hS9]; exact List.mem_append_left _ ha_)))).trans (hfr10 a_ ha_ hn_0)))))))))))), hf572⟩)) hr hlocks dX13_block_103)
                                    · exact absurd h_99 (by first | decide | omega)
                                  · exact absurd h_87 (by first | decide | omega)
                                · skip
                                  obtain ⟨hc574, hr_, hS_⟩ := hpost
                                  subst hr_
                                  subst hS_
                                  refine n_if_ne (tgt := 94) hx hb (by first | decide | omega) dX13_block_87 (by decide) (fun h_87 => ?_) (fun h_87 => ?_)
                                  · exact absurd h_87 (by first | decide | omega)
                                  · skip
                                    refine lv_iconst (v := nI 1) hx hb dX13_block_90 (by decide) ?_
                                    refine lv_goto (tgt := 95) hx hb dX13_block_91 (by decide) ?_
                                    refine lv_iconst (v := nI 1) hx hb dX13_block_95 (by decide) ?_
                                    have hL575 : mm ∈ S463.1 := by rw [hS463]; exact hL459
                                    have hf576 : S463.2 mm = .inr (13, [.int (nI 0), .ref me, .ref sg, .ref cn, .ref im]) := by rw [hS463]; exact (pup_n (fun z : mm = na428 => hq_na428 (by rw [← z]; exact hL445))).trans hf460
                                    refine p_calli (va_runV (As := [.int (nI 1), .int (nI 1)]) (rest := []) C.fix (e_X13_refuse1 l D cy S463 H.size mm me sg cn im 1 hL575 hf576 (by first | assumption | decide | omega) (by first | assumption | decide | omega)) (cwV 2 C.2.2.2.2.1 (gU_V mw_402 mw_403 mw_404 mw_5 (subU mw_405)) rfl rfl rfl hde_X13_block_V_2 ⟨Nat.le_of_ble_eq_true rfl, Nat.le_of_ble_eq_true rfl⟩) (p_preV C hw hL575 hf576 rfl) rfl rfl hl.1 rfl (lv_room (Nat.le_of_ble_eq_true rfl)) dX13_block_96 ⟨(Nat.le_of_ble_eq_true rfl), (Nat.le_of_ble_eq_true rfl)⟩) hw hA (fun r578 S577 H locs hpost hw => ?_)
                                    obtain ⟨hr_, hS579, hfr580, hf581⟩ := hpost
                                    subst hr_
                                    have hL582 : mm ∈ S577.1 := by rw [hS579]; exact List.mem_append_left _ hL575
                                    refine n_if_eq (tgt := 104) hx hb (by first | decide | omega) dX13_block_99 (by decide) (fun h_99 => ?_) (fun h_99 => ?_)
                                    · exact absurd h_99 (by first | decide | omega)
                                    · skip
                                      refine lv_iconst (v := nI 0) hx hb dX13_block_102 (by decide) ?_
                                      refine W.widen (k := 8) (n := 40) (Nat.le_of_ble_eq_true rfl) (Nat.le_of_ble_eq_true rfl) ?_
                                      exact (p_iret C hw ((Or.inr ⟨([na13] ++ [na428]), (by unfold okB6; rw [hnn]; first | exact ⟨⟨by omega, by omega⟩, ⟨by omega, by omega⟩, (okF_in hPW).mp (by omega), (fun q => (okF_in hPW).mp (by omega)), (fun q => (okF_in hPW).mp (by omega)), (fun q => (okF_in hPW).mp (by omega))⟩ | exact (fun h => by have q1 := (okF_in hPW).mpr h.2.2.1; omega) | exact (fun h => by have q1 := (okF_in hPW).mpr (h.2.2.2.1 (by omega)); omega) | exact (fun h => by have q1 := (okF_in hPW).mpr (h.2.2.2.2.1 (by omega)); omega) | exact (fun h => by have q1 := (okF_in hPW).mpr (h.2.2.2.2.2 (by omega)); omega)), rfl, (by simp only [hS579, hS463, hS451, hS429, hS26, hS23, hS20, hS17, hS14, hS9, pup, pnew, List.append_nil, List.append_assoc, List.cons_append, List.nil_append]), (fun a_ ha_ hn_0 => ((hfr580 a_ (show a_ ∈ S463.1 from by rw [hS463]; exact (show a_ ∈ S451.1 from by rw [hS451]; exact (show a_ ∈ S429.1 from by rw [hS429]; exact List.mem_append_left _ (show a_ ∈ S26.1 from by rw [hS26]; exact (show a_ ∈ S23.1 from by rw [hS23]; exact (show a_ ∈ S20.1 from by rw [hS20]; exact (show a_ ∈ S17.1 from by rw [hS17]; exact (show a_ ∈ S14.1 from by rw [hS14]; exact List.mem_append_left _ (show a_ ∈ S7.1 from by rw [hS9]; exact List.mem_append_left _ ha_))))))))) hn_0).trans ((show S463.2 a_ = S451.2 a_ from by rw [hS463]; exact pup_n (fun z : a_ = na428 => hq_na428 (by rw [← z]; exact (show a_ ∈ S26.1 from by rw [hS26]; exact (show a_ ∈ S23.1 from by rw [hS23]; exact (show a_ ∈ S20.1 from by rw [hS20]; exact (show a_ ∈ S17.1 from by rw [hS17]; exact (show a_ ∈ S14.1 from by rw [hS14]; exact List.mem_append_left _ (show a_ ∈ S7.1 from by rw [hS9]; exact List.mem_append_left _ ha_))))))))).trans ((show S451.2 a_ = S429.2 a_ from by rw [hS451]; exact pup_n (fun z : a_ = na428 => hq_na428 (by rw [← z]; exact (show a_ ∈ S26.1 from by rw [hS26]; exact (show a_ ∈ S23.1 from by rw [hS23]; exact (show a_ ∈ S20.1 from by rw [hS20]; exact (show a_ ∈ S17.1 from by rw [hS17]; exact (show a_ ∈ S14.1 from by rw [hS14]; exact List.mem_append_left _ (show a_ ∈ S7.1 from by rw [hS9]; exact List.mem_append_left _ ha_))))))))).trans ((show S429.2 a_ = S26.2 a_ from by rw [hS429]; exact pnew_n (fun z : a_ = na428 => hq_na428 (by rw [← z]; exact (show a_ ∈ S26.1 from by rw [hS26]; exact (show a_ ∈ S23.1 from by rw [hS23]; exact (show a_ ∈ S20.1 from by rw [hS20]; exact (show a_ ∈ S17.1 from by rw [hS17]; exact (show a_ ∈ S14.1 from by rw [hS14]; exact List.mem_append_left _ (show a_ ∈ S7.1 from by rw [hS9]; exact List.mem_append_left _ ha_))))))))).trans ((show S26.2 a_ = S23.2 a_ from by rw [hS26]; exact pup_n (fun z : a_ = na13 => hq_na13 (by rw [← z]; exact (show a_ ∈ S7.1 from by rw [hS9]; exact List.mem_append_left _ ha_)))).trans ((show S23.2 a_ = S20.2 a_ from by rw [hS23]; exact pup_n (fun z : a_ = na13 => hq_na13 (by rw [← z]; exact (show a_ ∈ S7.1 from by rw [hS9]; exact List.mem_append_left _ ha_)))).trans ((show S20.2 a_ = S17.2 a_ from by rw [hS20]; exact pup_n (fun z : a_ = na13 => hq_na13 (by rw [← z]; exact (show a_ ∈ S7.1 from by rw [hS9]; exact List.mem_append_left _ ha_)))).trans ((show S17.2 a_ = S14.2 a_ from by rw [hS17]; exact pup_n (fun z : a_ = na13 => hq_na13 (by rw [← z]; exact (show a_ ∈ S7.1 from by rw [hS9]; exact List.mem_append_left _ ha_)))).trans ((show S14.2 a_ = S7.2 a_ from by rw [hS14]; exact pnew_n (fun z : a_ = na13 => hq_na13 (by rw [← z]; exact (show a_ ∈ S7.1 from by rw [hS9]; exact List.mem_append_left _ ha_)))).trans (hfr10 a_ ha_ hn_0))))))))))), hf581⟩)) hr hlocks dX13_block_103)
                            · exact absurd h_99 (by first | decide | omega)
                          · exact absurd h_87 (by first | decide | omega)
                        · skip
                          obtain ⟨hc583, hr_, hS_⟩ := hpost
                          subst hr_
                          subst hS_
                          refine n_if_ne (tgt := 94) hx hb (by first | decide | omega) dX13_block_87 (by decide) (fun h_87 => ?_) (fun h_87 => ?_)
                          · exact absurd h_87 (by first | decide | omega)
                          · skip
                            refine lv_iconst (v := nI 1) hx hb dX13_block_90 (by decide) ?_
                            refine lv_goto (tgt := 95) hx hb dX13_block_91 (by decide) ?_
                            refine lv_iconst (v := nI 1) hx hb dX13_block_95 (by decide) ?_
                            have hL584 : mm ∈ S451.1 := by rw [hS451]; exact hL447
                            have hf585 : S451.2 mm = .inr (13, [.int (nI 0), .ref me, .ref sg, .ref cn, .ref im]) := by rw [hS451]; exact (pup_n (fun z : mm = na428 => hq_na428 (by rw [← z]; exact hL445))).trans hf448
                            refine p_calli (va_runV (As := [.int (nI 1), .int (nI 1)]) (rest := []) C.fix (e_X13_refuse1 l D cy S451 H.size mm me sg cn im 1 hL584 hf585 (by first | assumption | decide | omega) (by first | assumption | decide | omega)) (cwV 2 C.2.2.2.2.1 (gU_V mw_402 mw_403 mw_404 mw_5 (subU mw_405)) rfl rfl rfl hde_X13_block_V_2 ⟨Nat.le_of_ble_eq_true rfl, Nat.le_of_ble_eq_true rfl⟩) (p_preV C hw hL584 hf585 rfl) rfl rfl hl.1 rfl (lv_room (Nat.le_of_ble_eq_true rfl)) dX13_block_96 ⟨(Nat.le_of_ble_eq_true rfl), (Nat.le_of_ble_eq_true rfl)⟩) hw hA (fun r587 S586 H locs hpost hw => ?_)
                            obtain ⟨hr_, hS588, hfr589, hf590⟩ := hpost
                            subst hr_
                            have hL591 : mm ∈ S586.1 := by rw [hS588]; exact List.mem_append_left _ hL584
                            refine n_if_eq (tgt := 104) hx hb (by first | decide | omega) dX13_block_99 (by decide) (fun h_99 => ?_) (fun h_99 => ?_)
                            · exact absurd h_99 (by first | decide | omega)
                            · skip
                              refine lv_iconst (v := nI 0) hx hb dX13_block_102 (by decide) ?_
                              refine W.widen (k := 8) (n := 40) (Nat.le_of_ble_eq_true rfl) (Nat.le_of_ble_eq_true rfl) ?_
                              exact (p_iret C hw ((Or.inr ⟨([na13] ++ [na428]), (by unfold okB6; rw [hnn]; first | exact ⟨⟨by omega, by omega⟩, ⟨by omega, by omega⟩, (okF_in hPW).mp (by omega), (fun q => (okF_in hPW).mp (by omega)), (fun q => (okF_in hPW).mp (by omega)), (fun q => (okF_in hPW).mp (by omega))⟩ | exact (fun h => by have q1 := (okF_in hPW).mpr h.2.2.1; omega) | exact (fun h => by have q1 := (okF_in hPW).mpr (h.2.2.2.1 (by omega)); omega) | exact (fun h => by have q1 := (okF_in hPW).mpr (h.2.2.2.2.1 (by omega)); omega) | exact (fun h => by have q1 := (okF_in hPW).mpr (h.2.2.2.2.2 (by omega)); omega)), rfl, (by simp only [hS588, hS451, hS429, hS26, hS23, hS20, hS17, hS14, hS9, pup, pnew, List.append_nil, List.append_assoc, List.cons_append, List.nil_append]), (fun a_ ha_ hn_0 => ((hfr589 a_ (show a_ ∈ S451.1 from by rw [hS451]; exact (show a_ ∈ S429.1 from by rw [hS429]; exact List.mem_append_left _ (show a_ ∈ S26.1 from by rw [hS26]; exact (show a_ ∈ S23.1 from by rw [hS23]; exact (show a_ ∈ S20.1 from by rw [hS20]; exact (show a_ ∈ S17.1 from by rw [hS17]; exact (show a_ ∈ S14.1 from by rw [hS14]; exact List.mem_append_left _ (show a_ ∈ S7.1 from by rw [hS9]; exact List.mem_append_left _ ha_)))))))) hn_0).trans ((show S451.2 a_ = S429.2 a_ from by rw [hS451]; exact pup_n (fun z : a_ = na428 => hq_na428 (by rw [← z]; exact (show a_ ∈ S26.1 from by rw [hS26]; exact (show a_ ∈ S23.1 from by rw [hS23]; exact (show a_ ∈ S20.1 from by rw [hS20]; exact (show a_ ∈ S17.1 from by rw [hS17]; exact (show a_ ∈ S14.1 from by rw [hS14]; exact List.mem_append_left _ (show a_ ∈ S7.1 from by rw [hS9]; exact List.mem_append_left _ ha_))))))))).trans ((show S429.2 a_ = S26.2 a_ from by rw [hS429]; exact pnew_n (fun z : a_ = na428 => hq_na428 (by rw [← z]; exact (show a_ ∈ S26.1 from by rw [hS26]; exact (show a_ ∈ S23.1 from by rw [hS23]; exact (show a_ ∈ S20.1 from by rw [hS20]; exact (show a_ ∈ S17.1 from by rw [hS17]; exact (show a_ ∈ S14.1 from by rw [hS14]; exact List.mem_append_left _ (show a_ ∈ S7.1 from by rw [hS9]; exact List.mem_append_left _ ha_))))))))).trans ((show S26.2 a_ = S23.2 a_ from by rw [hS26]; exact pup_n (fun z : a_ = na13 => hq_na13 (by rw [← z]; exact (show a_ ∈ S7.1 from by rw [hS9]; exact List.mem_append_left _ ha_)))).trans ((show S23.2 a_ = S20.2 a_ from by rw [hS23]; exact pup_n (fun z : a_ = na13 => hq_na13 (by rw [← z]; exact (show a_ ∈ S7.1 from by rw [hS9]; exact List.mem_append_left _ ha_)))).trans ((show S20.2 a_ = S17.2 a_ from by rw [hS20]; exact pup_n (fun z : a_ = na13 => hq_na13 (by rw [← z]; exact (show a_ ∈ S7.1 from by rw [hS9]; exact List.mem_append_left _ ha_)))).trans ((show S17.2 a_ = S14.2 a_ from by rw [hS17]; exact pup_n (fun z : a_ = na13 => hq_na13 (by rw [← z]; exact (show a_ ∈ S7.1 from by rw [hS9]; exact List.mem_append_left _ ha_)))).trans ((show S14.2 a_ = S7.2 a_ from by rw [hS14]; exact pnew_n (fun z : a_ = na13 => hq_na13 (by rw [← z]; exact (show a_ ∈ S7.1 from by rw [hS9]; exact List.mem_append_left _ ha_)))).trans (hfr10 a_ ha_ hn_0)))))))))), hf590⟩)) hr hlocks dX13_block_103)
                    · exact absurd h_99 (by first | decide | omega)
                  · exact absurd h_87 (by first | decide | omega)
                · skip
                  obtain ⟨hc592, hr_, hS_⟩ := hpost
                  subst hr_
                  subst hS_
                  refine n_if_ne (tgt := 94) hx hb (by first | decide | omega) dX13_block_87 (by decide) (fun h_87 => ?_) (fun h_87 => ?_)
                  · exact absurd h_87 (by first | decide | omega)
                  · skip
                    refine lv_iconst (v := nI 1) hx hb dX13_block_90 (by decide) ?_
                    refine lv_goto (tgt := 95) hx hb dX13_block_91 (by decide) ?_
                    refine lv_iconst (v := nI 1) hx hb dX13_block_95 (by decide) ?_
                    have hL593 : mm ∈ S14.1 := by rw [hS14]; exact List.mem_append_left _ hL12
                    have hf594 : S14.2 mm = .inr (13, [.int (nI 0), .ref me, .ref sg, .ref cn, .ref im]) := by rw [hS14]; exact (pnew_n (fun z : mm = na13 => hq_na13 (by rw [← z]; exact hL12))).trans hf11
                    have hL595 : mm ∈ S17.1 := by rw [hS17]; exact hL593
                    have hf596 : S17.2 mm = .inr (13, [.int (nI 0), .ref me, .ref sg, .ref cn, .ref im]) := by rw [hS17]; exact (pup_n (fun z : mm = na13 => hq_na13 (by rw [← z]; exact hL12))).trans hf594
                    have hL597 : mm ∈ S20.1 := by rw [hS20]; exact hL595
                    have hf598 : S20.2 mm = .inr (13, [.int (nI 0), .ref me, .ref sg, .ref cn, .ref im]) := by rw [hS20]; exact (pup_n (fun z : mm = na13 => hq_na13 (by rw [← z]; exact hL12))).trans hf596
                    have hL599 : mm ∈ S23.1 := by rw [hS23]; exact hL597
                    have hf600 : S23.2 mm = .inr (13, [.int (nI 0), .ref me, .ref sg, .ref cn, .ref im]) := by rw [hS23]; exact (pup_n (fun z : mm = na13 => hq_na13 (by rw [← z]; exact hL12))).trans hf598
                    have hL601 : mm ∈ S26.1 := by rw [hS26]; exact hL599
                    have hf602 : S26.2 mm = .inr (13, [.int (nI 0), .ref me, .ref sg, .ref cn, .ref im]) := by rw [hS26]; exact (pup_n (fun z : mm = na13 => hq_na13 (by rw [← z]; exact hL12))).trans hf600
                    have hL603 : mm ∈ S429.1 := by rw [hS429]; exact List.mem_append_left _ hL601
                    have hf604 : S429.2 mm = .inr (13, [.int (nI 0), .ref me, .ref sg, .ref cn, .ref im]) := by rw [hS429]; exact (pnew_n (fun z : mm = na428 => hq_na428 (by rw [← z]; exact hL601))).trans hf602
                    refine p_calli (va_runV (As := [.int (nI 1), .int (nI 1)]) (rest := []) C.fix (e_X13_refuse1 l D cy S429 H.size mm me sg cn im 1 hL603 hf604 (by first | assumption | decide | omega) (by first | assumption | decide | omega)) (cwV 2 C.2.2.2.2.1 (gU_V mw_402 mw_403 mw_404 mw_5 (subU mw_405)) rfl rfl rfl hde_X13_block_V_2 ⟨Nat.le_of_ble_eq_true rfl, Nat.le_of_ble_eq_true rfl⟩) (p_preV C hw hL603 hf604 rfl) rfl rfl hl.1 rfl (lv_room (Nat.le_of_ble_eq_true rfl)) dX13_block_96 ⟨(Nat.le_of_ble_eq_true rfl), (Nat.le_of_ble_eq_true rfl)⟩) hw hA (fun r606 S605 H locs hpost hw => ?_)
                    obtain ⟨hr_, hS607, hfr608, hf609⟩ := hpost
                    subst hr_
                    have hL610 : mm ∈ S605.1 := by rw [hS607]; exact List.mem_append_left _ hL603
                    refine n_if_eq (tgt := 104) hx hb (by first | decide | omega) dX13_block_99 (by decide) (fun h_99 => ?_) (fun h_99 => ?_)
                    · exact absurd h_99 (by first | decide | omega)
                    · skip
                      refine lv_iconst (v := nI 0) hx hb dX13_block_102 (by decide) ?_
                      refine W.widen (k := 8) (n := 40) (Nat.le_of_ble_eq_true rfl) (Nat.le_of_ble_eq_true rfl) ?_
                      exact (p_iret C hw ((Or.inr ⟨([na13] ++ [na428]), (by unfold okB6; rw [hnn]; first | exact ⟨⟨by omega, by omega⟩, ⟨by omega, by omega⟩, (okF_in hPW).mp (by omega), (fun q => (okF_in hPW).mp (by omega)), (fun q => (okF_in hPW).mp (by omega)), (fun q => (okF_in hPW).mp (by omega))⟩ | exact (fun h => by have q1 := (okF_in hPW).mpr h.2.2.1; omega) | exact (fun h => by have q1 := (okF_in hPW).mpr (h.2.2.2.1 (by omega)); omega) | exact (fun h => by have q1 := (okF_in hPW).mpr (h.2.2.2.2.1 (by omega)); omega) | exact (fun h => by have q1 := (okF_in hPW).mpr (h.2.2.2.2.2 (by omega)); omega)), rfl, (by simp only [hS607, hS429, hS26, hS23, hS20, hS17, hS14, hS9, pup, pnew, List.append_nil, List.append_assoc, List.cons_append, List.nil_append]), (fun a_ ha_ hn_0 => ((hfr608 a_ (show a_ ∈ S429.1 from by rw [hS429]; exact List.mem_append_left _ (show a_ ∈ S26.1 from by rw [hS26]; exact (show a_ ∈ S23.1 from by rw [hS23]; exact (show a_ ∈ S20.1 from by rw [hS20]; exact (show a_ ∈ S17.1 from by rw [hS17]; exact (show a_ ∈ S14.1 from by rw [hS14]; exact List.mem_append_left _ (show a_ ∈ S7.1 from by rw [hS9]; exact List.mem_append_left _ ha_))))))) hn_0).trans ((show S429.2 a_ = S26.2 a_ from by rw [hS429]; exact pnew_n (fun z : a_ = na428 => hq_na428 (by rw [← z]; exact (show a_ ∈ S26.1 from by rw [hS26]; exact (show a_ ∈ S23.1 from by rw [hS23]; exact (show a_ ∈ S20.1 from by rw [hS20]; exact (show a_ ∈ S17.1 from by rw [hS17]; exact (show a_ ∈ S14.1 from by rw [hS14]; exact List.mem_append_left _ (show a_ ∈ S7.1 from by rw [hS9]; exact List.mem_append_left _ ha_))))))))).trans ((show S26.2 a_ = S23.2 a_ from by rw [hS26]; exact pup_n (fun z : a_ = na13 => hq_na13 (by rw [← z]; exact (show a_ ∈ S7.1 from by rw [hS9]; exact List.mem_append_left _ ha_)))).trans ((show S23.2 a_ = S20.2 a_ from by rw [hS23]; exact pup_n (fun z : a_ = na13 => hq_na13 (by rw [← z]; exact (show a_ ∈ S7.1 from by rw [hS9]; exact List.mem_append_left _ ha_)))).trans ((show S20.2 a_ = S17.2 a_ from by rw [hS20]; exact pup_n (fun z : a_ = na13 => hq_na13 (by rw [← z]; exact (show a_ ∈ S7.1 from by rw [hS9]; exact List.mem_append_left _ ha_)))).trans ((show S17.2 a_ = S14.2 a_ from by rw [hS17]; exact pup_n (fun z : a_ = na13 => hq_na13 (by rw [← z]; exact (show a_ ∈ S7.1 from by rw [hS9]; exact List.mem_append_left _ ha_)))).trans ((show S14.2 a_ = S7.2 a_ from by rw [hS14]; exact pnew_n (fun z : a_ = na13 => hq_na13 (by rw [← z]; exact (show a_ ∈ S7.1 from by rw [hS9]; exact List.mem_append_left _ ha_)))).trans (hfr10 a_ ha_ hn_0))))))))), hf609⟩)) hr hlocks dX13_block_103)
          · exact absurd h_29 (by first | decide | omega)
        · exact absurd h_17 (by first | decide | omega)
      · skip
        obtain ⟨hc611, hr_, hS_⟩ := hpost
        subst hr_
        subst hS_
        refine n_if_ne (tgt := 24) hx hb (by first | decide | omega) dX13_block_17 (by decide) (fun h_17 => ?_) (fun h_17 => ?_)
        · exact absurd h_17 (by first | decide | omega)
        · skip
          refine lv_iconst (v := nI 1) hx hb dX13_block_20 (by decide) ?_
          refine lv_goto (tgt := 25) hx hb dX13_block_21 (by decide) ?_
          refine lv_iconst (v := nI 1) hx hb dX13_block_25 (by decide) ?_
          refine p_calli (va_runV (As := [.int (nI 1), .int (nI 1)]) (rest := []) C.fix (e_X13_start1 l D cy S H.size mm me sg cn im 1 0 hL_mm hf_mm (by first | assumption | decide | omega) (by first | assumption | decide | omega)) (cwV 2 C.2.2.2.2.1 (gU_V mw_397 mw_398 mw_399 mw_5 (subU mw_400)) rfl rfl rfl hde_X13_block_V_1 ⟨Nat.le_of_ble_eq_true rfl, Nat.le_of_ble_eq_true rfl⟩) (p_preV C hw hL_mm hf_mm rfl) rfl rfl hl.1 rfl (lv_room (Nat.le_of_ble_eq_true rfl)) dX13_block_26 ⟨(Nat.le_of_ble_eq_true rfl), (Nat.le_of_ble_eq_true rfl)⟩) hw hA (fun r613 S612 H locs hpost hw => ?_)
          obtain ⟨hr_, hS614, hfr615, hf616⟩ := hpost
          subst hr_
          have hL617 : mm ∈ S612.1 := by rw [hS614]; exact List.mem_append_left _ hL_mm
          refine n_if_eq (tgt := 34) hx hb (by first | decide | omega) dX13_block_29 (by decide) (fun h_29 => ?_) (fun h_29 => ?_)
          · exact absurd h_29 (by first | decide | omega)
          · skip
            refine lv_iconst (v := nI 0) hx hb dX13_block_32 (by decide) ?_
            refine W.widen (k := 8) (n := 40) (Nat.le_of_ble_eq_true rfl) (Nat.le_of_ble_eq_true rfl) ?_
            exact (p_iret C hw ((Or.inr ⟨[], (fun h => by have h1 := h.1; have h2 := h.2.1; omega), rfl, (by simp only [hS614, pup, pnew, List.append_nil, List.append_assoc, List.cons_append, List.nil_append]), (fun a_ ha_ hn_0 => (hfr615 a_ ha_ hn_0)), hf616⟩)) hr hlocks dX13_block_33)
  · skip
    obtain ⟨hc618, hr_, hS_⟩ := hpost
    subst hr_
    subst hS_
    refine n_if_eq (tgt := 20) hx hb (by first | decide | omega) dX13_block_7 (by decide) (fun h_7 => ?_) (fun h_7 => ?_)
    · skip
      refine lv_iconst (v := nI 1) hx hb dX13_block_20 (by decide) ?_
      refine lv_goto (tgt := 25) hx hb dX13_block_21 (by decide) ?_
      refine lv_iconst (v := nI 1) hx hb dX13_block_25 (by decide) ?_
      refine p_calli (va_runV (As := [.int (nI 1), .int (nI 1)]) (rest := []) C.fix (e_X13_start1 l D cy S H.size mm me sg cn im 1 0 hL_mm hf_mm (by first | assumption | decide | omega) (by first | assumption | decide | omega)) (cwV 2 C.2.2.2.2.1 (gU_V mw_397 mw_398 mw_399 mw_5 (subU mw_400)) rfl rfl rfl hde_X13_block_V_1 ⟨Nat.le_of_ble_eq_true rfl, Nat.le_of_ble_eq_true rfl⟩) (p_preV C hw hL_mm hf_mm rfl) rfl rfl hl.1 rfl (lv_room (Nat.le_of_ble_eq_true rfl)) dX13_block_26 ⟨(Nat.le_of_ble_eq_true rfl), (Nat.le_of_ble_eq_true rfl)⟩) hw hA (fun r620 S619 H locs hpost hw => ?_)
      obtain ⟨hr_, hS621, hfr622, hf623⟩ := hpost
      subst hr_
      have hL624 : mm ∈ S619.1 := by rw [hS621]; exact List.mem_append_left _ hL_mm
      refine n_if_eq (tgt := 34) hx hb (by first | decide | omega) dX13_block_29 (by decide) (fun h_29 => ?_) (fun h_29 => ?_)
      · exact absurd h_29 (by first | decide | omega)
      · skip
        refine lv_iconst (v := nI 0) hx hb dX13_block_32 (by decide) ?_
        refine W.widen (k := 8) (n := 40) (Nat.le_of_ble_eq_true rfl) (Nat.le_of_ble_eq_true rfl) ?_
        exact (p_iret C hw ((Or.inr ⟨[], (fun h => by have h1 := h.1; have h2 := h.2.1; omega), rfl, (by simp only [hS621, pup, pnew, List.append_nil, List.append_assoc, List.cons_append, List.nil_append]), (fun a_ ha_ hn_0 => (hfr622 a_ ha_ hn_0)), hf623⟩)) hr hlocks dX13_block_33)
    · exact absurd h_7 (by first | decide | omega)
