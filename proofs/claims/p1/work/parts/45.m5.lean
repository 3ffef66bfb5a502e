set_option maxHeartbeats 4000000 in
set_option maxRecDepth 100000 in
theorem e_X13_add_ (l : Launch) (D : va_G) (cy : Nat → ClassId) (S : pS) (sz : Nat) (d : Int64) (v : Int64)   : Met l yX13_add_ (Cond.code yX13_add_ cX13_add_ 4 (some .long) :: lwU) ({ frames := 0, cells := 0, slots := 0, locals := 0 }) (pPc D cy S sz [.long d, .long v]) (pQl D cy S sz (fun r S' => r = (d * 31 + v) ∧ S = S')) 0 0 (pA S sz) := by
  refine Met.ofW (cc := cX13_add_) (maxL := 4) (ret := (some .long)) (by decide) rfl ?_
  intro p e s m args below meth c s₁ B hml hv
  obtain ⟨rfl, rfl, C, hw, hA, hr, hlocks⟩ := p_start B hml hv
  have hx := C.1
  have hb := C.2.1
  have hl := lv_entry ([.long d, .long v]) (n := 4) (Nat.le_of_ble_eq_true rfl)
  rw [lg_entry_eq]
  generalize (lg_sl ([.long d, .long v]) ++ List.replicate (4 - (lg_sl ([.long d, .long v])).length) Slot.unset).toArray = ls at hl ⊢
  have hl : lv_has ls 4 [(0, .long d), (2, .long v)] := hl
  refine lv_lload_n hx hb dX13_add__0 rfl (lv_at hl 0 rfl) ?_
  refine lv_ldc2 (v := 31) hx hb C.2.2.2.1 (C.2.2.2.2.1 (.constantLong RX13 189 (31)) (mU mw_1117)) dX13_add__1 ?_
  refine lv_lmul hx hb dX13_add__4 ?_
  refine lv_lload_n hx hb dX13_add__5 rfl (lv_at hl 1 rfl) ?_
  refine lv_ladd hx hb dX13_add__6 ?_
  exact (p_lret C hw (⟨rfl, rfl⟩) hr hlocks dX13_add__7)

theorem hde_X13_digest_V_0 : yX13_rows.cls = RX13 ∧ yX13_rows.cls ≠ "java/lang/invoke/MethodHandle" ∧ yX13_rows.cls ≠ "java/lang/invoke/VarHandle" ∧ (parseMethodDescriptor yX13_rows.desc).map (fun d => d.parameters.length) = some 1 := by decide +kernel
theorem hde_X13_digest_V_1 : yJx4a65c_size_8abf5.cls = RJx4a65c ∧ yJx4a65c_size_8abf5.cls ≠ "java/lang/invoke/MethodHandle" ∧ yJx4a65c_size_8abf5.cls ≠ "java/lang/invoke/VarHandle" ∧ (parseMethodDescriptor yJx4a65c_size_8abf5.desc).map (fun d => d.parameters.length) = some 0 := by decide +kernel
theorem hde_X13_digest_V_2 : yJx4a65c_get_915e3.cls = RJx4a65c ∧ yJx4a65c_get_915e3.cls ≠ "java/lang/invoke/MethodHandle" ∧ yJx4a65c_get_915e3.cls ≠ "java/lang/invoke/VarHandle" ∧ (parseMethodDescriptor yJx4a65c_get_915e3.desc).map (fun d => d.parameters.length) = some 1 := by decide +kernel
theorem hde_X13_digest_V_3 : yX13_comes.cls = RX13 ∧ yX13_comes.cls ≠ "java/lang/invoke/MethodHandle" ∧ yX13_comes.cls ≠ "java/lang/invoke/VarHandle" ∧ (parseMethodDescriptor yX13_comes.desc).map (fun d => d.parameters.length) = some 1 := by decide +kernel
theorem hde_X13_digest_V_4 : yX13_upwards.cls = RX13 ∧ yX13_upwards.cls ≠ "java/lang/invoke/MethodHandle" ∧ yX13_upwards.cls ≠ "java/lang/invoke/VarHandle" ∧ (parseMethodDescriptor yX13_upwards.desc).map (fun d => d.parameters.length) = some 2 := by decide +kernel
theorem hde_X13_digest_S_5 : yX13_add_.cls ≠ "java/lang/invoke/MethodHandle" ∧ yX13_add_.cls ≠ "java/lang/invoke/VarHandle" ∧ (parseMethodDescriptor yX13_add_.desc).map (fun d => d.parameters.length) = some 2 := by decide +kernel
theorem hde_X13_digest_S_6 : yX13_others.cls ≠ "java/lang/invoke/MethodHandle" ∧ yX13_others.cls ≠ "java/lang/invoke/VarHandle" ∧ (parseMethodDescriptor yX13_others.desc).map (fun d => d.parameters.length) = some 2 := by decide +kernel
theorem hde_X13_digest_V_7 : yX13_breaksNow.cls = RX13 ∧ yX13_breaksNow.cls ≠ "java/lang/invoke/MethodHandle" ∧ yX13_breaksNow.cls ≠ "java/lang/invoke/VarHandle" ∧ (parseMethodDescriptor yX13_breaksNow.desc).map (fun d => d.parameters.length) = some 1 := by decide +kernel
theorem hde_X13_digest_V_8 : yX13_weakNow.cls = RX13 ∧ yX13_weakNow.cls ≠ "java/lang/invoke/MethodHandle" ∧ yX13_weakNow.cls ≠ "java/lang/invoke/VarHandle" ∧ (parseMethodDescriptor yX13_weakNow.desc).map (fun d => d.parameters.length) = some 0 := by decide +kernel
set_option maxHeartbeats 4000000 in
set_option maxRecDepth 100000 in
theorem e_X13_digest (l : Launch) (D : va_G) (cy : Nat → ClassId) (ed : Nat) (S : pS) (sz : Nat) (mm : Nat) (me : Nat) (sg : Nat) (cn : Nat) (im : Nat) (hL_mm : mm ∈ S.1) (hf_mm : S.2 mm = .inr (13, [.int (nI 0), .ref me, .ref sg, .ref cn, .ref im])) (hL_me : me ∈ S.1) (hf_me : S.2 me = .inl (cy 0, 0, .inl (fun _ => 0))) (hL_sg : sg ∈ S.1) (hf_sg : S.2 sg = .inr (0, [.int (nI 0), .ref ed, .int (nI 0)])) (hL_cn : cn ∈ S.1) (hf_cn : S.2 cn = .inl (cy 0, 4, .inl (upd (upd (upd (upd (fun _ => 0) 0 (nI 0)) 1 (nI 0)) 2 (nI 0)) 3 (nI 1))))  : Met l yX13_digest (Cond.code yX13_digest cX13_digest 9 (some .long) :: lwU) ({ frames := 8, cells := 16, slots := 67, locals := 175 }) (ePc D cy ed S sz [.ref mm]) (pQl D cy S sz (fun r S' => ∃ (nl : List Nat), r = (49532499890423516) ∧ S'.1 = S.1 ++ nl ∧ (∀ a_, a_ ∈ S.1 → a_ ≠ mm → S'.2 a_ = S.2 a_) ∧ S'.2 mm = .inr (13, [.int (nI 0), .ref me, .ref sg, .ref cn, .ref im]))) 16 67 (pA S sz) := by
  refine Met.ofW (cc := cX13_digest) (maxL := 9) (ret := (some .long)) (by decide) rfl ?_
  intro p e s m args below meth c s₁ B hml hv
  obtain ⟨rfl, rfl, C, hw, hA, hr, hlocks, hE⟩ := e_start B hml hv
  have hx := C.1
  have hb := C.2.1
  have hl := lv_entry ([.ref mm]) (n := 9) (Nat.le_of_ble_eq_true rfl)
  rw [lg_entry_eq]
  generalize (lg_sl ([.ref mm]) ++ List.replicate (9 - (lg_sl ([.ref mm])).length) Slot.unset).toArray = ls at hl ⊢
  have hl : lv_has ls 9 [(0, .ref mm)] := hl
  have hin_RX13 : ∀ w ∈ u_ws RX13 TX13 5, w ∈ (Cond.code yX13_digest cX13_digest 9 (some .long) :: lwU) := fun w h => mU (sub_RX13 w h)
  refine lv_aload_n hx hb dX13_digest_0 rfl (lv_at hl 0 rfl) ?_
  refine lv_iconst (v := nI 0) hx hb dX13_digest_1 (by decide) ?_
  refine p_put C hw (ci := 13) (Cn := RX13) (T := TX13) (N := 5) tyX13 tyX13_ok nmX13 hL_mm hf_mm rfl hin_RX13 0 (by decide) (mU mw_401) rfl rfl rfl rfl rfl (by simp) dX13_digest_2 rfl (fun H locs hw => ?_)
  obtain ⟨S1, hS1⟩ : ∃ z, z = pup S mm (.inr (13, [.int (nI 0), .ref me, .ref sg, .ref cn, .ref im])) := ⟨_, rfl⟩
  replace hw : pW D (pA S s.heap.size) s.heap S1 H locs := by rw [hS1]; exact hw
  have hL2 : mm ∈ S1.1 := by rw [hS1]; exact hL_mm
  have hf3 : S1.2 mm = .inr (13, [.int (nI 0), .ref me, .ref sg, .ref cn, .ref im]) := by rw [hS1]; exact pup_s
  refine lv_aload_n hx hb dX13_digest_5 rfl (lv_at hl 0 rfl) ?_
  refine lv_aload_n hx hb dX13_digest_6 rfl (lv_at hl 0 rfl) ?_
  refine p_get C hw (ci := 13) (Cn := RX13) (T := TX13) (N := 5) hL2 hf3 rfl hin_RX13 1 (by decide) (mU mw_86) rfl rfl dX13_digest_7 ?_
  have hL4 : sg ∈ S1.1 := by rw [hS1]; exact hL_sg
  have hf5 : S1.2 sg = .inr (0, [.int (nI 0), .ref ed, .int (nI 0)]) := by rw [hS1]; exact (pup_n (ne_cells hf_sg hf_mm (by nofun))).trans hf_sg
  have hL6 : me ∈ S1.1 := by rw [hS1]; exact hL_me
  have hf7 : S1.2 me = .inl (cy 0, 0, .inl (fun _ => 0)) := by rw [hS1]; exact (pup_n (ne_cells hf_me hf_mm (by nofun))).trans hf_me
  refine p_callq (va_runV (As := [.ref me]) (rest := []) C.fix (e_X13_rows0 l D cy ed S1 H.size mm me me sg cn im 0 0 (fun _ => 0) hL2 hf3 hL4 hf5 hL6 hf7 ) (cwV 1 C.2.2.2.2.1 (gU_V mw_414 mw_415 mw_416 mw_5 (subU mw_417)) rfl rfl rfl hde_X13_digest_V_0 ⟨Nat.le_of_ble_eq_true rfl, Nat.le_of_ble_eq_true rfl⟩) (e_preV C hw hA hE hL2 hf3 rfl) rfl rfl hl.1 rfl (lv_room (Nat.le_of_ble_eq_true rfl)) dX13_digest_10 ⟨(Nat.le_of_ble_eq_true rfl), (Nat.le_of_ble_eq_true rfl)⟩) hw hA (fun r9 S8 H locs hpost hw => ?_)
  obtain ⟨rl10, ra11, hr_, hS12, hfr13, hf14, hf15⟩ := hpost
  subst hr_
  have hnd16 := p_apart hw hS12
  have hq17 : rl10 ∉ S1.1 := p_fresh hw hS12 0 rfl
  have hq18 : ra11 ∉ S1.1 := p_fresh hw hS12 1 rfl
  have hL19 : rl10 ∈ S8.1 := by rw [hS12]; exact List.mem_append_right _ (List.mem_of_getElem? (i := 0) rfl)
  have hL20 : ra11 ∈ S8.1 := by rw [hS12]; exact List.mem_append_right _ (List.mem_of_getElem? (i := 1) rfl)
  refine lv_astore_n (lv' := [(1, .ref rl10), (0, .ref mm)]) hx hb dX13_digest_13 rfl hl (by decide) rfl (fun ls hl => ?_)
  refine lv_aload_n hx hb dX13_digest_14 rfl (lv_at hl 0 rfl) ?_
  refine lv_aload_n hx hb dX13_digest_15 rfl (lv_at hl 1 rfl) ?_
  have hL21 : mm ∈ S8.1 := by rw [hS12]; exact List.mem_append_left _ hL2
  have hf22 : S8.2 mm = .inr (13, [.int (nI 0), .ref me, .ref sg, .ref cn, .ref im]) := (hfr13 mm hL2 ).trans hf3
  refine p_get C hw (ci := 13) (Cn := RX13) (T := TX13) (N := 5) hL21 hf22 rfl hin_RX13 2 (by decide) (mU mw_90) rfl rfl dX13_digest_16 ?_
  have hL23 : sg ∈ S8.1 := by rw [hS12]; exact List.mem_append_left _ hL4
  have hf24 : S8.2 sg = .inr (0, [.int (nI 0), .ref ed, .int (nI 0)]) := (hfr13 sg hL4 ).trans hf5
  refine p_calli (va_runV (As := []) (rest := [.ref rl10]) C.fix (e_Jx4a65c_size_8abf5 l D cy S8 H.size sg ed 0 0 hL23 hf24 ) (cwV 0 C.2.2.2.2.1 (gU_V mw_464 mw_465 mw_466 mw_89 (subU mw_467)) rfl rfl rfl hde_X13_digest_V_1 ⟨Nat.le_of_ble_eq_true rfl, Nat.le_of_ble_eq_true rfl⟩) (p_preV C hw hL23 hf24 rfl) rfl rfl hl.1 rfl (lv_room (Nat.le_of_ble_eq_true rfl)) dX13_digest_19 ⟨(Nat.le_of_ble_eq_true rfl), (Nat.le_of_ble_eq_true rfl)⟩) hw hA (fun r26 S25 H locs hpost hw => ?_)
  obtain ⟨hr_, hS_⟩ := hpost
  subst hr_
  subst hS_
  refine p_callq (va_runV (As := [.int (nI 0)]) (rest := []) C.fix (e_Jx4a65c_get_915e3 l D cy S8 H.size rl10 ra11 1 1 0 me (va_up (fun _ => none) 0 (some me)) hL19 hf14 hL20 hf15 (by first | assumption | decide | omega) (by first | assumption | decide | omega) (by first | assumption | rfl | simp [va_up])) (cwV 1 C.2.2.2.2.1 (gU_V mw_468 mw_469 mw_470 mw_89 (subU mw_471)) rfl rfl rfl hde_X13_digest_V_2 ⟨Nat.le_of_ble_eq_true rfl, Nat.le_of_ble_eq_true rfl⟩) (p_preV C hw hL19 hf14 rfl) rfl rfl hl.1 rfl (lv_room (Nat.le_of_ble_eq_true rfl)) dX13_digest_22 ⟨(Nat.le_of_ble_eq_true rfl), (Nat.le_of_ble_eq_true rfl)⟩) hw hA (fun r28 S27 H locs hpost hw => ?_)
  obtain ⟨hr_, hS_⟩ := hpost
  subst hr_
  subst hS_
  have hL29 : me ∈ S8.1 := by rw [hS12]; exact List.mem_append_left _ hL6
  have hf30 : S8.2 me = .inl (cy 0, 0, .inl (fun _ => 0)) := (hfr13 me hL6 ).trans hf7
  refine p_castA C hw hL29 hf30 (C.2.2.2.2.1 _ (mU mw_413)) dX13_digest_25 ?_
  refine lv_astore_n (lv' := [(2, .ref me), (1, .ref rl10), (0, .ref mm)]) hx hb dX13_digest_28 rfl hl (by decide) rfl (fun ls hl => ?_)
  refine lv_aload_n hx hb dX13_digest_29 rfl (lv_at hl 2 rfl) ?_
  refine lv_aload_n hx hb dX13_digest_30 rfl (lv_at hl 0 rfl) ?_
  have hL31 : cn ∈ S1.1 := by rw [hS1]; exact hL_cn
  have hf32 : S1.2 cn = .inl (cy 0, 4, .inl (upd (upd (upd (upd (fun _ => 0) 0 (nI 0)) 1 (nI 0)) 2 (nI 0)) 3 (nI 1))) := by rw [hS1]; exact (pup_n (ne_cells hf_cn hf_mm (by nofun))).trans hf_cn
  have hL33 : cn ∈ S8.1 := by rw [hS12]; exact List.mem_append_left _ hL31
  have hf34 : S8.2 cn = .inl (cy 0, 4, .inl (upd (upd (upd (upd (fun _ => 0) 0 (nI 0)) 1 (nI 0)) 2 (nI 0)) 3 (nI 1))) := (hfr13 cn hL31 ).trans hf32
  refine p_callq (va_runV (As := [.ref me]) (rest := []) C.fix (e_X13_comes0 l D cy S8 H.size mm me me sg cn im 0 (fun _ => 0) (upd (upd (upd (upd (fun _ => 0) 0 (nI 0)) 1 (nI 0)) 2 (nI 0)) 3 (nI 1)) hL21 hf22 hL33 hf34 hL29 hf30 ) (cwV 1 C.2.2.2.2.1 (gU_V mw_818 mw_819 mw_820 mw_5 (subU mw_821)) rfl rfl rfl hde_X13_digest_V_3 ⟨Nat.le_of_ble_eq_true rfl, Nat.le_of_ble_eq_true rfl⟩) (p_preV C hw hL21 hf22 rfl) rfl rfl hl.1 rfl (lv_room (Nat.le_of_ble_eq_true rfl)) dX13_digest_31 ⟨(Nat.le_of_ble_eq_true rfl), (Nat.le_of_ble_eq_true rfl)⟩) hw hA (fun r36 S35 H locs hpost hw => ?_)
  obtain ⟨ov37, hr_, hS38, hfr39, hf40⟩ := hpost
  subst hr_
  have hq41 : ov37 ∉ S8.1 := p_fresh hw hS38 0 rfl
  have hL42 : ov37 ∈ S35.1 := by rw [hS38]; exact List.mem_append_right _ (List.mem_of_getElem? (i := 0) rfl)
  refine lv_astore_n (lv' := [(3, .ref ov37), (2, .ref me), (1, .ref rl10), (0, .ref mm)]) hx hb dX13_digest_34 rfl hl (by decide) rfl (fun ls hl => ?_)
  refine lv_aload_n hx hb dX13_digest_35 rfl (lv_at hl 3 rfl) ?_
  refine lv_aload_n hx hb dX13_digest_36 rfl (lv_at hl 0 rfl) ?_
  refine lv_aload_n hx hb dX13_digest_37 rfl (lv_at hl 2 rfl) ?_
  have hL43 : mm ∈ S35.1 := by rw [hS38]; exact List.mem_append_left _ hL21
  have hf44 : S35.2 mm = .inr (13, [.int (nI 0), .ref me, .ref sg, .ref cn, .ref im]) := (hfr39 mm hL21 ).trans hf22
  have hL45 : sg ∈ S35.1 := by rw [hS38]; exact List.mem_append_left _ hL23
  have hf46 : S35.2 sg = .inr (0, [.int (nI 0), .ref ed, .int (nI 0)]) := (hfr39 sg hL23 ).trans hf24
  refine p_callq (va_runV (As := [.ref ov37, .ref rl10]) (rest := []) C.fix (e_X13_upwards0 l D cy S35 H.size mm ov37 rl10 me sg cn im ed 0 (fun _ => 0) hL43 hf44 hL45 hf46 hL42 hf40 ) (cwV 2 C.2.2.2.2.1 (gU_V mw_835 mw_836 mw_837 mw_5 (subU mw_838)) rfl rfl rfl hde_X13_digest_V_4 ⟨Nat.le_of_ble_eq_true rfl, Nat.le_of_ble_eq_true rfl⟩) (p_preV C hw hL43 hf44 rfl) rfl rfl hl.1 rfl (lv_room (Nat.le_of_ble_eq_true rfl)) dX13_digest_38 ⟨(Nat.le_of_ble_eq_true rfl), (Nat.le_of_ble_eq_true rfl)⟩) hw hA (fun r48 S47 H locs hpost hw => ?_)
  obtain ⟨uu49, hr_, hS50, hfr51, hf52⟩ := hpost
  subst hr_
  have hq53 : uu49 ∉ S35.1 := p_fresh hw hS50 0 rfl
  have hL54 : uu49 ∈ S47.1 := by rw [hS50]; exact List.mem_append_right _ (List.mem_of_getElem? (i := 0) rfl)
  refine lv_astore (lv' := [(4, .ref uu49), (3, .ref ov37), (2, .ref me), (1, .ref rl10), (0, .ref mm)]) hx hb dX13_digest_41 hl (by decide) rfl (fun ls hl => ?_)
  refine lv_ldc2 (v := 58076) hx hb C.2.2.2.1 (C.2.2.2.2.1 (.constantLong RX13 191 (58076)) (mU mw_1113)) dX13_digest_43 ?_
  refine lv_aload_n hx hb dX13_digest_46 rfl (lv_at hl 4 rfl) ?_
  have hL55 : mm ∈ S47.1 := by rw [hS50]; exact List.mem_append_left _ hL43
  have hf56 : S47.2 mm = .inr (13, [.int (nI 0), .ref me, .ref sg, .ref cn, .ref im]) := (hfr51 mm hL43 ).trans hf44
  refine p_get C hw (ci := 13) (Cn := RX13) (T := TX13) (N := 5) hL55 hf56 rfl hin_RX13 1 (by decide) (mU mw_86) rfl rfl dX13_digest_47 ?_
  have hL57 : me ∈ S35.1 := by rw [hS38]; exact List.mem_append_left _ hL29
  have hf58 : S35.2 me = .inl (cy 0, 0, .inl (fun _ => 0)) := (hfr39 me hL29 ).trans hf30
  have hL59 : me ∈ S47.1 := by rw [hS50]; exact List.mem_append_left _ hL57
  have hf60 : S47.2 me = .inl (cy 0, 0, .inl (fun _ => 0)) := (hfr51 me hL57 ).trans hf58
  refine n_len C hw 0 rfl hL59 hf60 (n := 0) rfl dX13_digest_50 ?_
  refine lv_i2l hx hb dX13_digest_51 rfl ?_
  refine p_calll (va_runS (As := [.long 58076, .long (((nI 0)).toInt64)]) (rest := []) C.fix (e_X13_add_ l D cy S47 H.size 58076 (((nI 0)).toInt64)  ) (va_cwS 2 C.2.2.2.2.1 (gU_S mw_1114 mw_1115 mw_5 (subU mw_1116)) rfl rfl rfl hde_X13_digest_S_5 ⟨Nat.le_of_ble_eq_true rfl, Nat.le_of_ble_eq_true rfl⟩) (p_preS C hw) rfl rfl hl.1 rfl (lv_room (Nat.le_of_ble_eq_true rfl)) dX13_digest_52 ⟨(Nat.le_of_ble_eq_true rfl), (Nat.le_of_ble_eq_true rfl)⟩) hw hA (fun r62 S61 H locs hpost hw => ?_)
  obtain ⟨hr_, hS_⟩ := hpost
  subst hr_
  subst hS_
  refine lv_aload_n hx hb dX13_digest_55 rfl (lv_at hl 4 rfl) ?_
  refine p_get C hw (ci := 13) (Cn := RX13) (T := TX13) (N := 5) hL55 hf56 rfl hin_RX13 2 (by decide) (mU mw_90) rfl rfl dX13_digest_56 ?_
  have hL63 : sg ∈ S47.1 := by rw [hS50]; exact List.mem_append_left _ hL45
  have hf64 : S47.2 sg = .inr (0, [.int (nI 0), .ref ed, .int (nI 0)]) := (hfr51 sg hL45 ).trans hf46
  refine p_calli (va_runV (As := []) (rest := [.long (58076 * 31 + (((nI 0)).toInt64))]) C.fix (e_Jx4a65c_size_8abf5 l D cy S47 H.size sg ed 0 0 hL63 hf64 ) (cwV 0 C.2.2.2.2.1 (gU_V mw_464 mw_465 mw_466 mw_89 (subU mw_467)) rfl rfl rfl hde_X13_digest_V_1 ⟨Nat.le_of_ble_eq_true rfl, Nat.le_of_ble_eq_true rfl⟩) (p_preV C hw hL63 hf64 rfl) rfl rfl hl.1 rfl (lv_room (Nat.le_of_ble_eq_true rfl)) dX13_digest_59 ⟨(Nat.le_of_ble_eq_true rfl), (Nat.le_of_ble_eq_true rfl)⟩) hw hA (fun r66 S65 H locs hpost hw => ?_)
  obtain ⟨hr_, hS_⟩ := hpost
  subst hr_
  subst hS_
  refine lv_i2l hx hb dX13_digest_62 rfl ?_
  refine p_calll (va_runS (As := [.long (58076 * 31 + (((nI 0)).toInt64)), .long (((nI 0)).toInt64)]) (rest := []) C.fix (e_X13_add_ l D cy S47 H.size (58076 * 31 + (((nI 0)).toInt64)) (((nI 0)).toInt64)  ) (va_cwS 2 C.2.2.2.2.1 (gU_S mw_1114 mw_1115 mw_5 (subU mw_1116)) rfl rfl rfl hde_X13_digest_S_5 ⟨Nat.le_of_ble_eq_true rfl, Nat.le_of_ble_eq_true rfl⟩) (p_preS C hw) rfl rfl hl.1 rfl (lv_room (Nat.le_of_ble_eq_true rfl)) dX13_digest_63 ⟨(Nat.le_of_ble_eq_true rfl), (Nat.le_of_ble_eq_true rfl)⟩) hw hA (fun r68 S67 H locs hpost hw => ?_)
  obtain ⟨hr_, hS_⟩ := hpost
  subst hr_
  subst hS_
  refine lv_aload_n hx hb dX13_digest_66 rfl (lv_at hl 2 rfl) ?_
  refine n_len C hw 0 rfl hL59 hf60 (n := 0) rfl dX13_digest_67 ?_
  refine lv_i2l hx hb dX13_digest_68 rfl ?_
  refine p_calll (va_runS (As := [.long ((58076 * 31 + (((nI 0)).toInt64)) * 31 + (((nI 0)).toInt64)), .long (((nI 0)).toInt64)]) (rest := []) C.fix (e_X13_add_ l D cy S47 H.size ((58076 * 31 + (((nI 0)).toInt64)) * 31 + (((nI 0)).toInt64)) (((nI 0)).toInt64)  ) (va_cwS 2 C.2.2.2.2.1 (gU_S mw_1114 mw_1115 mw_5 (subU mw_1116)) rfl rfl rfl hde_X13_digest_S_5 ⟨Nat.le_of_ble_eq_true rfl, Nat.le_of_ble_eq_true rfl⟩) (p_preS C hw) rfl rfl hl.1 rfl (lv_room (Nat.le_of_ble_eq_true rfl)) dX13_digest_69 ⟨(Nat.le_of_ble_eq_true rfl), (Nat.le_of_ble_eq_true rfl)⟩) hw hA (fun r70 S69 H locs hpost hw => ?_)
  obtain ⟨hr_, hS_⟩ := hpost
  subst hr_
  subst hS_
  refine lv_aload_n hx hb dX13_digest_72 rfl (lv_at hl 2 rfl) ?_
  refine lv_aload_n hx hb dX13_digest_73 rfl (lv_at hl 1 rfl) ?_
  refine p_calli (va_runS (As := [.ref me, .ref ov37]) (rest := [.long (((58076 * 31 + (((nI 0)).toInt64)) * 31 + (((nI 0)).toInt64)) * 31 + (((nI 0)).toInt64))]) C.fix (e_X13_others0 l D cy S47 H.size me ov37 (fun _ => 0) hL59 hf60 ) (va_cwS 2 C.2.2.2.2.1 (gU_S mw_877 mw_878 mw_5 (subU mw_879)) rfl rfl rfl hde_X13_digest_S_6 ⟨Nat.le_of_ble_eq_true rfl, Nat.le_of_ble_eq_true rfl⟩) (p_preS C hw) rfl rfl hl.1 rfl (lv_room (Nat.le_of_ble_eq_true rfl)) dX13_digest_74 ⟨(Nat.le_of_ble_eq_true rfl), (Nat.le_of_ble_eq_true rfl)⟩) hw hA (fun r72 S71 H locs hpost hw => ?_)
  obtain ⟨hr_, hS_⟩ := hpost
  subst hr_
  subst hS_
  refine lv_i2l hx hb dX13_digest_77 rfl ?_
  refine p_calll (va_runS (As := [.long (((58076 * 31 + (((nI 0)).toInt64)) * 31 + (((nI 0)).toInt64)) * 31 + (((nI 0)).toInt64)), .long (((nI 0)).toInt64)]) (rest := []) C.fix (e_X13_add_ l D cy S47 H.size (((58076 * 31 + (((nI 0)).toInt64)) * 31 + (((nI 0)).toInt64)) * 31 + (((nI 0)).toInt64)) (((nI 0)).toInt64)  ) (va_cwS 2 C.2.2.2.2.1 (gU_S mw_1114 mw_1115 mw_5 (subU mw_1116)) rfl rfl rfl hde_X13_digest_S_5 ⟨Nat.le_of_ble_eq_true rfl, Nat.le_of_ble_eq_true rfl⟩) (p_preS C hw) rfl rfl hl.1 rfl (lv_room (Nat.le_of_ble_eq_true rfl)) dX13_digest_78 ⟨(Nat.le_of_ble_eq_true rfl), (Nat.le_of_ble_eq_true rfl)⟩) hw hA (fun r74 S73 H locs hpost hw => ?_)
  obtain ⟨hr_, hS_⟩ := hpost
  subst hr_
  subst hS_
  refine lv_aload hx hb dX13_digest_81 (lv_at hl 0 rfl) ?_
  refine lv_iconst (v := nI 0) hx hb dX13_digest_83 (by decide) ?_
  refine p_aldA C hw 5 rfl hL54 hf52 (by first | decide | omega) (by first | decide | omega) (r := some ov37) (by simp [va_up]) dX13_digest_84 ?_
  refine lv_aload_n hx hb dX13_digest_85 rfl (lv_at hl 4 rfl) ?_
  refine p_get C hw (ci := 13) (Cn := RX13) (T := TX13) (N := 5) hL55 hf56 rfl hin_RX13 1 (by decide) (mU mw_86) rfl rfl dX13_digest_86 ?_
  have hL75 : ov37 ∈ S47.1 := by rw [hS50]; exact List.mem_append_left _ hL42
  have hf76 : S47.2 ov37 = .inl (cy 0, 0, .inl (fun _ => 0)) := (hfr51 ov37 hL42 ).trans hf40
  refine p_calli (va_runS (As := [.ref ov37, .ref me]) (rest := [.long ((((58076 * 31 + (((nI 0)).toInt64)) * 31 + (((nI 0)).toInt64)) * 31 + (((nI 0)).toInt64)) * 31 + (((nI 0)).toInt64))]) C.fix (e_X13_others0 l D cy S47 H.size ov37 me (fun _ => 0) hL75 hf76 ) (va_cwS 2 C.2.2.2.2.1 (gU_S mw_877 mw_878 mw_5 (subU mw_879)) rfl rfl rfl hde_X13_digest_S_6 ⟨Nat.le_of_ble_eq_true rfl, Nat.le_of_ble_eq_true rfl⟩) (p_preS C hw) rfl rfl hl.1 rfl (lv_room (Nat.le_of_ble_eq_true rfl)) dX13_digest_89 ⟨(Nat.le_of_ble_eq_true rfl), (Nat.le_of_ble_eq_true rfl)⟩) hw hA (fun r78 S77 H locs hpost hw => ?_)
  obtain ⟨hr_, hS_⟩ := hpost
  subst hr_
  subst hS_
  refine lv_i2l hx hb dX13_digest_92 rfl ?_
  refine p_calll (va_runS (As := [.long ((((58076 * 31 + (((nI 0)).toInt64)) * 31 + (((nI 0)).toInt64)) * 31 + (((nI 0)).toInt64)) * 31 + (((nI 0)).toInt64)), .long (((nI 0)).toInt64)]) (rest := []) C.fix (e_X13_add_ l D cy S47 H.size ((((58076 * 31 + (((nI 0)).toInt64)) * 31 + (((nI 0)).toInt64)) * 31 + (((nI 0)).toInt64)) * 31 + (((nI 0)).toInt64)) (((nI 0)).toInt64)  ) (va_cwS 2 C.2.2.2.2.1 (gU_S mw_1114 mw_1115 mw_5 (subU mw_1116)) rfl rfl rfl hde_X13_digest_S_5 ⟨Nat.le_of_ble_eq_true rfl, Nat.le_of_ble_eq_true rfl⟩) (p_preS C hw) rfl rfl hl.1 rfl (lv_room (Nat.le_of_ble_eq_true rfl)) dX13_digest_93 ⟨(Nat.le_of_ble_eq_true rfl), (Nat.le_of_ble_eq_true rfl)⟩) hw hA (fun r80 S79 H locs hpost hw => ?_)
  obtain ⟨hr_, hS_⟩ := hpost
  subst hr_
  subst hS_
  refine lv_lstore (lv' := [(5, .long (((((58076 * 31 + (((nI 0)).toInt64)) * 31 + (((nI 0)).toInt64)) * 31 + (((nI 0)).toInt64)) * 31 + (((nI 0)).toInt64)) * 31 + (((nI 0)).toInt64))), (4, .ref uu49), (3, .ref ov37), (2, .ref me), (1, .ref rl10), (0, .ref mm)]) hx hb dX13_digest_96 hl (by decide) rfl (fun ls hl => ?_)
  refine lv_iconst (v := nI 0) hx hb dX13_digest_98 (by decide) ?_
  refine lv_istore (lv' := [(7, .int (nI 0)), (5, .long (((((58076 * 31 + (((nI 0)).toInt64)) * 31 + (((nI 0)).toInt64)) * 31 + (((nI 0)).toInt64)) * 31 + (((nI 0)).toInt64)) * 31 + (((nI 0)).toInt64))), (4, .ref uu49), (3, .ref ov37), (2, .ref me), (1, .ref rl10), (0, .ref mm)]) hx hb dX13_digest_99 hl (by decide) rfl (fun ls hl => ?_)
  refine lv_iload hx hb dX13_digest_101 (lv_at hl 0 rfl) ?_
  refine lv_aload_n hx hb dX13_digest_103 rfl (lv_at hl 6 rfl) ?_
  refine p_get C hw (ci := 13) (Cn := RX13) (T := TX13) (N := 5) hL55 hf56 rfl hin_RX13 2 (by decide) (mU mw_90) rfl rfl dX13_digest_104 ?_
  refine p_calli (va_runV (As := []) (rest := [.int (nI 0)]) C.fix (e_Jx4a65c_size_8abf5 l D cy S47 H.size sg ed 0 0 hL63 hf64 ) (cwV 0 C.2.2.2.2.1 (gU_V mw_464 mw_465 mw_466 mw_89 (subU mw_467)) rfl rfl rfl hde_X13_digest_V_1 ⟨Nat.le_of_ble_eq_true rfl, Nat.le_of_ble_eq_true rfl⟩) (p_preV C hw hL63 hf64 rfl) rfl rfl hl.1 rfl (lv_room (Nat.le_of_ble_eq_true rfl)) dX13_digest_107 ⟨(Nat.le_of_ble_eq_true rfl), (Nat.le_of_ble_eq_true rfl)⟩) hw hA (fun r82 S81 H locs hpost hw => ?_)
  obtain ⟨hr_, hS_⟩ := hpost
  subst hr_
  subst hS_
  refine n_icmp_ge (tgt := 236) hx hb (by first | decide | omega) (by first | decide | omega) dX13_digest_110 (by decide) (fun h_110 => ?_) (fun h_110 => ?_)
  · skip
    refine lv_iconst (v := nI 0) hx hb dX13_digest_236 (by decide) ?_
    refine lv_istore (lv' := [(7, .int (nI 0)), (5, .long (((((58076 * 31 + (((nI 0)).toInt64)) * 31 + (((nI 0)).toInt64)) * 31 + (((nI 0)).toInt64)) * 31 + (((nI 0)).toInt64)) * 31 + (((nI 0)).toInt64))), (4, .ref uu49), (3, .ref ov37), (2, .ref me), (1, .ref rl10), (0, .ref mm)]) hx hb dX13_digest_237 hl (by decide) rfl (fun ls hl => ?_)
    refine lv_iload hx hb dX13_digest_239 (lv_at hl 0 rfl) ?_
    refine lv_aload_n hx hb dX13_digest_241 rfl (lv_at hl 6 rfl) ?_
    refine p_get C hw (ci := 13) (Cn := RX13) (T := TX13) (N := 5) hL55 hf56 rfl hin_RX13 1 (by decide) (mU mw_86) rfl rfl dX13_digest_242 ?_
    refine n_len C hw 0 rfl hL59 hf60 (n := 0) rfl dX13_digest_245 ?_
    refine n_icmp_ge (tgt := 281) hx hb (by first | decide | omega) (by first | decide | omega) dX13_digest_246 (by decide) (fun h_246 => ?_) (fun h_246 => ?_)
    · skip
      refine lv_iconst (v := nI 0) hx hb dX13_digest_281 (by decide) ?_
      refine lv_istore (lv' := [(7, .int (nI 0)), (5, .long (((((58076 * 31 + (((nI 0)).toInt64)) * 31 + (((nI 0)).toInt64)) * 31 + (((nI 0)).toInt64)) * 31 + (((nI 0)).toInt64)) * 31 + (((nI 0)).toInt64))), (4, .ref uu49), (3, .ref ov37), (2, .ref me), (1, .ref rl10), (0, .ref mm)]) hx hb dX13_digest_282 hl (by decide) rfl (fun ls hl => ?_)
      refine lv_iload hx hb dX13_digest_284 (lv_at hl 0 rfl) ?_
      refine lv_aload_n hx hb dX13_digest_286 rfl (lv_at hl 4 rfl) ?_
      refine n_len C hw 0 rfl hL59 hf60 (n := 0) rfl dX13_digest_287 ?_
      refine n_icmp_ge (tgt := 317) hx hb (by first | decide | omega) (by first | decide | omega) dX13_digest_288 (by decide) (fun h_288 => ?_) (fun h_288 => ?_)
      · skip
        refine lv_lload hx hb dX13_digest_317 (lv_at hl 1 rfl) ?_
        refine lv_aload_n hx hb dX13_digest_319 rfl (lv_at hl 6 rfl) ?_
        refine lv_iconst (v := nI 0) hx hb dX13_digest_320 (by decide) ?_
        refine p_calli (va_runV (As := [.int (nI 0)]) (rest := [.long (((((58076 * 31 + (((nI 0)).toInt64)) * 31 + (((nI 0)).toInt64)) * 31 + (((nI 0)).toInt64)) * 31 + (((nI 0)).toInt64)) * 31 + (((nI 0)).toInt64))]) C.fix (e_X13_breaksNow l D cy ed S47 H.size mm me sg cn im 0 0 hL55 hf56 hL59 hf60 hL63 hf64 (by first | assumption | decide | omega)) (cwV 1 C.2.2.2.2.1 (gU_V mw_1070 mw_1071 mw_1072 mw_5 (subU mw_1073)) rfl rfl rfl hde_X13_digest_V_7 ⟨Nat.le_of_ble_eq_true rfl, Nat.le_of_ble_eq_true rfl⟩) (e_preV C hw hA hE hL55 hf56 rfl) rfl rfl hl.1 rfl (lv_room (Nat.le_of_ble_eq_true rfl)) dX13_digest_321 ⟨(Nat.le_of_ble_eq_true rfl), (Nat.le_of_ble_eq_true rfl)⟩) hw hA (fun r84 S83 H locs hpost hw => ?_)
        obtain ⟨nl85, hr_, hS86, hfr87⟩ := hpost
        subst hr_
        refine lv_i2l hx hb dX13_digest_324 rfl ?_
        refine p_calll (va_runS (As := [.long (((((58076 * 31 + (((nI 0)).toInt64)) * 31 + (((nI 0)).toInt64)) * 31 + (((nI 0)).toInt64)) * 31 + (((nI 0)).toInt64)) * 31 + (((nI 0)).toInt64)), .long (((nI 0)).toInt64)]) (rest := []) C.fix (e_X13_add_ l D cy S83 H.size (((((58076 * 31 + (((nI 0)).toInt64)) * 31 + (((nI 0)).toInt64)) * 31 + (((nI 0)).toInt64)) * 31 + (((nI 0)).toInt64)) * 31 + (((nI 0)).toInt64)) (((nI 0)).toInt64)  ) (va_cwS 2 C.2.2.2.2.1 (gU_S mw_1114 mw_1115 mw_5 (subU mw_1116)) rfl rfl rfl hde_X13_digest_S_5 ⟨Nat.le_of_ble_eq_true rfl, Nat.le_of_ble_eq_true rfl⟩) (p_preS C hw) rfl rfl hl.1 rfl (lv_room (Nat.le_of_ble_eq_true rfl)) dX13_digest_325 ⟨(Nat.le_of_ble_eq_true rfl), (Nat.le_of_ble_eq_true rfl)⟩) hw hA (fun r89 S88 H locs hpost hw => ?_)
        obtain ⟨hr_, hS_⟩ := hpost
        subst hr_
        subst hS_
        refine lv_aload_n hx hb dX13_digest_328 rfl (lv_at hl 6 rfl) ?_
        refine lv_iconst (v := nI 5) hx hb dX13_digest_329 (by decide) ?_
        have hL90 : mm ∈ S83.1 := by rw [hS86]; exact List.mem_append_left _ hL55
        have hf91 : S83.2 mm = .inr (13, [.int (nI 0), .ref me, .ref sg, .ref cn, .ref im]) := (hfr87 mm hL55 ).trans hf56
        have hL92 : me ∈ S83.1 := by rw [hS86]; exact List.mem_append_left _ hL59
        have hf93 : S83.2 me = .inl (cy 0, 0, .inl (fun _ => 0)) := (hfr87 me hL59 ).trans hf60
        have hL94 : sg ∈ S83.1 := by rw [hS86]; exact List.mem_append_left _ hL63
        have hf95 : S83.2 sg = .inr (0, [.int (nI 0), .ref ed, .int (nI 0)]) := (hfr87 sg hL63 ).trans hf64
        refine p_calli (va_runV (As := [.int (nI 5)]) (rest := [.long ((((((58076 * 31 + (((nI 0)).toInt64)) * 31 + (((nI 0)).toInt64)) * 31 + (((nI 0)).toInt64)) * 31 + (((nI 0)).toInt64)) * 31 + (((nI 0)).toInt64)) * 31 + (((nI 0)).toInt64))]) C.fix (e_X13_breaksNow l D cy ed S83 H.size mm me sg cn im 0 5 hL90 hf91 hL92 hf93 hL94 hf95 (by first | assumption | decide | omega)) (cwV 1 C.2.2.2.2.1 (gU_V mw_1070 mw_1071 mw_1072 mw_5 (subU mw_1073)) rfl rfl rfl hde_X13_digest_V_7 ⟨Nat.le_of_ble_eq_true rfl, Nat.le_of_ble_eq_true rfl⟩) (e_preV C hw hA hE hL90 hf91 rfl) rfl rfl hl.1 rfl (lv_room (Nat.le_of_ble_eq_true rfl)) dX13_digest_330 ⟨(Nat.le_of_ble_eq_true rfl), (Nat.le_of_ble_eq_true rfl)⟩) hw hA (fun r97 S96 H locs hpost hw => ?_)
        obtain ⟨nl98, hr_, hS99, hfr100⟩ := hpost
        subst hr_
        refine lv_i2l hx hb dX13_digest_333 rfl ?_
        refine p_calll (va_runS (As := [.long ((((((58076 * 31 + (((nI 0)).toInt64)) * 31 + (((nI 0)).toInt64)) * 31 + (((nI 0)).toInt64)) * 31 + (((nI 0)).toInt64)) * 31 + (((nI 0)).toInt64)) * 31 + (((nI 0)).toInt64)), .long (((nI 0)).toInt64)]) (rest := []) C.fix (e_X13_add_ l D cy S96 H.size ((((((58076 * 31 + (((nI 0)).toInt64)) * 31 + (((nI 0)).toInt64)) * 31 + (((nI 0)).toInt64)) * 31 + (((nI 0)).toInt64)) * 31 + (((nI 0)).toInt64)) * 31 + (((nI 0)).toInt64)) (((nI 0)).toInt64)  ) (va_cwS 2 C.2.2.2.2.1 (gU_S mw_1114 mw_1115 mw_5 (subU mw_1116)) rfl rfl rfl hde_X13_digest_S_5 ⟨Nat.le_of_ble_eq_true rfl, Nat.le_of_ble_eq_true rfl⟩) (p_preS C hw) rfl rfl hl.1 rfl (lv_room (Nat.le_of_ble_eq_true rfl)) dX13_digest_334 ⟨(Nat.le_of_ble_eq_true rfl), (Nat.le_of_ble_eq_true rfl)⟩) hw hA (fun r102 S101 H locs hpost hw => ?_)
        obtain ⟨hr_, hS_⟩ := hpost
        subst hr_
        subst hS_
        refine lv_aload_n hx hb dX13_digest_337 rfl (lv_at hl 6 rfl) ?_
        have hL103 : mm ∈ S96.1 := by rw [hS99]; exact List.mem_append_left _ hL90
        have hf104 : S96.2 mm = .inr (13, [.int (nI 0), .ref me, .ref sg, .ref cn, .ref im]) := (hfr100 mm hL90 ).trans hf91
        have hL105 : me ∈ S96.1 := by rw [hS99]; exact List.mem_append_left _ hL92
        have hf106 : S96.2 me = .inl (cy 0, 0, .inl (fun _ => 0)) := (hfr100 me hL92 ).trans hf93
        have hL107 : sg ∈ S96.1 := by rw [hS99]; exact List.mem_append_left _ hL94
        have hf108 : S96.2 sg = .inr (0, [.int (nI 0), .ref ed, .int (nI 0)]) := (hfr100 sg hL94 ).trans hf95
        have hL109 : cn ∈ S35.1 := by rw [hS38]; exact List.mem_append_left _ hL33
        have hf110 : S35.2 cn = .inl (cy 0, 4, .inl (upd (upd (upd (upd (fun _ => 0) 0 (nI 0)) 1 (nI 0)) 2 (nI 0)) 3 (nI 1))) := (hfr39 cn hL33 ).trans hf34
        have hL111 : cn ∈ S47.1 := by rw [hS50]; exact List.mem_append_left _ hL109
        have hf112 : S47.2 cn = .inl (cy 0, 4, .inl (upd (upd (upd (upd (fun _ => 0) 0 (nI 0)) 1 (nI 0)) 2 (nI 0)) 3 (nI 1))) := (hfr51 cn hL109 ).trans hf110
        have hL113 : cn ∈ S83.1 := by rw [hS86]; exact List.mem_append_left _ hL111
        have hf114 : S83.2 cn = .inl (cy 0, 4, .inl (upd (upd (upd (upd (fun _ => 0) 0 (nI 0)) 1 (nI 0)) 2 (nI 0)) 3 (nI 1))) := (hfr87 cn hL111 ).trans hf112
        have hL115 : cn ∈ S96.1 := by rw [hS99]; exact List.mem_append_left _ hL113
        have hf116 : S96.2 cn = .inl (cy 0, 4, .inl (upd (upd (upd (upd (fun _ => 0) 0 (nI 0)) 1 (nI 0)) 2 (nI 0)) 3 (nI 1))) := (hfr100 cn hL113 ).trans hf114
        refine p_calli (va_runV (As := []) (rest := [.long (((((((58076 * 31 + (((nI 0)).toInt64)) * 31 + (((nI 0)).toInt64)) * 31 + (((nI 0)).toInt64)) * 31 + (((nI 0)).toInt64)) * 31 + (((nI 0)).toInt64)) * 31 + (((nI 0)).toInt64)) * 31 + (((nI 0)).toInt64))]) C.fix (e_X13_weakNow l D cy ed S96 H.size mm me sg cn im 0 (upd (upd (upd (upd (fun _ => 0) 0 (nI 0)) 1 (nI 0)) 2 (nI 0)) 3 (nI 1)) hL103 hf104 hL105 hf106 hL107 hf108 hL115 hf116 ) (cwV 0 C.2.2.2.2.1 (gU_V mw_1055 mw_1056 mw_1057 mw_5 (subU mw_1058)) rfl rfl rfl hde_X13_digest_V_8 ⟨Nat.le_of_ble_eq_true rfl, Nat.le_of_ble_eq_true rfl⟩) (e_preV C hw hA hE hL103 hf104 rfl) rfl rfl hl.1 rfl (lv_room (Nat.le_of_ble_eq_true rfl)) dX13_digest_338 ⟨(Nat.le_of_ble_eq_true rfl), (Nat.le_of_ble_eq_true rfl)⟩) hw hA (fun r118 S117 H locs hpost hw => ?_)
        obtain ⟨nl119, hr_, hS120, hfr121⟩ := hpost
        subst hr_
        refine lv_i2l hx hb dX13_digest_341 rfl ?_
        refine p_calll (va_runS (As := [.long (((((((58076 * 31 + (((nI 0)).toInt64)) * 31 + (((nI 0)).toInt64)) * 31 + (((nI 0)).toInt64)) * 31 + (((nI 0)).toInt64)) * 31 + (((nI 0)).toInt64)) * 31 + (((nI 0)).toInt64)) * 31 + (((nI 0)).toInt64)), .long (((nI 0)).toInt64)]) (rest := []) C.fix (e_X13_add_ l D cy S117 H.size (((((((58076 * 31 + (((nI 0)).toInt64)) * 31 + (((nI 0)).toInt64)) * 31 + (((nI 0)).toInt64)) * 31 + (((nI 0)).toInt64)) * 31 + (((nI 0)).toInt64)) * 31 + (((nI 0)).toInt64)) * 31 + (((nI 0)).toInt64)) (((nI 0)).toInt64)  ) (va_cwS 2 C.2.2.2.2.1 (gU_S mw_1114 mw_1115 mw_5 (subU mw_1116)) rfl rfl rfl hde_X13_digest_S_5 ⟨Nat.le_of_ble_eq_true rfl, Nat.le_of_ble_eq_true rfl⟩) (p_preS C hw) rfl rfl hl.1 rfl (lv_room (Nat.le_of_ble_eq_true rfl)) dX13_digest_342 ⟨(Nat.le_of_ble_eq_true rfl), (Nat.le_of_ble_eq_true rfl)⟩) hw hA (fun r123 S122 H locs hpost hw => ?_)
        obtain ⟨hr_, hS_⟩ := hpost
        subst hr_
        subst hS_
        have hL124 : mm ∈ S117.1 := by rw [hS120]; exact List.mem_append_left _ hL103
        have hf125 : S117.2 mm = .inr (13, [.int (nI 0), .ref me, .ref sg, .ref cn, .ref im]) := (hfr121 mm hL103 ).trans hf104
        exact (p_lret C hw (⟨([rl10, ra11] ++ [ov37] ++ [uu49] ++ nl85 ++ nl98 ++ nl119), (by decide +kernel), (by simp only [hS120, hS99, hS86, hS50, hS38, hS12, hS1, pup, pnew, List.append_nil, List.append_assoc, List.cons_append, List.nil_append]), (fun a_ ha_ hn_0 => ((hfr121 a_ (show a_ ∈ S96.1 from by rw [hS99]; exact List.mem_append_left _ (show a_ ∈ S83.1 from by rw [hS86]; exact List.mem_append_left _ (show a_ ∈ S47.1 from by rw [hS50]; exact List.mem_append_left _ (show a_ ∈ S35.1 from by rw [hS38]; exact List.mem_append_left _ (show a_ ∈ S8.1 from by rw [hS12]; exact List.mem_append_left _ (show a_ ∈ S1.1 from by rw [hS1]; exact ha_)))))) ).trans ((hfr100 a_ (show a_ ∈ S83.1 from by rw [hS86]; exact List.mem_append_left _ (show a_ ∈ S47.1 from by rw [hS50]; exact List.mem_append_left _ (show a_ ∈ S35.1 from by rw [hS38]; exact List.mem_append_left _ (show a_ ∈ S8.1 from by rw [hS12]; exact List.mem_append_left _ (show a_ ∈ S1.1 from by rw [hS1]; exact ha_))))) ).trans ((hfr87 a_ (show a_ ∈ S47.1 from by rw [hS50]; exact List.mem_append_left _ (show a_ ∈ S35.1 from by rw [hS38]; exact List.mem_append_left _ (show a_ ∈ S8.1 from by rw [hS12]; exact List.mem_append_left _ (show a_ ∈ S1.1 from by rw [hS1]; exact ha_)))) ).trans ((hfr51 a_ (show a_ ∈ S35.1 from by rw [hS38]; exact List.mem_append_left _ (show a_ ∈ S8.1 from by rw [hS12]; exact List.mem_append_left _ (show a_ ∈ S1.1 from by rw [hS1]; exact ha_))) ).trans ((hfr39 a_ (show a_ ∈ S8.1 from by rw [hS12]; exact List.mem_append_left _ (show a_ ∈ S1.1 from by rw [hS1]; exact ha_)) ).trans ((hfr13 a_ (show a_ ∈ S1.1 from by rw [hS1]; exact ha_) ).trans (show S1.2 a_ = S.2 a_ from by rw [hS1]; exact pup_n hn_0)))))))), hf125⟩) hr hlocks dX13_digest_345)
      · exact absurd h_288 (by first | decide | omega)
    · exact absurd h_246 (by first | decide | omega)
  · exact absurd h_110 (by first | decide | omega)

theorem hde_X13_meanErrors_S_0 : yX13_isIn.cls ≠ "java/lang/invoke/MethodHandle" ∧ yX13_isIn.cls ≠ "java/lang/invoke/VarHandle" ∧ (parseMethodDescriptor yX13_isIn.desc).map (fun d => d.parameters.length) = some 3 := by decide +kernel
theorem hde_X13_meanErrors_V_1 : yX13_start.cls = RX13 ∧ yX13_start.cls ≠ "java/lang/invoke/MethodHandle" ∧ yX13_start.cls ≠ "java/lang/invoke/VarHandle" ∧ (parseMethodDescriptor yX13_start.desc).map (fun d => d.parameters.length) = some 2 := by decide +kernel
theorem hde_X13_meanErrors_V_2 : yX13_rows.cls = RX13 ∧ yX13_rows.cls ≠ "java/lang/invoke/MethodHandle" ∧ yX13_rows.cls ≠ "java/lang/invoke/VarHandle" ∧ (parseMethodDescriptor yX13_rows.desc).map (fun d => d.parameters.length) = some 1 := by decide +kernel
theorem hde_X13_meanErrors_V_3 : yJx4a65c_size_8abf5.cls = RJx4a65c ∧ yJx4a65c_size_8abf5.cls ≠ "java/lang/invoke/MethodHandle" ∧ yJx4a65c_size_8abf5.cls ≠ "java/lang/invoke/VarHandle" ∧ (parseMethodDescriptor yJx4a65c_size_8abf5.desc).map (fun d => d.parameters.length) = some 0 := by decide +kernel
theorem hde_X13_meanErrors_V_4 : yJx4a65c_get_915e3.cls = RJx4a65c ∧ yJx4a65c_get_915e3.cls ≠ "java/lang/invoke/MethodHandle" ∧ yJx4a65c_get_915e3.cls ≠ "java/lang/invoke/VarHandle" ∧ (parseMethodDescriptor yJx4a65c_get_915e3.desc).map (fun d => d.parameters.length) = some 1 := by decide +kernel
theorem hde_X13_meanErrors_S_5 : yX13_over.cls ≠ "java/lang/invoke/MethodHandle" ∧ yX13_over.cls ≠ "java/lang/invoke/VarHandle" ∧ (parseMethodDescriptor yX13_over.desc).map (fun d => d.parameters.length) = some 3 := by decide +kernel
theorem hde_X13_meanErrors_V_6 : yX13_errorsOf.cls = RX13 ∧ yX13_errorsOf.cls ≠ "java/lang/invoke/MethodHandle" ∧ yX13_errorsOf.cls ≠ "java/lang/invoke/VarHandle" ∧ (parseMethodDescriptor yX13_errorsOf.desc).map (fun d => d.parameters.length) = some 2 := by decide +kernel
set_option maxHeartbeats 4000000 in
set_option maxRecDepth 100000 in
theorem e_X13_meanErrors (l : Launch) (D : va_G) (cy : Nat → ClassId) (ed : Nat) (S : pS) (sz : Nat) (mm : Nat) (me : Nat) (sg : Nat) (cn : Nat) (im : Nat) (pp : Int32) (rr : Int32) (hL_mm : mm ∈ S.1) (hf_mm : S.2 mm = .inr (13, [.int (nI 0), .ref me, .ref sg, .ref cn, .ref im])) (hL_me : me ∈ S.1) (hf_me : S.2 me = .inl (cy 0, 0, .inl (fun _ => 0))) (hL_sg : sg ∈ S.1) (hf_sg : S.2 sg = .inr (0, [.int (nI 0), .ref ed, .int (nI 0)]))  : Met l yX13_meanErrors (Cond.code yX13_meanErrors cX13_meanErrors 6 (some .double) :: lwU) ({ frames := 6, cells := 62, slots := 113, locals := 131 }) (ePc D cy ed S sz [.ref mm, .int pp, .int rr]) (pQd D cy S sz (fun r S' => (∃ (nl : List Nat), (okE pp rr) ∧ r = FP.dconst0 ∧ S'.1 = S.1 ++ nl ∧ (∀ a_, a_ ∈ S.1 → a_ ≠ mm → S'.2 a_ = S.2 a_) ∧ S'.2 mm = .inr (13, [.int (nI 0), .ref me, .ref sg, .ref cn, .ref im])) ∨ (∃ (nl : List Nat), (¬ okE pp rr) ∧ r = FP.dconst0 ∧ S'.1 = S.1 ++ nl ∧ (∀ a_, a_ ∈ S.1 → a_ ≠ mm → S'.2 a_ = S.2 a_) ∧ S'.2 mm = .inr (13, [.int (nI 1), .ref me, .ref sg, .ref cn, .ref im])))) 62 113 (pA S sz) := by
  refine Met.ofW (cc := cX13_meanErrors) (maxL := 6) (ret := (some .double)) (by decide) rfl ?_
  intro p e s m args below meth c s₁ B hml hv
  obtain ⟨rfl, rfl, C, hw, hA, hr, hlocks, hE⟩ := e_start B hml hv
  have hx := C.1
  have hb := C.2.1
  have hl := lv_entry ([.ref mm, .int pp, .int rr]) (n := 6) (Nat.le_of_ble_eq_true rfl)
  rw [lg_entry_eq]
  generalize (lg_sl ([.ref mm, .int pp, .int rr]) ++ List.replicate (6 - (lg_sl ([.ref mm, .int pp, .int rr])).length) Slot.unset).toArray = ls at hl ⊢
  have hl : lv_has ls 6 [(0, .ref mm), (1, .int pp), (2, .int rr)] := hl
  have hin_RX13 : ∀ w ∈ u_ws RX13 TX13 5, w ∈ (Cond.code yX13_meanErrors cX13_meanErrors 6 (some .double) :: lwU) := fun w h => mU (sub_RX13 w h)
  refine lv_aload_n hx hb dX13_meanErrors_0 rfl (lv_at hl 0 rfl) ?_
  refine lv_iload_n hx hb dX13_meanErrors_1 rfl (lv_at hl 1 rfl) ?_
  refine lv_iconst (v := nI 0) hx hb dX13_meanErrors_2 (by decide) ?_
  refine lv_sipush (v := nI 1000) hx hb dX13_meanErrors_3 (by decide) ?_
  refine p_calli (va_runS (As := [.int pp, .int (nI 0), .int (nI 1000)]) (rest := [.ref mm]) C.fix (e_X13_isIn l D cy S s.heap.size pp (nI 0) (nI 1000) pp.toInt ((0 : Nat) : Int) ((1000 : Nat) : Int)  rfl (nI_toInt (by first | decide | omega)) (nI_toInt (by first | decide | omega))) (va_cwS 3 C.2.2.2.2.1 (gU_S mw_394 mw_395 mw_5 (subU mw_396)) rfl rfl rfl hde_X13_meanErrors_S_0 ⟨Nat.le_of_ble_eq_true rfl, Nat.le_of_ble_eq_true rfl⟩) (p_preS C hw) rfl rfl hl.1 rfl (lv_room (Nat.le_of_ble_eq_true rfl)) dX13_meanErrors_6 ⟨(Nat.le_of_ble_eq_true rfl), (Nat.le_of_ble_eq_true rfl)⟩) hw hA (fun r2 S1 H locs hpost hw => ?_)
  rcases hpost with hpost | hpost
  · skip
    obtain ⟨hc3, hr_, hS_⟩ := hpost
    subst hr_
    subst hS_
    refine n_if_eq (tgt := 22) hx hb (by first | decide | omega) dX13_meanErrors_9 (by decide) (fun h_9 => ?_) (fun h_9 => ?_)
    · exact absurd h_9 (by first | decide | omega)
    · skip
      refine lv_iload_n hx hb dX13_meanErrors_12 rfl (lv_at hl 2 rfl) ?_
      refine lv_iconst (v := nI 1) hx hb dX13_meanErrors_13 (by decide) ?_
      refine lv_bipush (v := nI 20) hx hb dX13_meanErrors_14 (by decide) ?_
      refine p_calli (va_runS (As := [.int rr, .int (nI 1), .int (nI 20)]) (rest := [.ref mm]) C.fix (e_X13_isIn l D cy S H.size rr (nI 1) (nI 20) rr.toInt ((1 : Nat) : Int) ((20 : Nat) : Int)  rfl (nI_toInt (by first | decide | omega)) (nI_toInt (by first | decide | omega))) (va_cwS 3 C.2.2.2.2.1 (gU_S mw_394 mw_395 mw_5 (subU mw_396)) rfl rfl rfl hde_X13_meanErrors_S_0 ⟨Nat.le_of_ble_eq_true rfl, Nat.le_of_ble_eq_true rfl⟩) (p_preS C hw) rfl rfl hl.1 rfl (lv_room (Nat.le_of_ble_eq_true rfl)) dX13_meanErrors_16 ⟨(Nat.le_of_ble_eq_true rfl), (Nat.le_of_ble_eq_true rfl)⟩) hw hA (fun r5 S4 H locs hpost hw => ?_)
      rcases hpost with hpost | hpost
      · skip
        obtain ⟨hc6, hr_, hS_⟩ := hpost
        subst hr_
        subst hS_
        refine n_if_ne (tgt := 26) hx hb (by first | decide | omega) dX13_meanErrors_19 (by decide) (fun h_19 => ?_) (fun h_19 => ?_)
        · skip
          refine lv_iconst (v := nI 0) hx hb dX13_meanErrors_26 (by decide) ?_
          refine lv_iconst (v := nI 1) hx hb dX13_meanErrors_27 (by decide) ?_
          refine p_calli (va_runV (As := [.int (nI 0), .int (nI 1)]) (rest := []) C.fix (e_X13_start0 l D cy S H.size mm me sg cn im 1 0 hL_mm hf_mm ) (cwV 2 C.2.2.2.2.1 (gU_V mw_397 mw_398 mw_399 mw_5 (subU mw_400)) rfl rfl rfl hde_X13_meanErrors_V_1 ⟨Nat.le_of_ble_eq_true rfl, Nat.le_of_ble_eq_true rfl⟩) (p_preV C hw hL_mm hf_mm rfl) rfl rfl hl.1 rfl (lv_room (Nat.le_of_ble_eq_true rfl)) dX13_meanErrors_28 ⟨(Nat.le_of_ble_eq_true rfl), (Nat.le_of_ble_eq_true rfl)⟩) hw hA (fun r8 S7 H locs hpost hw => ?_)
          obtain ⟨hr_, hS9, hfr10, hf11⟩ := hpost
          subst hr_
          have hL12 : mm ∈ S7.1 := by rw [hS9]; exact List.mem_append_left _ hL_mm
          refine n_if_eq (tgt := 36) hx hb (by first | decide | omega) dX13_meanErrors_31 (by decide) (fun h_31 => ?_) (fun h_31 => ?_)
          · skip
            obtain ⟨qN, hq31, rfl, hqi⟩ := z_nat (x := pp) (by omega)
            obtain ⟨rN, hr31, rfl, hri⟩ := z_nat (x := rr) (by omega)
            have hr1 : 1 ≤ rN := by omega
            have hr20 : rN ≤ 20 := by omega
            refine lv_aload_n hx hb dX13_meanErrors_36 rfl (lv_at hl 0 rfl) ?_
            refine lv_aload_n hx hb dX13_meanErrors_37 rfl (lv_at hl 0 rfl) ?_
            refine p_get C hw (ci := 13) (Cn := RX13) (T := TX13) (N := 5) hL12 hf11 rfl hin_RX13 1 (by decide) (mU mw_86) rfl rfl dX13_meanErrors_38 ?_
            have hL13 : sg ∈ S7.1 := by rw [hS9]; exact List.mem_append_left _ hL_sg
            have hf14 : S7.2 sg = .inr (0, [.int (nI 0), .ref ed, .int (nI 0)]) := (hfr10 sg hL_sg (ne_cells hf_sg hf_mm (by nofun))).trans hf_sg
            have hL15 : me ∈ S7.1 := by rw [hS9]; exact List.mem_append_left _ hL_me
            have hf16 : S7.2 me = .inl (cy 0, 0, .inl (fun _ => 0)) := (hfr10 me hL_me (ne_cells hf_me hf_mm (by nofun))).trans hf_me
            refine p_callq (va_runV (As := [.ref me]) (rest := []) C.fix (e_X13_rows0 l D cy ed S7 H.size mm me me sg cn im 0 0 (fun _ => 0) hL12 hf11 hL13 hf14 hL15 hf16 ) (cwV 1 C.2.2.2.2.1 (gU_V mw_414 mw_415 mw_416 mw_5 (subU mw_417)) rfl rfl rfl hde_X13_meanErrors_V_2 ⟨Nat.le_of_ble_eq_true rfl, Nat.le_of_ble_eq_true rfl⟩) (e_preV C hw hA hE hL12 hf11 rfl) rfl rfl hl.1 rfl (lv_room (Nat.le_of_ble_eq_true rfl)) dX13_meanErrors_41 ⟨(Nat.le_of_ble_eq_true rfl), (Nat.le_of_ble_eq_true rfl)⟩) hw hA (fun r18 S17 H locs hpost hw => ?_)
            obtain ⟨rl, ra, hr_, hS19, hfr20, hf21, hf22⟩ := hpost
            subst hr_
            have hnd23 := p_apart hw hS19
            have hq24 : rl ∉ S7.1 := p_fresh hw hS19 0 rfl
            have hq25 : ra ∉ S7.1 := p_fresh hw hS19 1 rfl
            have hL26 : rl ∈ S17.1 := by rw [hS19]; exact List.mem_append_right _ (List.mem_of_getElem? (i := 0) rfl)
            have hL27 : ra ∈ S17.1 := by rw [hS19]; exact List.mem_append_right _ (List.mem_of_getElem? (i := 1) rfl)
            refine lv_astore_n (lv' := [(3, .ref rl), (0, .ref mm), (1, .int (nI qN)), (2, .int (nI rN))]) hx hb dX13_meanErrors_44 rfl hl (by decide) rfl (fun ls hl => ?_)
            refine lv_iconst (v := nI 0) hx hb dX13_meanErrors_45 (by decide) ?_
            refine lv_istore (lv' := [(4, .int (nI 0)), (3, .ref rl), (0, .ref mm), (1, .int (nI qN)), (2, .int (nI rN))]) hx hb dX13_meanErrors_46 hl (by decide) rfl (fun ls hl => ?_)
            refine lv_iconst (v := nI 1) hx hb dX13_meanErrors_48 (by decide) ?_
            refine lv_istore (lv' := [(5, .int (nI 1)), (4, .int (nI 0)), (3, .ref rl), (0, .ref mm), (1, .int (nI qN)), (2, .int (nI rN))]) hx hb dX13_meanErrors_49 hl (by decide) rfl (fun ls hl => ?_)
            have loop51_28 : ∀ (kf : Nat) (i : Nat) (nl : List Nat) (kc : Nat) (ks : Nat), rN + 1 - i < kf → ∀ (Sx29 : pS) (H : Heap) (locs : List Loc) (ls : Array Slot), (Sx29.1 = S.1 ++ nl) → (∀ a_, a_ ∈ S.1 → a_ ≠ mm → Sx29.2 a_ = S.2 a_) → (mm ∈ Sx29.1) → (Sx29.2 mm = .inr (13, [.int (nI 0), .ref me, .ref sg, .ref cn, .ref im])) → (rl ∈ Sx29.1) → (Sx29.2 rl = .inr (0, [.int (nI 1), .ref ra, .int (nI 1)])) → (ra ∈ Sx29.1) → (Sx29.2 ra = aQ (cy 4) 10 (va_up (fun _ => none) 0 (some me))) → (1 ≤ i) → (i ≤ rN + 1) → (kc + 3 * (rN + 1 - i) ≤ 62) → (ks + 5 * (rN + 1 - i) ≤ 113) → pW D (pA S s.heap.size) s.heap Sx29 H locs → lv_has ls 6 [(5, .int (nI i)), (4, .int (nI 0)), (3, .ref rl), (0, .ref mm), (1, .int (nI qN)), (2, .int (nI rN))] → W p l e (headSpec (Cond.code yX13_meanErrors cX13_meanErrors 6 (some .double) :: lwU) ({ frames := 6, cells := 62, slots := 113, locals := 131 } : Room)).room s m ([.ref mm, .int (nI qN), .int (nI rN)]).toArray below meth c H locs kc ks (MQ below (pQd D cy S s.heap.size (fun r S' => (∃ (nl : List Nat), (okE (nI qN) (nI rN)) ∧ r = FP.dconst0 ∧ S'.1 = S.1 ++ nl ∧ (∀ a_, a_ ∈ S.1 → a_ ≠ mm → S'.2 a_ = S.2 a_) ∧ S'.2 mm = .inr (13, [.int (nI 0), .ref me, .ref sg, .ref cn, .ref im])) ∨ (∃ (nl : List Nat), (¬ okE (nI qN) (nI rN)) ∧ r = FP.dconst0 ∧ S'.1 = S.1 ++ nl ∧ (∀ a_, a_ ∈ S.1 → a_ ≠ mm → S'.2 a_ = S.2 a_) ∧ S'.2 mm = .inr (13, [.int (nI 1), .ref me, .ref sg, .ref cn, .ref im])))) ([.ref mm, .int (nI qN), .int (nI rN)]).toArray s 62 113 (pA S s.heap.size)) (F0 m 51 ls []) := by
              intro kf
              induction kf with
              | zero => intro i nl kc ks hm; exact absurd hm (Nat.not_lt_zero _)
              | succ kf ihloop51_28 =>
                intro i nl kc ks hm Sx29 H locs ls hS30 hfr31 hL32 hf33 hL34 hf35 hL36 hf37 hi1 hi2 hkc hks hw hl
                refine lv_iload hx hb dX13_meanErrors_51 (lv_at hl 0 rfl) ?_
                refine lv_iload_n hx hb dX13_meanErrors_53 rfl (lv_at hl 5 rfl) ?_
                refine n_icmp_gt (tgt := 114) hx hb (by first | decide | omega) (by first | decide | omega) dX13_meanErrors_54 (by decide) (fun h_54 => ?_) (fun h_54 => ?_)
                · skip
                  refine lv_iload hx hb dX13_meanErrors_114 (lv_at hl 1 rfl) ?_
                  refine lv_i2d hx hb dX13_meanErrors_116 ?_
                  refine lv_iload_n hx hb dX13_meanErrors_117 rfl (lv_at hl 5 rfl) ?_
                  refine lv_i2d hx hb dX13_meanErrors_118 ?_
                  refine lv_ddiv hx hb dX13_meanErrors_119 (zmean hr1 hr20).1 ?_
                  refine W.widen (k := 62) (n := 113) (show kc ≤ 62 from by omega) (show ks ≤ 113 from by omega) ?_
                  exact (p_dret C hw ((Or.inl ⟨(nl), (by unfold okE; omega), (zmean hr1 hr20).2, (by simp only [hS30, pup, pnew, List.append_nil, List.append_assoc, List.cons_append, List.nil_append]), (fun a_ ha_ hn_0 => (hfr31 a_ ha_ hn_0)), hf33⟩)) hr hlocks dX13_meanErrors_120)
                · skip
                  refine lv_iload hx hb dX13_meanErrors_57 (lv_at hl 1 rfl) ?_
                  refine lv_aload_n hx hb dX13_meanErrors_59 rfl (lv_at hl 3 rfl) ?_
                  refine lv_aload_n hx hb dX13_meanErrors_60 rfl (lv_at hl 2 rfl) ?_
                  refine lv_aload_n hx hb dX13_meanErrors_61 rfl (lv_at hl 3 rfl) ?_
                  refine p_get C hw (ci := 13) (Cn := RX13) (T := TX13) (N := 5) hL32 hf33 rfl hin_RX13 2 (by decide) (mU mw_90) rfl rfl dX13_meanErrors_62 ?_
                  have hL38 : sg ∈ Sx29.1 := by rw [hS30]; exact List.mem_append_left _ hL_sg
                  have hf39 : Sx29.2 sg = .inr (0, [.int (nI 0), .ref ed, .int (nI 0)]) := (hfr31 sg hL_sg (ne_cells hf_sg hf_mm (by nofun))).trans hf_sg
                  refine p_calli (va_runV (As := []) (rest := [.ref rl, .ref mm, .int (nI 0)]) C.fix (e_Jx4a65c_size_8abf5 l D cy Sx29 H.size sg ed 0 0 hL38 hf39 ) (cwV 0 C.2.2.2.2.1 (gU_V mw_464 mw_465 mw_466 mw_89 (subU mw_467)) rfl rfl rfl hde_X13_meanErrors_V_3 ⟨Nat.le_of_ble_eq_true rfl, Nat.le_of_ble_eq_true rfl⟩) (p_preV C hw hL38 hf39 rfl) rfl rfl hl.1 rfl (lv_room (Nat.le_of_ble_eq_true rfl)) dX13_meanErrors_65 ⟨(show kc + 0 ≤ 62 from by omega), (show ks + 0 ≤ 113 from by omega)⟩) hw hA (fun r41 S40 H locs hpost hw => ?_)
                  obtain ⟨hr_, hS_⟩ := hpost
                  subst hr_
                  subst hS_
                  refine p_callq (va_runV (As := [.int (nI 0)]) (rest := [.ref mm, .int (nI 0)]) C.fix (e_Jx4a65c_get_915e3 l D cy Sx29 H.size rl ra 1 1 0 me (va_up (fun _ => none) 0 (some me)) hL34 hf35 hL36 hf37 (by first | assumption | decide | omega) (by first | assumption | decide | omega) (by first | assumption | rfl | simp [va_up])) (cwV 1 C.2.2.2.2.1 (gU_V mw_468 mw_469 mw_470 mw_89 (subU mw_471)) rfl rfl rfl hde_X13_meanErrors_V_4 ⟨Nat.le_of_ble_eq_true rfl, Nat.le_of_ble_eq_true rfl⟩) (p_preV C hw hL34 hf35 rfl) rfl rfl hl.1 rfl (lv_room (Nat.le_of_ble_eq_true rfl)) dX13_meanErrors_68 ⟨(show kc + 0 + 0 ≤ 62 from by omega), (show ks + 0 + 0 ≤ 113 from by omega)⟩) hw hA (fun r43 S42 H locs hpost hw => ?_)
                  obtain ⟨hr_, hS_⟩ := hpost
                  subst hr_
                  subst hS_
                  have hL44 : me ∈ Sx29.1 := by rw [hS30]; exact List.mem_append_left _ hL_me
                  have hf45 : Sx29.2 me = .inl (cy 0, 0, .inl (fun _ => 0)) := (hfr31 me hL_me (ne_cells hf_me hf_mm (by nofun))).trans hf_me
                  refine p_castA C hw hL44 hf45 (C.2.2.2.2.1 _ (mU mw_413)) dX13_meanErrors_71 ?_
                  refine lv_iconst (v := nI 4) hx hb dX13_meanErrors_74 (by decide) ?_
                  refine p_newa C hw hA (mU mw_59) 0 rfl (n := 4) (by first | decide | omega) (show kc + 0 + 0 + 1 ≤ 62 from by omega) (show ks + 0 + 0 + 4 ≤ 113 from by omega) dX13_meanErrors_75 (fun na46 H hq_na46 hw => ?_)
                  obtain ⟨S47, hS47⟩ : ∃ z, z = pnew Sx29 na46 (.inl (cy 0, 4, .inl (fun _ => 0))) := ⟨_, rfl⟩
                  replace hw : pW D (pA S s.heap.size) s.heap S47 H locs := by rw [hS47]; exact hw
                  have hL48 : na46 ∈ S47.1 := by rw [hS47]; exact List.mem_append_right _ List.mem_cons_self
                  have hf49 : S47.2 na46 = .inl (cy 0, 4, .inl (fun _ => 0)) := by rw [hS47]; exact pnew_s
                  refine lv_dup hx hb dX13_meanErrors_77 rfl ?_
                  refine lv_iconst (v := nI 0) hx hb dX13_meanErrors_78 (by decide) ?_
                  refine lv_iconst (v := nI 1) hx hb dX13_meanErrors_79 (by decide) ?_
                  refine p_ast C hw 0 rfl hL48 hf49 (by first | decide | omega) (by first | decide | omega) dX13_meanErrors_80 (fun H locs hw => ?_)
                  obtain ⟨S50, hS50⟩ : ∃ z, z = pup S47 na46 (.inl (cy 0, 4, .inl (upd (fun _ => 0) 0 (nI 1)))) := ⟨_, rfl⟩
                  replace hw : pW D (pA S s.heap.size) s.heap S50 H locs := by rw [hS50]; exact hw
                  have hL51 : na46 ∈ S50.1 := by rw [hS50]; exact hL48
                  have hf52 : S50.2 na46 = .inl (cy 0, 4, .inl (upd (fun _ => 0) 0 (nI 1))) := by rw [hS50]; exact pup_s
                  refine lv_dup hx hb dX13_meanErrors_81 rfl ?_
                  refine lv_iconst (v := nI 1) hx hb dX13_meanErrors_82 (by decide) ?_
                  refine lv_iload_n hx hb dX13_meanErrors_83 rfl (lv_at hl 4 rfl) ?_
                  refine p_ast C hw 0 rfl hL51 hf52 (by first | decide | omega) (by first | decide | omega) dX13_meanErrors_84 (fun H locs hw => ?_)
                  obtain ⟨S53, hS53⟩ : ∃ z, z = pup S50 na46 (.inl (cy 0, 4, .inl (upd (upd (fun _ => 0) 0 (nI 1)) 1 (nI qN)))) := ⟨_, rfl⟩
                  replace hw : pW D (pA S s.heap.size) s.heap S53 H locs := by rw [hS53]; exact hw
                  have hL54 : na46 ∈ S53.1 := by rw [hS53]; exact hL51
                  have hf55 : S53.2 na46 = .inl (cy 0, 4, .inl (upd (upd (fun _ => 0) 0 (nI 1)) 1 (nI qN))) := by rw [hS53]; exact pup_s
                  refine lv_dup hx hb dX13_meanErrors_85 rfl ?_
                  refine lv_iconst (v := nI 2) hx hb dX13_meanErrors_86 (by decide) ?_
                  refine lv_iload hx hb dX13_meanErrors_87 (lv_at hl 0 rfl) ?_
                  refine p_ast C hw 0 rfl hL54 hf55 (by first | decide | omega) (by first | decide | omega) dX13_meanErrors_89 (fun H locs hw => ?_)
                  obtain ⟨S56, hS56⟩ : ∃ z, z = pup S53 na46 (.inl (cy 0, 4, .inl (upd (upd (upd (fun _ => 0) 0 (nI 1)) 1 (nI qN)) 2 (nI i)))) := ⟨_, rfl⟩
                  replace hw : pW D (pA S s.heap.size) s.heap S56 H locs := by rw [hS56]; exact hw
                  have hL57 : na46 ∈ S56.1 := by rw [hS56]; exact hL54
                  have hf58 : S56.2 na46 = .inl (cy 0, 4, .inl (upd (upd (upd (fun _ => 0) 0 (nI 1)) 1 (nI qN)) 2 (nI i))) := by rw [hS56]; exact pup_s
                  refine lv_dup hx hb dX13_meanErrors_90 rfl ?_
                  refine lv_iconst (v := nI 3) hx hb dX13_meanErrors_91 (by decide) ?_
                  refine lv_iconst (v := nI 1) hx hb dX13_meanErrors_92 (by decide) ?_
                  refine p_ast C hw 0 rfl hL57 hf58 (by first | decide | omega) (by first | decide | omega) dX13_meanErrors_93 (fun H locs hw => ?_)
                  obtain ⟨S59, hS59⟩ : ∃ z, z = pup S56 na46 (.inl (cy 0, 4, .inl (upd (upd (upd (upd (fun _ => 0) 0 (nI 1)) 1 (nI qN)) 2 (nI i)) 3 (nI 1)))) := ⟨_, rfl⟩
                  replace hw : pW D (pA S s.heap.size) s.heap S59 H locs := by rw [hS59]; exact hw
                  have hL60 : na46 ∈ S59.1 := by rw [hS59]; exact hL57
                  have hf61 : S59.2 na46 = .inl (cy 0, 4, .inl (upd (upd (upd (upd (fun _ => 0) 0 (nI 1)) 1 (nI qN)) 2 (nI i)) 3 (nI 1))) := by rw [hS59]; exact pup_s
                  refine lv_aload_n hx hb dX13_meanErrors_94 rfl (lv_at hl 3 rfl) ?_
                  have hL62 : mm ∈ S47.1 := by rw [hS47]; exact List.mem_append_left _ hL32
                  have hf63 : S47.2 mm = .inr (13, [.int (nI 0), .ref me, .ref sg, .ref cn, .ref im]) := by rw [hS47]; exact (pnew_n (fun z : mm = na46 => hq_na46 (by rw [← z]; exact hL32))).trans hf33
                  have hL64 : mm ∈ S50.1 := by rw [hS50]; exact hL62
                  have hf65 : S50.2 mm = .inr (13, [.int (nI 0), .ref me, .ref sg, .ref cn, .ref im]) := by rw [hS50]; exact (pup_n (fun z : mm = na46 => hq_na46 (by rw [← z]; exact hL32))).trans hf63
                  have hL66 : mm ∈ S53.1 := by rw [hS53]; exact hL64
                  have hf67 : S53.2 mm = .inr (13, [.int (nI 0), .ref me, .ref sg, .ref cn, .ref im]) := by rw [hS53]; exact (pup_n (fun z : mm = na46 => hq_na46 (by rw [← z]; exact hL32))).trans hf65
                  have hL68 : mm ∈ S56.1 := by rw [hS56]; exact hL66
                  have hf69 : S56.2 mm = .inr (13, [.int (nI 0), .ref me, .ref sg, .ref cn, .ref im]) := by rw [hS56]; exact (pup_n (fun z : mm = na46 => hq_na46 (by rw [← z]; exact hL32))).trans hf67
                  have hL70 : mm ∈ S59.1 := by rw [hS59]; exact hL68
                  have hf71 : S59.2 mm = .inr (13, [.int (nI 0), .ref me, .ref sg, .ref cn, .ref im]) := by rw [hS59]; exact (pup_n (fun z : mm = na46 => hq_na46 (by rw [← z]; exact hL32))).trans hf69
                  refine p_get C hw (ci := 13) (Cn := RX13) (T := TX13) (N := 5) hL70 hf71 rfl hin_RX13 4 (by decide) (mU mw_93) rfl rfl dX13_meanErrors_95 ?_
                  have hL72 : me ∈ S47.1 := by rw [hS47]; exact List.mem_append_left _ hL44
                  have hf73 : S47.2 me = .inl (cy 0, 0, .inl (fun _ => 0)) := by rw [hS47]; exact (pnew_n (fun z : me = na46 => hq_na46 (by rw [← z]; exact hL44))).trans hf45
                  have hL74 : me ∈ S50.1 := by rw [hS50]; exact hL72
                  have hf75 : S50.2 me = .inl (cy 0, 0, .inl (fun _ => 0)) := by rw [hS50]; exact (pup_n (fun z : me = na46 => hq_na46 (by rw [← z]; exact hL44))).trans hf73
                  have hL76 : me ∈ S53.1 := by rw [hS53]; exact hL74
                  have hf77 : S53.2 me = .inl (cy 0, 0, .inl (fun _ => 0)) := by rw [hS53]; exact (pup_n (fun z : me = na46 => hq_na46 (by rw [← z]; exact hL44))).trans hf75
                  have hL78 : me ∈ S56.1 := by rw [hS56]; exact hL76
                  have hf79 : S56.2 me = .inl (cy 0, 0, .inl (fun _ => 0)) := by rw [hS56]; exact (pup_n (fun z : me = na46 => hq_na46 (by rw [← z]; exact hL44))).trans hf77
                  have hL80 : me ∈ S59.1 := by rw [hS59]; exact hL78
                  have hf81 : S59.2 me = .inl (cy 0, 0, .inl (fun _ => 0)) := by rw [hS59]; exact (pup_n (fun z : me = na46 => hq_na46 (by rw [← z]; exact hL44))).trans hf79
                  refine p_callq (va_runS (As := [.ref me, .ref na46, .ref im]) (rest := [.ref mm, .int (nI 0)]) C.fix (e_X13_over0 l D cy S59 H.size me na46 im (fun _ => 0) (upd (upd (upd (upd (fun _ => 0) 0 (nI 1)) 1 (nI qN)) 2 (nI i)) 3 (nI 1)) hL80 hf81 hL60 hf61 ) (va_cwS 3 C.2.2.2.2.1 (gU_S mw_822 mw_823 mw_5 (subU mw_824)) rfl rfl rfl hde_X13_meanErrors_S_5 ⟨Nat.le_of_ble_eq_true rfl, Nat.le_of_ble_eq_true rfl⟩) (p_preS C hw) rfl rfl hl.1 rfl (lv_room (Nat.le_of_ble_eq_true rfl)) dX13_meanErrors_98 ⟨(show kc + 0 + 0 + 1 + 1 ≤ 62 from by omega), (show ks + 0 + 0 + 4 + 0 ≤ 113 from by omega)⟩) hw hA (fun r83 S82 H locs hpost hw => ?_)
                  obtain ⟨ov84, hr_, hS85, hfr86, hf87⟩ := hpost
                  subst hr_
                  have hq88 : ov84 ∉ S59.1 := p_fresh hw hS85 0 rfl
                  have hL89 : ov84 ∈ S82.1 := by rw [hS85]; exact List.mem_append_right _ (List.mem_of_getElem? (i := 0) rfl)
                  refine lv_aload_n hx hb dX13_meanErrors_101 rfl (lv_at hl 2 rfl) ?_
                  have hL90 : mm ∈ S82.1 := by rw [hS85]; exact List.mem_append_left _ hL70
                  have hf91 : S82.2 mm = .inr (13, [.int (nI 0), .ref me, .ref sg, .ref cn, .ref im]) := (hfr86 mm hL70 ).trans hf71
                  have hL92 : sg ∈ S47.1 := by rw [hS47]; exact List.mem_append_left _ hL38
                  have hf93 : S47.2 sg = .inr (0, [.int (nI 0), .ref ed, .int (nI 0)]) := by rw [hS47]; exact (pnew_n (fun z : sg = na46 => hq_na46 (by rw [← z]; exact hL38))).trans hf39
                  have hL94 : sg ∈ S50.1 := by rw [hS50]; exact hL92
                  have hf95 : S50.2 sg = .inr (0, [.int (nI 0), .ref ed, .int (nI 0)]) := by rw [hS50]; exact (pup_n (fun z : sg = na46 => hq_na46 (by rw [← z]; exact hL38))).trans hf93
                  have hL96 : sg ∈ S53.1 := by rw [hS53]; exact hL94
                  have hf97 : S53.2 sg = .inr (0, [.int (nI 0), .ref ed, .int (nI 0)]) := by rw [hS53]; exact (pup_n (fun z : sg = na46 => hq_na46 (by rw [← z]; exact hL38))).trans hf95
                  have hL98 : sg ∈ S56.1 := by rw [hS56]; exact hL96
                  have hf99 : S56.2 sg = .inr (0, [.int (nI 0), .ref ed, .int (nI 0)]) := by rw [hS56]; exact (pup_n (fun z : sg = na46 => hq_na46 (by rw [← z]; exact hL38))).trans hf97
                  have hL100 : sg ∈ S59.1 := by rw [hS59]; exact hL98
                  have hf101 : S59.2 sg = .inr (0, [.int (nI 0), .ref ed, .int (nI 0)]) := by rw [hS59]; exact (pup_n (fun z : sg = na46 => hq_na46 (by rw [← z]; exact hL38))).trans hf99
                  have hL102 : sg ∈ S82.1 := by rw [hS85]; exact List.mem_append_left _ hL100
                  have hf103 : S82.2 sg = .inr (0, [.int (nI 0), .ref ed, .int (nI 0)]) := (hfr86 sg hL100 ).trans hf101
                  refine p_calli (va_runV (As := [.ref ov84, .ref rl]) (rest := [.int (nI 0)]) C.fix (e_X13_errorsOf0 l D cy S82 H.size mm ov84 rl me sg cn im ed 0 (fun _ => 0) hL90 hf91 hL102 hf103 hL89 hf87 ) (cwV 2 C.2.2.2.2.1 (gU_V mw_943 mw_944 mw_945 mw_5 (subU mw_946)) rfl rfl rfl hde_X13_meanErrors_V_6 ⟨Nat.le_of_ble_eq_true rfl, Nat.le_of_ble_eq_true rfl⟩) (p_preV C hw hL90 hf91 rfl) rfl rfl hl.1 rfl (lv_room (Nat.le_of_ble_eq_true rfl)) dX13_meanErrors_102 ⟨(show kc + 0 + 0 + 1 + 1 + 1 ≤ 62 from by omega), (show ks + 0 + 0 + 4 + 0 + 1 ≤ 113 from by omega)⟩) hw hA (fun r105 S104 H locs hpost hw => ?_)
                  obtain ⟨uu106, hr_, hS107, hfr108⟩ := hpost
                  subst hr_
                  have hq109 : uu106 ∉ S82.1 := p_fresh hw hS107 0 rfl
                  refine n_iadd hx hb dX13_meanErrors_105 ?_
                  refine n_ren (b := 0) (by first | rfl | omega | simp) ?_
                  refine lv_istore (lv' := [(4, .int (nI 0)), (5, .int (nI i)), (3, .ref rl), (0, .ref mm), (1, .int (nI qN)), (2, .int (nI rN))]) hx hb dX13_meanErrors_106 hl (by decide) rfl (fun ls hl => ?_)
                  refine lv_iinc (v := (nI (i + 1))) (lv' := [(5, .int (nI (i + 1))), (4, .int (nI 0)), (3, .ref rl), (0, .ref mm), (1, .int (nI qN)), (2, .int (nI rN))]) hx hb dX13_meanErrors_108 hl (k := 1) rfl (by rw [show Int32.ofInt 1 = nI 1 from by decide, nI_add]) (by decide) rfl (fun ls hl => ?_)
                  refine lv_goto (tgt := 51) hx hb dX13_meanErrors_111 (by decide) ?_
                  have hL110 : mm ∈ S104.1 := by rw [hS107]; exact List.mem_append_left _ hL90
                  have hf111 : S104.2 mm = .inr (13, [.int (nI 0), .ref me, .ref sg, .ref cn, .ref im]) := (hfr108 mm hL90 ).trans hf91
                  have hL112 : rl ∈ S47.1 := by rw [hS47]; exact List.mem_append_left _ hL34
                  have hf113 : S47.2 rl = .inr (0, [.int (nI 1), .ref ra, .int (nI 1)]) := by rw [hS47]; exact (pnew_n (fun z : rl = na46 => hq_na46 (by rw [← z]; exact hL34))).trans hf35
                  have hL114 : rl ∈ S50.1 := by rw [hS50]; exact hL112
                  have hf115 : S50.2 rl = .inr (0, [.int (nI 1), .ref ra, .int (nI 1)]) := by rw [hS50]; exact (pup_n (fun z : rl = na46 => hq_na46 (by rw [← z]; exact hL34))).trans hf113
                  have hL116 : rl ∈ S53.1 := by rw [hS53]; exact hL114
                  have hf117 : S53.2 rl = .inr (0, [.int (nI 1), .ref ra, .int (nI 1)]) := by rw [hS53]; exact (pup_n (fun z : rl = na46 => hq_na46 (by rw [← z]; exact hL34))).trans hf115
                  have hL118 : rl ∈ S56.1 := by rw [hS56]; exact hL116
                  have hf119 : S56.2 rl = .inr (0, [.int (nI 1), .ref ra, .int (nI 1)]) := by rw [hS56]; exact (pup_n (fun z : rl = na46 => hq_na46 (by rw [← z]; exact hL34))).trans hf117
                  have hL120 : rl ∈ S59.1 := by rw [hS59]; exact hL118
                  have hf121 : S59.2 rl = .inr (0, [.int (nI 1), .ref ra, .int (nI 1)]) := by rw [hS59]; exact (pup_n (fun z : rl = na46 => hq_na46 (by rw [← z]; exact hL34))).trans hf119
                  have hL122 : rl ∈ S82.1 := by rw [hS85]; exact List.mem_append_left _ hL120
                  have hf123 : S82.2 rl = .inr (0, [.int (nI 1), .ref ra, .int (nI 1)]) := (hfr86 rl hL120 ).trans hf121
                  have hL124 : rl ∈ S104.1 := by rw [hS107]; exact List.mem_append_left _ hL122
                  have hf125 : S104.2 rl = .inr (0, [.int (nI 1), .ref ra, .int (nI 1)]) := (hfr108 rl hL122 ).trans hf123
                  have hL126 : ra ∈ S47.1 := by rw [hS47]; exact List.mem_append_left _ hL36
                  have hf127 : S47.2 ra = aQ (cy 4) 10 (va_up (fun _ => none) 0 (some me)) := by rw [hS47]; exact (pnew_n (fun z : ra = na46 => hq_na46 (by rw [← z]; exact hL36))).trans hf37
                  have hL128 : ra ∈ S50.1 := by rw [hS50]; exact hL126
                  have hf129 : S50.2 ra = aQ (cy 4) 10 (va_up (fun _ => none) 0 (some me)) := by rw [hS50]; exact (pup_n (fun z : ra = na46 => hq_na46 (by rw [← z]; exact hL36))).trans hf127
                  have hL130 : ra ∈ S53.1 := by rw [hS53]; exact hL128
                  have hf131 : S53.2 ra = aQ (cy 4) 10 (va_up (fun _ => none) 0 (some me)) := by rw [hS53]; exact (pup_n (fun z : ra = na46 => hq_na46 (by rw [← z]; exact hL36))).trans hf129
                  have hL132 : ra ∈ S56.1 := by rw [hS56]; exact hL130
                  have hf133 : S56.2 ra = aQ (cy 4) 10 (va_up (fun _ => none) 0 (some me)) := by rw [hS56]; exact (pup_n (fun z : ra = na46 => hq_na46 (by rw [← z]; exact hL36))).trans hf131
                  have hL134 : ra ∈ S59.1 := by rw [hS59]; exact hL132
                  have hf135 : S59.2 ra = aQ (cy 4) 10 (va_up (fun _ => none) 0 (some me)) := by rw [hS59]; exact (pup_n (fun z : ra = na46 => hq_na46 (by rw [← z]; exact hL36))).trans hf133
                  have hL136 : ra ∈ S82.1 := by rw [hS85]; exact List.mem_append_left _ hL134
                  have hf137 : S82.2 ra = aQ (cy 4) 10 (va_up (fun _ => none) 0 (some me)) := (hfr86 ra hL134 ).trans hf135
                  have hL138 : ra ∈ S104.1 := by rw [hS107]; exact List.mem_append_left _ hL136
                  have hf139 : S104.2 ra = aQ (cy 4) 10 (va_up (fun _ => none) 0 (some me)) := (hfr108 ra hL136 ).trans hf137
                  exact ihloop51_28 (i + 1) (nl ++ [na46] ++ [ov84] ++ [uu106]) (kc + 0 + 0 + 1 + 1 + 1) (ks + 0 + 0 + 4 + 0 + 1) (by omega) S104 H locs ls (by simp only [hS107, hS85, hS59, hS56, hS53, hS50, hS47, hS30, pup, pnew, List.append_nil, List.append_assoc, List.cons_append, List.nil_append]) (fun a_ ha_ hn_0 => ((hfr108 a_ (show a_ ∈ S82.1 from by rw [hS85]; exact List.mem_append_left _ (show a_ ∈ S59.1 from by rw [hS59]; exact (show a_ ∈ S56.1 from by rw [hS56]; exact (show a_ ∈ S53.1 from by rw [hS53]; exact (show a_ ∈ S50.1 from by rw [hS50]; exact (show a_ ∈ S47.1 from by rw [hS47]; exact List.mem_append_left _ (show a_ ∈ Sx29.1 from by rw [hS30]; exact List.mem_append_left _ ha_))))))) ).trans ((hfr86 a_ (show a_ ∈ S59.1 from by rw [hS59]; exact (show a_ ∈ S56.1 from by rw [hS56]; exact (show a_ ∈ S53.1 from by rw [hS53]; exact (show a_ ∈ S50.1 from by rw [hS50]; exact (show a_ ∈ S47.1 from by rw [hS47]; exact List.mem_append_left _ (show a_ ∈ Sx29.1 from by rw [hS30]; exact List.mem_append_left _ ha_)))))) ).trans ((show S59.2 a_ = S56.2 a_ from by rw [hS59]; exact pup_n (fun z : a_ = na46 => hq_na46 (by rw [← z]; exact (show a_ ∈ Sx29.1 from by rw [hS30]; exact List.mem_append_left _ ha_)))).trans ((show S56.2 a_ = S53.2 a_ from by rw [hS56]; exact pup_n (fun z : a_ = na46 => hq_na46 (by rw [← z]; exact (show a_ ∈ Sx29.1 from by rw [hS30]; exact List.mem_append_left _ ha_)))).trans ((show S53.2 a_ = S50.2 a_ from by rw [hS53]; exact pup_n (fun z : a_ = na46 => hq_na46 (by rw [← z]; exact (show a_ ∈ Sx29.1 from by rw [hS30]; exact List.mem_append_left _ ha_)))).trans ((show S50.2 a_ = S47.2 a_ from by rw [hS50]; exact pup_n (fun z : a_ = na46 => hq_na46 (by rw [← z]; exact (show a_ ∈ Sx29.1 from by rw [hS30]; exact List.mem_append_left _ ha_)))).trans ((show S47.2 a_ = Sx29.2 a_ from by rw [hS47]; exact pnew_n (fun z : a_ = na46 => hq_na46 (by rw [← z]; exact (show a_ ∈ Sx29.1 from by rw [hS30]; exact List.mem_append_left _ ha_)))).trans (hfr31 a_ ha_ hn_0))))))))) hL110 hf111 hL124 hf125 hL138 hf139 (by omega) (by omega) (by omega) (by omega) hw (lv_sub hl [0, 1, 2, 3, 4, 5] rfl)
            have hL140 : mm ∈ S17.1 := by rw [hS19]; exact List.mem_append_left _ hL12
            have hf141 : S17.2 mm = .inr (13, [.int (nI 0), .ref me, .ref sg, .ref cn, .ref im]) := (hfr20 mm hL12 ).trans hf11
            exact loop51_28 (rN + 1 - 1 + 1) 1 ([rl, ra]) 2 13 (by omega) S17 H locs ls (by simp only [hS19, hS9, pup, pnew, List.append_nil, List.append_assoc, List.cons_append, List.nil_append]) (fun a_ ha_ hn_0 => ((hfr20 a_ (show a_ ∈ S7.1 from by rw [hS9]; exact List.mem_append_left _ ha_) ).trans (hfr10 a_ ha_ hn_0))) hL140 hf141 hL26 hf21 hL27 hf22 (by omega) (by omega) (by omega) (by omega) hw (lv_sub hl [0, 1, 2, 3, 4, 5] rfl)
          · exact absurd h_31 (by first | decide | omega)
        · exact absurd h_19 (by first | decide | omega)
      · skip
        obtain ⟨hc142, hr_, hS_⟩ := hpost
        subst hr_
        subst hS_
        refine n_if_ne (tgt := 26) hx hb (by first | decide | omega) dX13_meanErrors_19 (by decide) (fun h_19 => ?_) (fun h_19 => ?_)
        · exact absurd h_19 (by first | decide | omega)
        · skip
          refine lv_iconst (v := nI 1) hx hb dX13_meanErrors_22 (by decide) ?_
          refine lv_goto (tgt := 27) hx hb dX13_meanErrors_23 (by decide) ?_
          refine lv_iconst (v := nI 1) hx hb dX13_meanErrors_27 (by decide) ?_
          refine p_calli (va_runV (As := [.int (nI 1), .int (nI 1)]) (rest := []) C.fix (e_X13_start1 l D cy S H.size mm me sg cn im 1 0 hL_mm hf_mm (by first | assumption | decide | omega) (by first | assumption | decide | omega)) (cwV 2 C.2.2.2.2.1 (gU_V mw_397 mw_398 mw_399 mw_5 (subU mw_400)) rfl rfl rfl hde_X13_meanErrors_V_1 ⟨Nat.le_of_ble_eq_true rfl, Nat.le_of_ble_eq_true rfl⟩) (p_preV C hw hL_mm hf_mm rfl) rfl rfl hl.1 rfl (lv_room (Nat.le_of_ble_eq_true rfl)) dX13_meanErrors_28 ⟨(Nat.le_of_ble_eq_true rfl), (Nat.le_of_ble_eq_true rfl)⟩) hw hA (fun r144 S143 H locs hpost hw => ?_)
          obtain ⟨hr_, hS145, hfr146, hf147⟩ := hpost
          subst hr_
          have hL148 : mm ∈ S143.1 := by rw [hS145]; exact List.mem_append_left _ hL_mm
          refine n_if_eq (tgt := 36) hx hb (by first | decide | omega) dX13_meanErrors_31 (by decide) (fun h_31 => ?_) (fun h_31 => ?_)
          · exact absurd h_31 (by first | decide | omega)
          · skip
            refine lv_dconst0 hx hb dX13_meanErrors_34 ?_
            refine W.widen (k := 62) (n := 113) (Nat.le_of_ble_eq_true rfl) (Nat.le_of_ble_eq_true rfl) ?_
            exact (p_dret C hw ((Or.inr ⟨[], (by unfold okE; omega), rfl, (by simp only [hS145, pup, pnew, List.append_nil, List.append_assoc, List.cons_append, List.nil_append]), (fun a_ ha_ hn_0 => (hfr146 a_ ha_ hn_0)), hf147⟩)) hr hlocks dX13_meanErrors_35)
  · skip
    obtain ⟨hc149, hr_, hS_⟩ := hpost
    subst hr_
    subst hS_
    refine n_if_eq (tgt := 22) hx hb (by first | decide | omega) dX13_meanErrors_9 (by decide) (fun h_9 => ?_) (fun h_9 => ?_)
    · skip
      refine lv_iconst (v := nI 1) hx hb dX13_meanErrors_22 (by decide) ?_
      refine lv_goto (tgt := 27) hx hb dX13_meanErrors_23 (by decide) ?_
      refine lv_iconst (v := nI 1) hx hb dX13_meanErrors_27 (by decide) ?_
      refine p_calli (va_runV (As := [.int (nI 1), .int (nI 1)]) (rest := []) C.fix (e_X13_start1 l D cy S H.size mm me sg cn im 1 0 hL_mm hf_mm (by first | assumption | decide | omega) (by first | assumption | decide | omega)) (cwV 2 C.2.2.2.2.1 (gU_V mw_397 mw_398 mw_399 mw_5 (subU mw_400)) rfl rfl rfl hde_X13_meanErrors_V_1 ⟨Nat.le_of_ble_eq_true rfl, Nat.le_of_ble_eq_true rfl⟩) (p_preV C hw hL_mm hf_mm rfl) rfl rfl hl.1 rfl (lv_room (Nat.le_of_ble_eq_true rfl)) dX13_meanErrors_28 ⟨(Nat.le_of_ble_eq_true rfl), (Nat.le_of_ble_eq_true rfl)⟩) hw hA (fun r151 S150 H locs hpost hw => ?_)
      obtain ⟨hr_, hS152, hfr153, hf154⟩ := hpost
      subst hr_
      have hL155 : mm ∈ S150.1 := by rw [hS152]; exact List.mem_append_left _ hL_mm
      refine n_if_eq (tgt := 36) hx hb (by first | decide | omega) dX13_meanErrors_31 (by decide) (fun h_31 => ?_) (fun h_31 => ?_)
      · exact absurd h_31 (by first | decide | omega)
      · skip
        refine lv_dconst0 hx hb dX13_meanErrors_34 ?_
        refine W.widen (k := 62) (n := 113) (Nat.le_of_ble_eq_true rfl) (Nat.le_of_ble_eq_true rfl) ?_
        exact (p_dret C hw ((Or.inr ⟨[], (by unfold okE; omega), rfl, (by simp only [hS152, pup, pnew, List.append_nil, List.append_assoc, List.cons_append, List.nil_append]), (fun a_ ha_ hn_0 => (hfr153 a_ ha_ hn_0)), hf154⟩)) hr hlocks dX13_meanErrors_35)
    · exact absurd h_9 (by first | decide | omega)
