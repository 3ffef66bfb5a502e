theorem hde_L_write_V_0 : yX11_write.cls = RX11 ∧ yX11_write.cls ≠ "java/lang/invoke/MethodHandle" ∧ yX11_write.cls ≠ "java/lang/invoke/VarHandle" ∧ (parseMethodDescriptor yX11_write.desc).map (fun d => d.parameters.length) = some 2 := by decide +kernel
set_option maxHeartbeats 4000000 in
set_option maxRecDepth 100000 in
/-- write -/
theorem e_L_write (l : Launch) (hflags : l.stackTraces = false) (D : va_G) (cy : Nat → ClassId) (ed : Nat) (S : pS) (sz : Nat) (x : Nat) (jo : Nat) (ch : Nat) (ln : Nat) (sl : Nat) (mk : Nat) (co : Nat) (ca : Nat) (su : Nat) (lt : Nat) (lk : Nat) (mb : Nat) (col : Nat) (con : Nat) (cor0 : Nat) (cor1 : Nat) (cor2 : Nat) (cor3 : Nat) (cor4 : Nat) (cob0 : Nat) (cal : Nat) (can : Nat) (car0 : Nat) (car1 : Nat) (car2 : Nat) (car3 : Nat) (car4 : Nat) (cab0 : Nat) (n : Int32) (many : Int32) (jg : Nat → Int64) (hL_x : x ∈ S.1) (hf_x : S.2 x = .inr (11, [.ref ch, .ref ln, .ref sl, .ref mk, .ref co, .ref ca, .ref su, .ref lt])) (hL_ch : ch ∈ S.1) (hf_ch : S.2 ch = .inr (2, [.ref lk, .int (nI 0)])) (hL_ln : ln ∈ S.1) (hf_ln : S.2 ln = .inr (6, [.int (nI 0), .int (nI 0), .int (nI 0), .int (nI 0)])) (hL_mk : mk ∈ S.1) (hf_mk : S.2 mk = .inr (8, [.ref mb, .int (nI 320)])) (hL_mb : mb ∈ S.1) (hf_mb : S.2 mb = aN (cy 0) 320 (fun _ => 0)) (hL_co : co ∈ S.1) (hf_co : S.2 co = .inr (5, [.ref col, .ref con])) (hL_col : col ∈ S.1) (hf_col : S.2 col = aQ (cy 2) 5 (va_up (va_up (va_up (va_up (va_up (fun _ => none) 0 (some cor0)) 1 (some cor1)) 2 (some cor2)) 3 (some cor3)) 4 (some cor4))) (hL_cor0 : cor0 ∈ S.1) (hf_cor0 : S.2 cor0 = .inr (8, [.ref cob0, .int (nI 0)])) (hL_cob0 : cob0 ∈ S.1) (hf_cob0 : S.2 cob0 = aN (cy 0) 32 (fun _ => 0)) (hL_ca : ca ∈ S.1) (hf_ca : S.2 ca = .inr (5, [.ref cal, .ref can])) (hL_cal : cal ∈ S.1) (hf_cal : S.2 cal = aQ (cy 2) 5 (va_up (va_up (va_up (va_up (va_up (fun _ => none) 0 (some car0)) 1 (some car1)) 2 (some car2)) 3 (some car3)) 4 (some car4))) (hL_car0 : car0 ∈ S.1) (hf_car0 : S.2 car0 = .inr (8, [.ref cab0, .int (nI 0)])) (hL_cab0 : cab0 ∈ S.1) (hf_cab0 : S.2 cab0 = aN (cy 0) 32 (fun _ => 0)) (hL_jo : jo ∈ S.1) (hf_jo : S.2 jo = .inl (cy 6, 1, .inr (.inl jg))) (hne_mk_cor0 : mk ≠ cor0) (hne_mb_cob0 : mb ≠ cob0) (hne_car0_cor0 : car0 ≠ cor0) (hne_cab0_cob0 : cab0 ≠ cob0) (hne_mk_car0 : mk ≠ car0) (hne_mb_cab0 : mb ≠ cab0) (hne_jo_cob0 : jo ≠ cob0) (hne_jo_cab0 : jo ≠ cab0) : vx_Met l yL_write (Cond.codeWith yL_write cL_write 5 (some .int) [(0, 10, 13, 13), (0, 10, 17, 15)] :: lwU) ({ frames := 7, cells := 1, slots := 6, locals := 156 }) (ePc D cy ed S sz [.ref x, .int n, .int many, .ref jo]) (pQi D cy S sz (fun r S' => ((okW n many) ∧ r = (nI 0) ∧ S'.1 = S.1 ++ [] ∧ (∀ a_, a_ ∈ S.1 → a_ ≠ cor0 → a_ ≠ cob0 → a_ ≠ car0 → a_ ≠ cab0 → a_ ≠ jo → S'.2 a_ = S.2 a_) ∧ S'.2 jo = .inl (cy 6, 1, .inr (.inl (vp_updL jg 0 (many).toInt64)))) ∨ ((¬ okW n many) ∧ r = (nI 1) ∧ S = S'))) (pX D S sz (fun _ _ => False)) 1 6 (pA S sz) := by
  refine vx_ofWH (cc := cL_write) (maxL := 5) (ret := (some .int)) (hh := [(0, 10, 13, 13), (0, 10, 17, 15)]) (by decide) rfl ?_
  intro p e s m args below meth c s₁ B hml hv
  obtain ⟨rfl, rfl, C, hw, hA, hr, hlocks, hE⟩ := e_start B hml hv
  have htab : c.exceptionTable.toList = tableOf [(0, 10, 13, 13), (0, 10, 17, 15)] := x_tab B (C.2.2.2.2.1 _ List.mem_cons_self)
  have hx := C.1
  have hb := C.2.1
  have hl := lv_entry ([.ref x, .int n, .int many, .ref jo]) (n := 5) (Nat.le_of_ble_eq_true rfl)
  rw [lg_entry_eq]
  generalize (lg_sl ([.ref x, .int n, .int many, .ref jo]) ++ List.replicate (5 - (lg_sl ([.ref x, .int n, .int many, .ref jo])).length) Slot.unset).toArray = ls at hl ⊢
  have hl : lv_has ls 5 [(0, .ref x), (1, .int n), (2, .int many), (3, .ref jo)] := hl
  refine lv_aload_n hx hb dL_write_0 rfl (lv_at hl 3 rfl) ?_
  refine lv_iconst (v := nI 0) hx hb dL_write_1 (by decide) ?_
  refine lv_aload_n hx hb dL_write_2 rfl (lv_at hl 0 rfl) ?_
  refine lv_iload_n hx hb dL_write_3 rfl (lv_at hl 1 rfl) ?_
  refine lv_iload_n hx hb dL_write_4 rfl (lv_at hl 2 rfl) ?_
  refine x_calli (vx_runV (As := [.int n, .int many]) (rest := [.int (nI 0), .ref jo]) C.fix (e_X11_write l hflags D cy ed S s.heap.size x ch ln sl mk co ca su lt lk mb col con cor0 cor1 cor2 cor3 cor4 cob0 cal can car0 car1 car2 car3 car4 cab0 n many hL_x hf_x hL_ch hf_ch hL_ln hf_ln hL_mk hf_mk hL_mb hf_mb hL_co hf_co hL_col hf_col hL_cor0 hf_cor0 hL_cob0 hf_cob0 hL_ca hf_ca hL_cal hf_cal hL_car0 hf_car0 hL_cab0 hf_cab0 hne_mk_cor0 hne_mb_cob0 hne_car0_cor0 hne_cab0_cob0 hne_mk_car0 hne_mb_cab0) (cwV 2 C.2.2.2.2.1 (gU_V mw_115 mw_116 mw_117 mw_2 (subU mw_118)) rfl rfl rfl hde_L_write_V_0 ⟨Nat.le_of_ble_eq_true rfl, Nat.le_of_ble_eq_true rfl⟩) (e_preV C hw hA hE hL_x hf_x rfl) rfl rfl hl.1 rfl (lv_room (Nat.le_of_ble_eq_true rfl)) dL_write_5 ⟨(Nat.le_of_ble_eq_true rfl), (Nat.le_of_ble_eq_true rfl)⟩) hw hA (fun E9 ce9 q9 S1 H locs hpost hw hce9 hcv9 hcl9 => ?_) (fun r2 S1 H locs hpost hw => ?_)
  · skip
    obtain ⟨rfl, hcx, hS_⟩ := hpost
    subst hS_
    refine x_catch C (E := "java/lang/IllegalArgumentException") (x := ⟨0, 10, 13, 13⟩) (suf := tableOf [(0, 10, 17, 15)]) (htab.trans rfl) hce9 hcv9 hcl9 hE 0 rfl mw_113 rfl (by decide) ?_
    refine lv_astore (lv' := [(4, .ref q9), (0, .ref x), (1, .int n), (2, .int many), (3, .ref jo)]) hx hb dL_write_13 hl (by decide) rfl (fun ls hl => ?_)
    refine lv_iconst (v := nI 1) hx hb dL_write_15 (by decide) ?_
    refine vx_ret ?_
    exact (p_iret C hw ((Or.inr ⟨(by first | trivial | assumption | omega), rfl, rfl⟩)) hr hlocks dL_write_16)
  obtain ⟨hc3, hr_, hS4, hfr5⟩ := hpost
  replace hr_ := hr_.symm
  subst hr_
  refine lv_i2l hx hb dL_write_8 rfl ?_
  have hL6 : jo ∈ S1.1 := by rw [hS4]; exact List.mem_append_left _ hL_jo
  have hf7 : S1.2 jo = .inl (cy 6, 1, .inr (.inl jg)) := (hfr5 jo hL_jo (ne_cells hf_jo hf_cor0 (by nofun)) hne_jo_cob0 (ne_cells hf_jo hf_car0 (by nofun)) hne_jo_cab0).trans hf_jo
  refine p_last C hw 6 rfl hL6 hf7 (by decide) (by decide) dL_write_9 (fun H locs hw => ?_)
  obtain ⟨S8, hS8⟩ : ∃ z, z = pup S1 jo (.inl (cy 6, 1, .inr (.inl (vp_updL jg 0 ((many).toInt64))))) := ⟨_, rfl⟩
  replace hw : pW D (pA S s.heap.size) s.heap S8 H locs := by rw [hS8]; exact hw
  have hL9 : jo ∈ S8.1 := by rw [hS8]; exact hL6
  have hf10 : S8.2 jo = .inl (cy 6, 1, .inr (.inl (vp_updL jg 0 ((many).toInt64)))) := by rw [hS8]; exact pup_s
  refine lv_goto (tgt := 21) hx hb dL_write_10 (by decide) ?_
  refine lv_iconst (v := nI 0) hx hb dL_write_21 (by decide) ?_
  refine vx_ret ?_
  exact (p_iret C hw ((Or.inl ⟨(by first | trivial | assumption | omega), rfl, (by simp only [hS8, hS4, pup, pnew, List.append_nil, List.append_assoc, List.cons_append, List.nil_append]), (fun a_ ha_ hn_0 hn_1 hn_2 hn_3 hn_4 => ((show S8.2 a_ = S1.2 a_ from by rw [hS8]; exact pup_n hn_4).trans (hfr5 a_ ha_ hn_0 hn_1 hn_2 hn_3))), hf10⟩)) hr hlocks dL_write_22)

theorem hde_L_repeat_V_0 : yX11_repeat.cls = RX11 ∧ yX11_repeat.cls ≠ "java/lang/invoke/MethodHandle" ∧ yX11_repeat.cls ≠ "java/lang/invoke/VarHandle" ∧ (parseMethodDescriptor yX11_repeat.desc).map (fun d => d.parameters.length) = some 1 := by decide +kernel
set_option maxHeartbeats 4000000 in
set_option maxRecDepth 100000 in
/-- repeat -/
theorem e_L_repeat (l : Launch) (hflags : l.stackTraces = false) (D : va_G) (cy : Nat → ClassId) (ed : Nat) (S : pS) (sz : Nat) (x : Nat) (jo : Nat) (ch : Nat) (ln : Nat) (sl : Nat) (mk : Nat) (co : Nat) (ca : Nat) (su : Nat) (lt : Nat) (lk : Nat) (mb : Nat) (col : Nat) (con : Nat) (cor0 : Nat) (cor1 : Nat) (cor2 : Nat) (cor3 : Nat) (cor4 : Nat) (cob0 : Nat) (cob1 : Nat) (cal : Nat) (can : Nat) (car0 : Nat) (car1 : Nat) (car2 : Nat) (car3 : Nat) (car4 : Nat) (cab0 : Nat) (cab1 : Nat) (n : Int32) (jg : Nat → Int64) (hL_x : x ∈ S.1) (hf_x : S.2 x = .inr (11, [.ref ch, .ref ln, .ref sl, .ref mk, .ref co, .ref ca, .ref su, .ref lt])) (hL_ch : ch ∈ S.1) (hf_ch : S.2 ch = .inr (2, [.ref lk, .int (nI 0)])) (hL_lk : lk ∈ S.1) (hf_lk : S.2 lk = aQ (cy 3) 4 (fun _ => none)) (hL_ln : ln ∈ S.1) (hf_ln : S.2 ln = .inr (6, [.int (nI 0), .int (nI 0), .int (nI 0), .int (nI 0)])) (hL_mk : mk ∈ S.1) (hf_mk : S.2 mk = .inr (8, [.ref mb, .int (nI 320)])) (hL_mb : mb ∈ S.1) (hf_mb : S.2 mb = aN (cy 0) 320 (fun _ => 0)) (hL_co : co ∈ S.1) (hf_co : S.2 co = .inr (5, [.ref col, .ref con])) (hL_col : col ∈ S.1) (hf_col : S.2 col = aQ (cy 2) 5 (va_up (va_up (va_up (va_up (va_up (fun _ => none) 0 (some cor0)) 1 (some cor1)) 2 (some cor2)) 3 (some cor3)) 4 (some cor4))) (hL_cor0 : cor0 ∈ S.1) (hf_cor0 : S.2 cor0 = .inr (8, [.ref cob0, .int (nI 0)])) (hL_cor1 : cor1 ∈ S.1) (hf_cor1 : S.2 cor1 = .inr (8, [.ref cob1, .int (nI 0)])) (hL_cob1 : cob1 ∈ S.1) (hf_cob1 : S.2 cob1 = aN (cy 0) 320 (fun _ => 0)) (hL_ca : ca ∈ S.1) (hf_ca : S.2 ca = .inr (5, [.ref cal, .ref can])) (hL_cal : cal ∈ S.1) (hf_cal : S.2 cal = aQ (cy 2) 5 (va_up (va_up (va_up (va_up (va_up (fun _ => none) 0 (some car0)) 1 (some car1)) 2 (some car2)) 3 (some car3)) 4 (some car4))) (hL_car0 : car0 ∈ S.1) (hf_car0 : S.2 car0 = .inr (8, [.ref cab0, .int (nI 0)])) (hL_cab0 : cab0 ∈ S.1) (hf_cab0 : S.2 cab0 = aN (cy 0) 32 (fun _ => 0)) (hL_car1 : car1 ∈ S.1) (hf_car1 : S.2 car1 = .inr (8, [.ref cab1, .int (nI 0)])) (hL_cab1 : cab1 ∈ S.1) (hf_cab1 : S.2 cab1 = aN (cy 0) 320 (fun _ => 0)) (hL_jo : jo ∈ S.1) (hf_jo : S.2 jo = .inl (cy 6, 1, .inr (.inl jg))) (hne_col_lk : col ≠ lk) (hne_cal_lk : cal ≠ lk) (hne_cor0_cor1 : cor0 ≠ cor1) (hne_mk_cor1 : mk ≠ cor1) (hne_car1_cor1 : car1 ≠ cor1) (hne_cob1_cab1 : cob1 ≠ cab1) (hne_mk_car1 : mk ≠ car1) (hne_mb_cab1 : mb ≠ cab1) (hne_cor0_car1 : cor0 ≠ car1) (hne_car0_cor1 : car0 ≠ cor1) (hne_car0_car1 : car0 ≠ car1) (hne_cab0_cab1 : cab0 ≠ cab1) (hne_jo_lk : jo ≠ lk) (hne_jo_cab1 : jo ≠ cab1) : vx_Met l yL_repeat (Cond.codeWith yL_repeat cL_repeat 4 (some .int) [(0, 9, 12, 13), (0, 9, 15, 15)] :: lwU) ({ frames := 8, cells := 1, slots := 6, locals := 173 }) (ePc D cy ed S sz [.ref x, .int n, .ref jo]) (pQi D cy S sz (fun r S' => (∃ (st : Nat), (okR n) ∧ r = (nI 0) ∧ S'.1 = S.1 ++ [st] ∧ (∀ a_, a_ ∈ S.1 → a_ ≠ lk → a_ ≠ ch → a_ ≠ cor1 → a_ ≠ car1 → a_ ≠ cab1 → a_ ≠ car0 → a_ ≠ jo → S'.2 a_ = S.2 a_) ∧ S'.2 jo = .inl (cy 6, 1, .inr (.inl (vp_updL jg 0 ((nI 0)).toInt64)))) ∨ ((¬ okR n) ∧ r = (nI 1) ∧ S = S'))) (pX D S sz (fun _ _ => False)) 1 6 (pA S sz) := by
  refine vx_ofWH (cc := cL_repeat) (maxL := 4) (ret := (some .int)) (hh := [(0, 9, 12, 13), (0, 9, 15, 15)]) (by decide) rfl ?_
  intro p e s m args below meth c s₁ B hml hv
  obtain ⟨rfl, rfl, C, hw, hA, hr, hlocks, hE⟩ := e_start B hml hv
  have htab : c.exceptionTable.toList = tableOf [(0, 9, 12, 13), (0, 9, 15, 15)] := x_tab B (C.2.2.2.2.1 _ List.mem_cons_self)
  have hx := C.1
  have hb := C.2.1
  have hl := lv_entry ([.ref x, .int n, .ref jo]) (n := 4) (Nat.le_of_ble_eq_true rfl)
  rw [lg_entry_eq]
  generalize (lg_sl ([.ref x, .int n, .ref jo]) ++ List.replicate (4 - (lg_sl ([.ref x, .int n, .ref jo])).length) Slot.unset).toArray = ls at hl ⊢
  have hl : lv_has ls 4 [(0, .ref x), (1, .int n), (2, .ref jo)] := hl
  refine lv_aload_n hx hb dL_repeat_0 rfl (lv_at hl 2 rfl) ?_
  refine lv_iconst (v := nI 0) hx hb dL_repeat_1 (by decide) ?_
  refine lv_aload_n hx hb dL_repeat_2 rfl (lv_at hl 0 rfl) ?_
  refine lv_iload_n hx hb dL_repeat_3 rfl (lv_at hl 1 rfl) ?_
  refine x_calli (vx_runV (As := [.int n]) (rest := [.int (nI 0), .ref jo]) C.fix (e_X11_repeat l hflags D cy ed S s.heap.size x ch ln sl mk co ca su lt lk mb col con cor0 cor1 cor2 cor3 cor4 cob0 cob1 cal can car0 car1 car2 car3 car4 cab0 cab1 n hL_x hf_x hL_ch hf_ch hL_lk hf_lk hL_ln hf_ln hL_mk hf_mk hL_mb hf_mb hL_co hf_co hL_col hf_col hL_cor0 hf_cor0 hL_cor1 hf_cor1 hL_cob1 hf_cob1 hL_ca hf_ca hL_cal hf_cal hL_car0 hf_car0 hL_cab0 hf_cab0 hL_car1 hf_car1 hL_cab1 hf_cab1 hne_col_lk hne_cal_lk hne_cor0_cor1 hne_mk_cor1 hne_car1_cor1 hne_cob1_cab1 hne_mk_car1 hne_mb_cab1 hne_cor0_car1 hne_car0_cor1 hne_car0_car1 hne_cab0_cab1) (cwV 1 C.2.2.2.2.1 (gU_V mw_563 mw_564 mw_565 mw_2 (subU mw_566)) rfl rfl rfl hde_L_repeat_V_0 ⟨Nat.le_of_ble_eq_true rfl, Nat.le_of_ble_eq_true rfl⟩) (e_preV C hw hA hE hL_x hf_x rfl) rfl rfl hl.1 rfl (lv_room (Nat.le_of_ble_eq_true rfl)) dL_repeat_4 ⟨(Nat.le_of_ble_eq_true rfl), (Nat.le_of_ble_eq_true rfl)⟩) hw hA (fun E9 ce9 q9 S1 H locs hpost hw hce9 hcv9 hcl9 => ?_) (fun r2 S1 H locs hpost hw => ?_)
  · skip
    obtain ⟨rfl, hcx, hS_⟩ := hpost
    subst hS_
    refine x_catch C (E := "java/lang/IllegalArgumentException") (x := ⟨0, 9, 12, 13⟩) (suf := tableOf [(0, 9, 15, 15)]) (htab.trans rfl) hce9 hcv9 hcl9 hE 0 rfl mw_113 rfl (by decide) ?_
    refine lv_astore_n (lv' := [(3, .ref q9), (0, .ref x), (1, .int n), (2, .ref jo)]) hx hb dL_repeat_12 rfl hl (by decide) rfl (fun ls hl => ?_)
    refine lv_iconst (v := nI 1) hx hb dL_repeat_13 (by decide) ?_
    refine vx_ret ?_
    exact (p_iret C hw ((Or.inr ⟨(by first | trivial | assumption | omega), rfl, rfl⟩)) hr hlocks dL_repeat_14)
  obtain ⟨st, hc3, hr_, hS4, hfr5⟩ := hpost
  subst hr_
  have hq6 : st ∉ S.1 := p_fresh hw hS4 0 rfl
  refine lv_i2l hx hb dL_repeat_7 rfl ?_
  have hL7 : jo ∈ S1.1 := by rw [hS4]; exact List.mem_append_left _ hL_jo
  have hf8 : S1.2 jo = .inl (cy 6, 1, .inr (.inl jg)) := (hfr5 jo hL_jo hne_jo_lk (ne_cells hf_jo hf_ch (by nofun)) (ne_cells hf_jo hf_cor1 (by nofun)) (ne_cells hf_jo hf_car1 (by nofun)) hne_jo_cab1 (ne_cells hf_jo hf_car0 (by nofun))).trans hf_jo
  refine p_last C hw 6 rfl hL7 hf8 (by decide) (by decide) dL_repeat_8 (fun H locs hw => ?_)
  obtain ⟨S9, hS9⟩ : ∃ z, z = pup S1 jo (.inl (cy 6, 1, .inr (.inl (vp_updL jg 0 (((nI 0)).toInt64))))) := ⟨_, rfl⟩
  replace hw : pW D (pA S s.heap.size) s.heap S9 H locs := by rw [hS9]; exact hw
  have hL10 : jo ∈ S9.1 := by rw [hS9]; exact hL7
  have hf11 : S9.2 jo = .inl (cy 6, 1, .inr (.inl (vp_updL jg 0 (((nI 0)).toInt64)))) := by rw [hS9]; exact pup_s
  refine lv_goto (tgt := 18) hx hb dL_repeat_9 (by decide) ?_
  refine lv_iconst (v := nI 0) hx hb dL_repeat_18 (by decide) ?_
  refine vx_ret ?_
  exact (p_iret C hw ((Or.inl ⟨st, (by first | trivial | assumption | omega), rfl, (by simp only [hS9, hS4, pup, pnew, List.append_nil, List.append_assoc, List.cons_append, List.nil_append]), (fun a_ ha_ hn_0 hn_1 hn_2 hn_3 hn_4 hn_5 hn_6 => ((show S9.2 a_ = S1.2 a_ from by rw [hS9]; exact pup_n hn_6).trans (hfr5 a_ ha_ hn_0 hn_1 hn_2 hn_3 hn_4 hn_5))), hf11⟩)) hr hlocks dL_repeat_19)

theorem hde_L_block_V_0 : yX11_block.cls = RX11 ∧ yX11_block.cls ≠ "java/lang/invoke/MethodHandle" ∧ yX11_block.cls ≠ "java/lang/invoke/VarHandle" ∧ (parseMethodDescriptor yX11_block.desc).map (fun d => d.parameters.length) = some 6 := by decide +kernel
set_option maxHeartbeats 4000000 in
set_option maxRecDepth 100000 in
/-- block -/
theorem e_L_block (l : Launch) (hflags : l.stackTraces = false) (D : va_G) (cy : Nat → ClassId) (ed : Nat) (S : pS) (sz : Nat) (x : Nat) (jo : Nat) (ch : Nat) (ln : Nat) (sl : Nat) (mk : Nat) (co : Nat) (ca : Nat) (su : Nat) (lt : Nat) (lk : Nat) (mb : Nat) (col : Nat) (con : Nat) (cor0 : Nat) (cor1 : Nat) (cor2 : Nat) (cor3 : Nat) (cor4 : Nat) (cob0 : Nat) (cob1 : Nat) (cal : Nat) (can : Nat) (car0 : Nat) (car1 : Nat) (car2 : Nat) (car3 : Nat) (car4 : Nat) (cab0 : Nat) (cab1 : Nat) (k : Int32) (n : Int32) (a1 : Int32) (a2 : Int32) (a3 : Int32) (a4 : Int32) (jg : Nat → Int64) (hL_x : x ∈ S.1) (hf_x : S.2 x = .inr (11, [.ref ch, .ref ln, .ref sl, .ref mk, .ref co, .ref ca, .ref su, .ref lt])) (hL_ch : ch ∈ S.1) (hf_ch : S.2 ch = .inr (2, [.ref lk, .int (nI 0)])) (hL_lk : lk ∈ S.1) (hf_lk : S.2 lk = aQ (cy 3) 4 (fun _ => none)) (hL_ln : ln ∈ S.1) (hf_ln : S.2 ln = .inr (6, [.int (nI 0), .int (nI 0), .int (nI 0), .int (nI 0)])) (hL_mk : mk ∈ S.1) (hf_mk : S.2 mk = .inr (8, [.ref mb, .int (nI 320)])) (hL_mb : mb ∈ S.1) (hf_mb : S.2 mb = aN (cy 0) 320 (fun _ => 0)) (hL_co : co ∈ S.1) (hf_co : S.2 co = .inr (5, [.ref col, .ref con])) (hL_col : col ∈ S.1) (hf_col : S.2 col = aQ (cy 2) 5 (va_up (va_up (va_up (va_up (va_up (fun _ => none) 0 (some cor0)) 1 (some cor1)) 2 (some cor2)) 3 (some cor3)) 4 (some cor4))) (hL_cor0 : cor0 ∈ S.1) (hf_cor0 : S.2 cor0 = .inr (8, [.ref cob0, .int (nI 0)])) (hL_cor1 : cor1 ∈ S.1) (hf_cor1 : S.2 cor1 = .inr (8, [.ref cob1, .int (nI 0)])) (hL_cob1 : cob1 ∈ S.1) (hf_cob1 : S.2 cob1 = aN (cy 0) 320 (fun _ => 0)) (hL_ca : ca ∈ S.1) (hf_ca : S.2 ca = .inr (5, [.ref cal, .ref can])) (hL_cal : cal ∈ S.1) (hf_cal : S.2 cal = aQ (cy 2) 5 (va_up (va_up (va_up (va_up (va_up (fun _ => none) 0 (some car0)) 1 (some car1)) 2 (some car2)) 3 (some car3)) 4 (some car4))) (hL_car0 : car0 ∈ S.1) (hf_car0 : S.2 car0 = .inr (8, [.ref cab0, .int (nI 0)])) (hL_cab0 : cab0 ∈ S.1) (hf_cab0 : S.2 cab0 = aN (cy 0) 32 (fun _ => 0)) (hL_car1 : car1 ∈ S.1) (hf_car1 : S.2 car1 = .inr (8, [.ref cab1, .int (nI 0)])) (hL_cab1 : cab1 ∈ S.1) (hf_cab1 : S.2 cab1 = aN (cy 0) 320 (fun _ => 0)) (hL_jo : jo ∈ S.1) (hf_jo : S.2 jo = .inl (cy 6, 1, .inr (.inl jg))) (hne_col_lk : col ≠ lk) (hne_cal_lk : cal ≠ lk) (hne_cor0_cor1 : cor0 ≠ cor1) (hne_mk_cor1 : mk ≠ cor1) (hne_car1_cor1 : car1 ≠ cor1) (hne_cob1_cab1 : cob1 ≠ cab1) (hne_mk_car1 : mk ≠ car1) (hne_mb_cab1 : mb ≠ cab1) (hne_cor0_car1 : cor0 ≠ car1) (hne_car0_cor1 : car0 ≠ cor1) (hne_car0_car1 : car0 ≠ car1) (hne_cab0_cab1 : cab0 ≠ cab1) (hne_jo_lk : jo ≠ lk) (hne_jo_cab1 : jo ≠ cab1) : vx_Met l yL_block (Cond.codeWith yL_block cL_block 9 (some .int) [(0, 18, 21, 13), (0, 18, 25, 15)] :: lwU) ({ frames := 8, cells := 2, slots := 19, locals := 179 }) (ePc D cy ed S sz [.ref x, .int k, .int n, .int a1, .int a2, .int a3, .int a4, .ref jo]) (pQi D cy S sz (fun r S' => (∃ (st : Nat) (sw : Nat), (okB6 k n a1 a2 a3 a4) ∧ r = (nI 0) ∧ S'.1 = S.1 ++ [st, sw] ∧ (∀ a_, a_ ∈ S.1 → a_ ≠ lk → a_ ≠ ch → a_ ≠ cor1 → a_ ≠ car1 → a_ ≠ cab1 → a_ ≠ car0 → a_ ≠ jo → S'.2 a_ = S.2 a_) ∧ S'.2 jo = .inl (cy 6, 1, .inr (.inl (vp_updL jg 0 ((nI 0)).toInt64)))) ∨ ((¬ okB6 k n a1 a2 a3 a4) ∧ r = (nI 1) ∧ S = S'))) (pX D S sz (fun _ _ => False)) 2 19 (pA S sz) := by
  refine vx_ofWH (cc := cL_block) (maxL := 9) (ret := (some .int)) (hh := [(0, 18, 21, 13), (0, 18, 25, 15)]) (by decide) rfl ?_
  intro p e s m args below meth c s₁ B hml hv
  obtain ⟨rfl, rfl, C, hw, hA, hr, hlocks, hE⟩ := e_start B hml hv
  have htab : c.exceptionTable.toList = tableOf [(0, 18, 21, 13), (0, 18, 25, 15)] := x_tab B (C.2.2.2.2.1 _ List.mem_cons_self)
  have hx := C.1
  have hb := C.2.1
  have hl := lv_entry ([.ref x, .int k, .int n, .int a1, .int a2, .int a3, .int a4, .ref jo]) (n := 9) (Nat.le_of_ble_eq_true rfl)
  rw [lg_entry_eq]
  generalize (lg_sl ([.ref x, .int k, .int n, .int a1, .int a2, .int a3, .int a4, .ref jo]) ++ List.replicate (9 - (lg_sl ([.ref x, .int k, .int n, .int a1, .int a2, .int a3, .int a4, .ref jo])).length) Slot.unset).toArray = ls at hl ⊢
  have hl : lv_has ls 9 [(0, .ref x), (1, .int k), (2, .int n), (3, .int a1), (4, .int a2), (5, .int a3), (6, .int a4), (7, .ref jo)] := hl
  refine lv_aload hx hb dL_block_0 (lv_at hl 7 rfl) ?_
  refine lv_iconst (v := nI 0) hx hb dL_block_2 (by decide) ?_
  refine lv_aload_n hx hb dL_block_3 rfl (lv_at hl 0 rfl) ?_
  refine lv_iload_n hx hb dL_block_4 rfl (lv_at hl 1 rfl) ?_
  refine lv_iload_n hx hb dL_block_5 rfl (lv_at hl 2 rfl) ?_
  refine lv_iload_n hx hb dL_block_6 rfl (lv_at hl 3 rfl) ?_
  refine lv_iload hx hb dL_block_7 (lv_at hl 4 rfl) ?_
  refine lv_iload hx hb dL_block_9 (lv_at hl 5 rfl) ?_
  refine lv_iload hx hb dL_block_11 (lv_at hl 6 rfl) ?_
  refine x_calli (vx_runV (As := [.int k, .int n, .int a1, .int a2, .int a3, .int a4]) (rest := [.int (nI 0), .ref jo]) C.fix (e_X11_block l hflags D cy ed S s.heap.size x ch ln sl mk co ca su lt lk mb col con cor0 cor1 cor2 cor3 cor4 cob0 cob1 cal can car0 car1 car2 car3 car4 cab0 cab1 k n a1 a2 a3 a4 hL_x hf_x hL_ch hf_ch hL_lk hf_lk hL_ln hf_ln hL_mk hf_mk hL_mb hf_mb hL_co hf_co hL_col hf_col hL_cor0 hf_cor0 hL_cor1 hf_cor1 hL_cob1 hf_cob1 hL_ca hf_ca hL_cal hf_cal hL_car0 hf_car0 hL_cab0 hf_cab0 hL_car1 hf_car1 hL_cab1 hf_cab1 hne_col_lk hne_cal_lk hne_cor0_cor1 hne_mk_cor1 hne_car1_cor1 hne_cob1_cab1 hne_mk_car1 hne_mb_cab1 hne_cor0_car1 hne_car0_cor1 hne_car0_car1 hne_cab0_cab1) (cwV 6 C.2.2.2.2.1 (gU_V mw_615 mw_616 mw_617 mw_2 (subU mw_618)) rfl rfl rfl hde_L_block_V_0 ⟨Nat.le_of_ble_eq_true rfl, Nat.le_of_ble_eq_true rfl⟩) (e_preV C hw hA hE hL_x hf_x rfl) rfl rfl hl.1 rfl (lv_room (Nat.le_of_ble_eq_true rfl)) dL_block_13 ⟨(Nat.le_of_ble_eq_true rfl), (Nat.le_of_ble_eq_true rfl)⟩) hw hA (fun E9 ce9 q9 S1 H locs hpost hw hce9 hcv9 hcl9 => ?_) (fun r2 S1 H locs hpost hw => ?_)
  · skip
    obtain ⟨rfl, hcx, hS_⟩ := hpost
    subst hS_
    refine x_catch C (E := "java/lang/IllegalArgumentException") (x := ⟨0, 18, 21, 13⟩) (suf := tableOf [(0, 18, 25, 15)]) (htab.trans rfl) hce9 hcv9 hcl9 hE 0 rfl mw_113 rfl (by decide) ?_
    refine lv_astore (lv' := [(8, .ref q9), (0, .ref x), (1, .int k), (2, .int n), (3, .int a1), (4, .int a2), (5, .int a3), (6, .int a4), (7, .ref jo)]) hx hb dL_block_21 hl (by decide) rfl (fun ls hl => ?_)
    refine lv_iconst (v := nI 1) hx hb dL_block_23 (by decide) ?_
    refine vx_ret ?_
    exact (p_iret C hw ((Or.inr ⟨(by first | trivial | assumption | omega), rfl, rfl⟩)) hr hlocks dL_block_24)
  obtain ⟨st, sw, hc3, hr_, hS4, hfr5⟩ := hpost
  subst hr_
  have hnd6 := p_apart hw hS4
  have hq7 : st ∉ S.1 := p_fresh hw hS4 0 rfl
  have hq8 : sw ∉ S.1 := p_fresh hw hS4 1 rfl
  refine lv_i2l hx hb dL_block_16 rfl ?_
  have hL9 : jo ∈ S1.1 := by rw [hS4]; exact List.mem_append_left _ hL_jo
  have hf10 : S1.2 jo = .inl (cy 6, 1, .inr (.inl jg)) := (hfr5 jo hL_jo hne_jo_lk (ne_cells hf_jo hf_ch (by nofun)) (ne_cells hf_jo hf_cor1 (by nofun)) (ne_cells hf_jo hf_car1 (by nofun)) hne_jo_cab1 (ne_cells hf_jo hf_car0 (by nofun))).trans hf_jo
  refine p_last C hw 6 rfl hL9 hf10 (by decide) (by decide) dL_block_17 (fun H locs hw => ?_)
  obtain ⟨S11, hS11⟩ : ∃ z, z = pup S1 jo (.inl (cy 6, 1, .inr (.inl (vp_updL jg 0 (((nI 0)).toInt64))))) := ⟨_, rfl⟩
  replace hw : pW D (pA S s.heap.size) s.heap S11 H locs := by rw [hS11]; exact hw
  have hL12 : jo ∈ S11.1 := by rw [hS11]; exact hL9
  have hf13 : S11.2 jo = .inl (cy 6, 1, .inr (.inl (vp_updL jg 0 (((nI 0)).toInt64)))) := by rw [hS11]; exact pup_s
  refine lv_goto (tgt := 29) hx hb dL_block_18 (by decide) ?_
  refine lv_iconst (v := nI 0) hx hb dL_block_29 (by decide) ?_
  refine vx_ret ?_
  exact (p_iret C hw ((Or.inl ⟨st, sw, (by first | trivial | assumption | omega), rfl, (by simp only [hS11, hS4, pup, pnew, List.append_nil, List.append_assoc, List.cons_append, List.nil_append]), (fun a_ ha_ hn_0 hn_1 hn_2 hn_3 hn_4 hn_5 hn_6 => ((show S11.2 a_ = S1.2 a_ from by rw [hS11]; exact pup_n hn_6).trans (hfr5 a_ ha_ hn_0 hn_1 hn_2 hn_3 hn_4 hn_5))), hf13⟩)) hr hlocks dL_block_30)

theorem hde_L_check_V_0 : yX11_check.cls = RX11 ∧ yX11_check.cls ≠ "java/lang/invoke/MethodHandle" ∧ yX11_check.cls ≠ "java/lang/invoke/VarHandle" ∧ (parseMethodDescriptor yX11_check.desc).map (fun d => d.parameters.length) = some 2 := by decide +kernel
set_option maxHeartbeats 4000000 in
set_option maxRecDepth 100000 in
/-- check -/
theorem e_L_check (l : Launch) (hflags : l.stackTraces = false) (D : va_G) (cy : Nat → ClassId) (ed : Nat) (S : pS) (sz : Nat) (x : Nat) (jo : Nat) (ch : Nat) (ln : Nat) (sl : Nat) (mk : Nat) (co : Nat) (ca : Nat) (su : Nat) (lt : Nat) (lk : Nat) (mb : Nat) (col : Nat) (con : Nat) (cor0 : Nat) (cor1 : Nat) (cor2 : Nat) (cor3 : Nat) (cor4 : Nat) (cob0 : Nat) (cob1 : Nat) (cal : Nat) (can : Nat) (car0 : Nat) (car1 : Nat) (car2 : Nat) (car3 : Nat) (car4 : Nat) (cab0 : Nat) (cab1 : Nat) (dv : Int32) (n : Int32) (jg : Nat → Int64) (hL_x : x ∈ S.1) (hf_x : S.2 x = .inr (11, [.ref ch, .ref ln, .ref sl, .ref mk, .ref co, .ref ca, .ref su, .ref lt])) (hL_ch : ch ∈ S.1) (hf_ch : S.2 ch = .inr (2, [.ref lk, .int (nI 0)])) (hL_lk : lk ∈ S.1) (hf_lk : S.2 lk = aQ (cy 3) 4 (fun _ => none)) (hL_ln : ln ∈ S.1) (hf_ln : S.2 ln = .inr (6, [.int (nI 0), .int (nI 0), .int (nI 0), .int (nI 0)])) (hL_mk : mk ∈ S.1) (hf_mk : S.2 mk = .inr (8, [.ref mb, .int (nI 320)])) (hL_mb : mb ∈ S.1) (hf_mb : S.2 mb = aN (cy 0) 320 (fun _ => 0)) (hL_co : co ∈ S.1) (hf_co : S.2 co = .inr (5, [.ref col, .ref con])) (hL_col : col ∈ S.1) (hf_col : S.2 col = aQ (cy 2) 5 (va_up (va_up (va_up (va_up (va_up (fun _ => none) 0 (some cor0)) 1 (some cor1)) 2 (some cor2)) 3 (some cor3)) 4 (some cor4))) (hL_cor0 : cor0 ∈ S.1) (hf_cor0 : S.2 cor0 = .inr (8, [.ref cob0, .int (nI 0)])) (hL_cor1 : cor1 ∈ S.1) (hf_cor1 : S.2 cor1 = .inr (8, [.ref cob1, .int (nI 0)])) (hL_cob1 : cob1 ∈ S.1) (hf_cob1 : S.2 cob1 = aN (cy 0) 320 (fun _ => 0)) (hL_ca : ca ∈ S.1) (hf_ca : S.2 ca = .inr (5, [.ref cal, .ref can])) (hL_cal : cal ∈ S.1) (hf_cal : S.2 cal = aQ (cy 2) 5 (va_up (va_up (va_up (va_up (va_up (fun _ => none) 0 (some car0)) 1 (some car1)) 2 (some car2)) 3 (some car3)) 4 (some car4))) (hL_car0 : car0 ∈ S.1) (hf_car0 : S.2 car0 = .inr (8, [.ref cab0, .int (nI 0)])) (hL_cab0 : cab0 ∈ S.1) (hf_cab0 : S.2 cab0 = aN (cy 0) 32 (fun _ => 0)) (hL_car1 : car1 ∈ S.1) (hf_car1 : S.2 car1 = .inr (8, [.ref cab1, .int (nI 0)])) (hL_cab1 : cab1 ∈ S.1) (hf_cab1 : S.2 cab1 = aN (cy 0) 320 (fun _ => 0)) (hL_jo : jo ∈ S.1) (hf_jo : S.2 jo = .inl (cy 6, 1, .inr (.inl jg))) (hne_col_lk : col ≠ lk) (hne_cal_lk : cal ≠ lk) (hne_cor0_cor1 : cor0 ≠ cor1) (hne_mk_cor1 : mk ≠ cor1) (hne_car1_cor1 : car1 ≠ cor1) (hne_cob1_cab1 : cob1 ≠ cab1) (hne_mk_car1 : mk ≠ car1) (hne_mb_cab1 : mb ≠ cab1) (hne_cor0_car1 : cor0 ≠ car1) (hne_car0_cor1 : car0 ≠ cor1) (hne_car0_car1 : car0 ≠ car1) (hne_cab0_cab1 : cab0 ≠ cab1) (hne_jo_lk : jo ≠ lk) (hne_jo_cab1 : jo ≠ cab1) : vx_Met l yL_check (Cond.codeWith yL_check cL_check 5 (some .int) [(0, 10, 13, 13), (0, 10, 17, 15)] :: lwU) ({ frames := 8, cells := 1, slots := 6, locals := 174 }) (ePc D cy ed S sz [.ref x, .int dv, .int n, .ref jo]) (pQi D cy S sz (fun r S' => (∃ (st : Nat), (okK dv n) ∧ r = (nI 0) ∧ S'.1 = S.1 ++ [st] ∧ (∀ a_, a_ ∈ S.1 → a_ ≠ lk → a_ ≠ ch → a_ ≠ cor1 → a_ ≠ car1 → a_ ≠ cab1 → a_ ≠ car0 → a_ ≠ jo → S'.2 a_ = S.2 a_) ∧ S'.2 jo = .inl (cy 6, 1, .inr (.inl (vp_updL jg 0 ((nI 0)).toInt64)))) ∨ ((¬ okK dv n) ∧ r = (nI 1) ∧ S = S'))) (pX D S sz (fun _ _ => False)) 1 6 (pA S sz) := by
  refine vx_ofWH (cc := cL_check) (maxL := 5) (ret := (some .int)) (hh := [(0, 10, 13, 13), (0, 10, 17, 15)]) (by decide) rfl ?_
  intro p e s m args below meth c s₁ B hml hv
  obtain ⟨rfl, rfl, C, hw, hA, hr, hlocks, hE⟩ := e_start B hml hv
  have htab : c.exceptionTable.toList = tableOf [(0, 10, 13, 13), (0, 10, 17, 15)] := x_tab B (C.2.2.2.2.1 _ List.mem_cons_self)
  have hx := C.1
  have hb := C.2.1
  have hl := lv_entry ([.ref x, .int dv, .int n, .ref jo]) (n := 5) (Nat.le_of_ble_eq_true rfl)
  rw [lg_entry_eq]
  generalize (lg_sl ([.ref x, .int dv, .int n, .ref jo]) ++ List.replicate (5 - (lg_sl ([.ref x, .int dv, .int n, .ref jo])).length) Slot.unset).toArray = ls at hl ⊢
  have hl : lv_has ls 5 [(0, .ref x), (1, .int dv), (2, .int n), (3, .ref jo)] := hl
  refine lv_aload_n hx hb dL_check_0 rfl (lv_at hl 3 rfl) ?_
  refine lv_iconst (v := nI 0) hx hb dL_check_1 (by decide) ?_
  refine lv_aload_n hx hb dL_check_2 rfl (lv_at hl 0 rfl) ?_
  refine lv_iload_n hx hb dL_check_3 rfl (lv_at hl 1 rfl) ?_
  refine lv_iload_n hx hb dL_check_4 rfl (lv_at hl 2 rfl) ?_
  refine x_calli (vx_runV (As := [.int dv, .int n]) (rest := [.int (nI 0), .ref jo]) C.fix (e_X11_check l hflags D cy ed S s.heap.size x ch ln sl mk co ca su lt lk mb col con cor0 cor1 cor2 cor3 cor4 cob0 cob1 cal can car0 car1 car2 car3 car4 cab0 cab1 dv n hL_x hf_x hL_ch hf_ch hL_lk hf_lk hL_ln hf_ln hL_mk hf_mk hL_mb hf_mb hL_co hf_co hL_col hf_col hL_cor0 hf_cor0 hL_cor1 hf_cor1 hL_cob1 hf_cob1 hL_ca hf_ca hL_cal hf_cal hL_car0 hf_car0 hL_cab0 hf_cab0 hL_car1 hf_car1 hL_cab1 hf_cab1 hne_col_lk hne_cal_lk hne_cor0_cor1 hne_mk_cor1 hne_car1_cor1 hne_cob1_cab1 hne_mk_car1 hne_mb_cab1 hne_cor0_car1 hne_car0_cor1 hne_car0_car1 hne_cab0_cab1) (cwV 2 C.2.2.2.2.1 (gU_V mw_634 mw_635 mw_636 mw_2 (subU mw_637)) rfl rfl rfl hde_L_check_V_0 ⟨Nat.le_of_ble_eq_true rfl, Nat.le_of_ble_eq_true rfl⟩) (e_preV C hw hA hE hL_x hf_x rfl) rfl rfl hl.1 rfl (lv_room (Nat.le_of_ble_eq_true rfl)) dL_check_5 ⟨(Nat.le_of_ble_eq_true rfl), (Nat.le_of_ble_eq_true rfl)⟩) hw hA (fun E9 ce9 q9 S1 H locs hpost hw hce9 hcv9 hcl9 => ?_) (fun r2 S1 H locs hpost hw => ?_)
  · skip
    obtain ⟨rfl, hcx, hS_⟩ := hpost
    subst hS_
    refine x_catch C (E := "java/lang/IllegalArgumentException") (x := ⟨0, 10, 13, 13⟩) (suf := tableOf [(0, 10, 17, 15)]) (htab.trans rfl) hce9 hcv9 hcl9 hE 0 rfl mw_113 rfl (by decide) ?_
    refine lv_astore (lv' := [(4, .ref q9), (0, .ref x), (1, .int dv), (2, .int n), (3, .ref jo)]) hx hb dL_check_13 hl (by decide) rfl (fun ls hl => ?_)
    refine lv_iconst (v := nI 1) hx hb dL_check_15 (by decide) ?_
    refine vx_ret ?_
    exact (p_iret C hw ((Or.inr ⟨(by first | trivial | assumption | omega), rfl, rfl⟩)) hr hlocks dL_check_16)
  obtain ⟨st, hc3, hr_, hS4, hfr5⟩ := hpost
  subst hr_
  have hq6 : st ∉ S.1 := p_fresh hw hS4 0 rfl
  refine lv_i2l hx hb dL_check_8 rfl ?_
  have hL7 : jo ∈ S1.1 := by rw [hS4]; exact List.mem_append_left _ hL_jo
  have hf8 : S1.2 jo = .inl (cy 6, 1, .inr (.inl jg)) := (hfr5 jo hL_jo hne_jo_lk (ne_cells hf_jo hf_ch (by nofun)) (ne_cells hf_jo hf_cor1 (by nofun)) (ne_cells hf_jo hf_car1 (by nofun)) hne_jo_cab1 (ne_cells hf_jo hf_car0 (by nofun))).trans hf_jo
  refine p_last C hw 6 rfl hL7 hf8 (by decide) (by decide) dL_check_9 (fun H locs hw => ?_)
  obtain ⟨S9, hS9⟩ : ∃ z, z = pup S1 jo (.inl (cy 6, 1, .inr (.inl (vp_updL jg 0 (((nI 0)).toInt64))))) := ⟨_, rfl⟩
  replace hw : pW D (pA S s.heap.size) s.heap S9 H locs := by rw [hS9]; exact hw
  have hL10 : jo ∈ S9.1 := by rw [hS9]; exact hL7
  have hf11 : S9.2 jo = .inl (cy 6, 1, .inr (.inl (vp_updL jg 0 (((nI 0)).toInt64)))) := by rw [hS9]; exact pup_s
  refine lv_goto (tgt := 21) hx hb dL_check_10 (by decide) ?_
  refine lv_iconst (v := nI 0) hx hb dL_check_21 (by decide) ?_
  refine vx_ret ?_
  exact (p_iret C hw ((Or.inl ⟨st, (by first | trivial | assumption | omega), rfl, (by simp only [hS9, hS4, pup, pnew, List.append_nil, List.append_assoc, List.cons_append, List.nil_append]), (fun a_ ha_ hn_0 hn_1 hn_2 hn_3 hn_4 hn_5 hn_6 => ((show S9.2 a_ = S1.2 a_ from by rw [hS9]; exact pup_n hn_6).trans (hfr5 a_ ha_ hn_0 hn_1 hn_2 hn_3 hn_4 hn_5))), hf11⟩)) hr hlocks dL_check_22)

theorem hde_L_trail_V_0 : yX11_trail.cls = RX11 ∧ yX11_trail.cls ≠ "java/lang/invoke/MethodHandle" ∧ yX11_trail.cls ≠ "java/lang/invoke/VarHandle" ∧ (parseMethodDescriptor yX11_trail.desc).map (fun d => d.parameters.length) = some 4 := by decide +kernel
set_option maxHeartbeats 4000000 in
set_option maxRecDepth 100000 in
/-- trail -/
theorem e_L_trail (l : Launch) (hflags : l.stackTraces = false) (D : va_G) (cy : Nat → ClassId) (ed : Nat) (S : pS) (sz : Nat) (x : Nat) (jo : Nat) (ch : Nat) (ln : Nat) (sl : Nat) (mk : Nat) (co : Nat) (ca : Nat) (su : Nat) (lt : Nat) (lk : Nat) (mb : Nat) (col : Nat) (con : Nat) (cor0 : Nat) (cor1 : Nat) (cor2 : Nat) (cor3 : Nat) (cor4 : Nat) (cob0 : Nat) (cob1 : Nat) (cal : Nat) (can : Nat) (car0 : Nat) (car1 : Nat) (car2 : Nat) (car3 : Nat) (car4 : Nat) (cab0 : Nat) (cab1 : Nat) (lf : Nat) (lx : Nat) (lw : Nat) (m9 : Int32) (a1 : Int32) (a2 : Int32) (a3 : Int32) (jg : Nat → Int64) (hL_x : x ∈ S.1) (hf_x : S.2 x = .inr (11, [.ref ch, .ref ln, .ref sl, .ref mk, .ref co, .ref ca, .ref su, .ref lt])) (hL_ch : ch ∈ S.1) (hf_ch : S.2 ch = .inr (2, [.ref lk, .int (nI 0)])) (hL_lk : lk ∈ S.1) (hf_lk : S.2 lk = aQ (cy 3) 4 (fun _ => none)) (hL_ln : ln ∈ S.1) (hf_ln : S.2 ln = .inr (6, [.int (nI 0), .int (nI 0), .int (nI 0), .int (nI 0)])) (hL_mk : mk ∈ S.1) (hf_mk : S.2 mk = .inr (8, [.ref mb, .int (nI 320)])) (hL_mb : mb ∈ S.1) (hf_mb : S.2 mb = aN (cy 0) 320 (fun _ => 0)) (hL_co : co ∈ S.1) (hf_co : S.2 co = .inr (5, [.ref col, .ref con])) (hL_col : col ∈ S.1) (hf_col : S.2 col = aQ (cy 2) 5 (va_up (va_up (va_up (va_up (va_up (fun _ => none) 0 (some cor0)) 1 (some cor1)) 2 (some cor2)) 3 (some cor3)) 4 (some cor4))) (hL_cor0 : cor0 ∈ S.1) (hf_cor0 : S.2 cor0 = .inr (8, [.ref cob0, .int (nI 0)])) (hL_cor1 : cor1 ∈ S.1) (hf_cor1 : S.2 cor1 = .inr (8, [.ref cob1, .int (nI 0)])) (hL_cob1 : cob1 ∈ S.1) (hf_cob1 : S.2 cob1 = aN (cy 0) 320 (fun _ => 0)) (hL_ca : ca ∈ S.1) (hf_ca : S.2 ca = .inr (5, [.ref cal, .ref can])) (hL_cal : cal ∈ S.1) (hf_cal : S.2 cal = aQ (cy 2) 5 (va_up (va_up (va_up (va_up (va_up (fun _ => none) 0 (some car0)) 1 (some car1)) 2 (some car2)) 3 (some car3)) 4 (some car4))) (hL_car0 : car0 ∈ S.1) (hf_car0 : S.2 car0 = .inr (8, [.ref cab0, .int (nI 0)])) (hL_cab0 : cab0 ∈ S.1) (hf_cab0 : S.2 cab0 = aN (cy 0) 32 (fun _ => 0)) (hL_car1 : car1 ∈ S.1) (hf_car1 : S.2 car1 = .inr (8, [.ref cab1, .int (nI 0)])) (hL_cab1 : cab1 ∈ S.1) (hf_cab1 : S.2 cab1 = aN (cy 0) 320 (fun _ => 0)) (hL_lt : lt ∈ S.1) (hf_lt : S.2 lt = .inr (4, [.ref lf, .ref lx, .ref lw])) (hL_lf : lf ∈ S.1) (hf_lf : S.2 lf = aN (cy 0) 16 (fun _ => 0)) (hL_jo : jo ∈ S.1) (hf_jo : S.2 jo = .inl (cy 6, 1, .inr (.inl jg))) (hne_col_lk : col ≠ lk) (hne_cal_lk : cal ≠ lk) (hne_cor0_cor1 : cor0 ≠ cor1) (hne_mk_cor1 : mk ≠ cor1) (hne_car1_cor1 : car1 ≠ cor1) (hne_cob1_cab1 : cob1 ≠ cab1) (hne_mk_car1 : mk ≠ car1) (hne_mb_cab1 : mb ≠ cab1) (hne_lf_cab1 : lf ≠ cab1) (hne_cor0_car1 : cor0 ≠ car1) (hne_car0_cor1 : car0 ≠ cor1) (hne_car0_car1 : car0 ≠ car1) (hne_cab0_cab1 : cab0 ≠ cab1) (hne_jo_lk : jo ≠ lk) (hne_jo_cab1 : jo ≠ cab1) (hne_jo_lf : jo ≠ lf) : vx_Met l yL_trail (Cond.codeWith yL_trail cL_trail 7 (some .int) [(0, 14, 17, 13), (0, 14, 21, 15)] :: lwU) ({ frames := 8, cells := 2, slots := 36, locals := 177 }) (ePc D cy ed S sz [.ref x, .int m9, .int a1, .int a2, .int a3, .ref jo]) (pQi D cy S sz (fun r S' => (∃ (st : Nat) (sw : Nat), (okT m9 a1 a2 a3) ∧ r = (nI 0) ∧ S'.1 = S.1 ++ [st, sw] ∧ (∀ a_, a_ ∈ S.1 → a_ ≠ lk → a_ ≠ ch → a_ ≠ cor1 → a_ ≠ car1 → a_ ≠ cab1 → a_ ≠ car0 → a_ ≠ lf → a_ ≠ jo → S'.2 a_ = S.2 a_) ∧ S'.2 jo = .inl (cy 6, 1, .inr (.inl (vp_updL jg 0 ((nI 0)).toInt64)))) ∨ ((¬ okT m9 a1 a2 a3) ∧ r = (nI 1) ∧ S = S'))) (pX D S sz (fun _ _ => False)) 2 36 (pA S sz) := by
  refine vx_ofWH (cc := cL_trail) (maxL := 7) (ret := (some .int)) (hh := [(0, 14, 17, 13), (0, 14, 21, 15)]) (by decide) rfl ?_
  intro p e s m args below meth c s₁ B hml hv
  obtain ⟨rfl, rfl, C, hw, hA, hr, hlocks, hE⟩ := e_start B hml hv
  have htab : c.exceptionTable.toList = tableOf [(0, 14, 17, 13), (0, 14, 21, 15)] := x_tab B (C.2.2.2.2.1 _ List.mem_cons_self)
  have hx := C.1
  have hb := C.2.1
  have hl := lv_entry ([.ref x, .int m9, .int a1, .int a2, .int a3, .ref jo]) (n := 7) (Nat.le_of_ble_eq_true rfl)
  rw [lg_entry_eq]
  generalize (lg_sl ([.ref x, .int m9, .int a1, .int a2, .int a3, .ref jo]) ++ List.replicate (7 - (lg_sl ([.ref x, .int m9, .int a1, .int a2, .int a3, .ref jo])).length) Slot.unset).toArray = ls at hl ⊢
  have hl : lv_has ls 7 [(0, .ref x), (1, .int m9), (2, .int a1), (3, .int a2), (4, .int a3), (5, .ref jo)] := hl
  refine lv_aload hx hb dL_trail_0 (lv_at hl 5 rfl) ?_
  refine lv_iconst (v := nI 0) hx hb dL_trail_2 (by decide) ?_
  refine lv_aload_n hx hb dL_trail_3 rfl (lv_at hl 0 rfl) ?_
  refine lv_iload_n hx hb dL_trail_4 rfl (lv_at hl 1 rfl) ?_
  refine lv_iload_n hx hb dL_trail_5 rfl (lv_at hl 2 rfl) ?_
  refine lv_iload_n hx hb dL_trail_6 rfl (lv_at hl 3 rfl) ?_
  refine lv_iload hx hb dL_trail_7 (lv_at hl 4 rfl) ?_
  refine x_calli (vx_runV (As := [.int m9, .int a1, .int a2, .int a3]) (rest := [.int (nI 0), .ref jo]) C.fix (e_X11_trail l hflags D cy ed S s.heap.size x ch ln sl mk co ca su lt lk mb col con cor0 cor1 cor2 cor3 cor4 cob0 cob1 cal can car0 car1 car2 car3 car4 cab0 cab1 lf lx lw m9 a1 a2 a3 hL_x hf_x hL_ch hf_ch hL_lk hf_lk hL_ln hf_ln hL_mk hf_mk hL_mb hf_mb hL_co hf_co hL_col hf_col hL_cor0 hf_cor0 hL_cor1 hf_cor1 hL_cob1 hf_cob1 hL_ca hf_ca hL_cal hf_cal hL_car0 hf_car0 hL_cab0 hf_cab0 hL_car1 hf_car1 hL_cab1 hf_cab1 hL_lt hf_lt hL_lf hf_lf hne_col_lk hne_cal_lk hne_cor0_cor1 hne_mk_cor1 hne_car1_cor1 hne_cob1_cab1 hne_mk_car1 hne_mb_cab1 hne_lf_cab1 hne_cor0_car1 hne_car0_cor1 hne_car0_car1 hne_cab0_cab1) (cwV 4 C.2.2.2.2.1 (gU_V mw_653 mw_654 mw_655 mw_2 (subU mw_656)) rfl rfl rfl hde_L_trail_V_0 ⟨Nat.le_of_ble_eq_true rfl, Nat.le_of_ble_eq_true rfl⟩) (e_preV C hw hA hE hL_x hf_x rfl) rfl rfl hl.1 rfl (lv_room (Nat.le_of_ble_eq_true rfl)) dL_trail_9 ⟨(Nat.le_of_ble_eq_true rfl), (Nat.le_of_ble_eq_true rfl)⟩) hw hA (fun E9 ce9 q9 S1 H locs hpost hw hce9 hcv9 hcl9 => ?_) (fun r2 S1 H locs hpost hw => ?_)
  · skip
    obtain ⟨rfl, hcx, hS_⟩ := hpost
    subst hS_
    refine x_catch C (E := "java/lang/IllegalArgumentException") (x := ⟨0, 14, 17, 13⟩) (suf := tableOf [(0, 14, 21, 15)]) (htab.trans rfl) hce9 hcv9 hcl9 hE 0 rfl mw_113 rfl (by decide) ?_
    refine lv_astore (lv' := [(6, .ref q9), (0, .ref x), (1, .int m9), (2, .int a1), (3, .int a2), (4, .int a3), (5, .ref jo)]) hx hb dL_trail_17 hl (by decide) rfl (fun ls hl => ?_)
    refine lv_iconst (v := nI 1) hx hb dL_trail_19 (by decide) ?_
    refine vx_ret ?_
    exact (p_iret C hw ((Or.inr ⟨(by first | trivial | assumption | omega), rfl, rfl⟩)) hr hlocks dL_trail_20)
  obtain ⟨st, sw, hc3, hr_, hS4, hfr5⟩ := hpost
  subst hr_
  have hnd6 := p_apart hw hS4
  have hq7 : st ∉ S.1 := p_fresh hw hS4 0 rfl
  have hq8 : sw ∉ S.1 := p_fresh hw hS4 1 rfl
  refine lv_i2l hx hb dL_trail_12 rfl ?_
  have hL9 : jo ∈ S1.1 := by rw [hS4]; exact List.mem_append_left _ hL_jo
  have hf10 : S1.2 jo = .inl (cy 6, 1, .inr (.inl jg)) := (hfr5 jo hL_jo hne_jo_lk (ne_cells hf_jo hf_ch (by nofun)) (ne_cells hf_jo hf_cor1 (by nofun)) (ne_cells hf_jo hf_car1 (by nofun)) hne_jo_cab1 (ne_cells hf_jo hf_car0 (by nofun)) hne_jo_lf).trans hf_jo
  refine p_last C hw 6 rfl hL9 hf10 (by decide) (by decide) dL_trail_13 (fun H locs hw => ?_)
  obtain ⟨S11, hS11⟩ : ∃ z, z = pup S1 jo (.inl (cy 6, 1, .inr (.inl (vp_updL jg 0 (((nI 0)).toInt64))))) := ⟨_, rfl⟩
  replace hw : pW D (pA S s.heap.size) s.heap S11 H locs := by rw [hS11]; exact hw
  have hL12 : jo ∈ S11.1 := by rw [hS11]; exact hL9
  have hf13 : S11.2 jo = .inl (cy 6, 1, .inr (.inl (vp_updL jg 0 (((nI 0)).toInt64)))) := by rw [hS11]; exact pup_s
  refine lv_goto (tgt := 25) hx hb dL_trail_14 (by decide) ?_
  refine lv_iconst (v := nI 0) hx hb dL_trail_25 (by decide) ?_
  refine vx_ret ?_
  exact (p_iret C hw ((Or.inl ⟨st, sw, (by first | trivial | assumption | omega), rfl, (by simp only [hS11, hS4, pup, pnew, List.append_nil, List.append_assoc, List.cons_append, List.nil_append]), (fun a_ ha_ hn_0 hn_1 hn_2 hn_3 hn_4 hn_5 hn_6 hn_7 => ((show S11.2 a_ = S1.2 a_ from by rw [hS11]; exact pup_n hn_7).trans (hfr5 a_ ha_ hn_0 hn_1 hn_2 hn_3 hn_4 hn_5 hn_6))), hf13⟩)) hr hlocks dL_trail_26)

theorem hde_L_weave_V_0 : yX11_weave.cls = RX11 ∧ yX11_weave.cls ≠ "java/lang/invoke/MethodHandle" ∧ yX11_weave.cls ≠ "java/lang/invoke/VarHandle" ∧ (parseMethodDescriptor yX11_weave.desc).map (fun d => d.parameters.length) = some 2 := by decide +kernel
set_option maxHeartbeats 4000000 in
set_option maxRecDepth 100000 in
/-- weave -/
theorem e_L_weave (l : Launch) (hflags : l.stackTraces = false) (D : va_G) (cy : Nat → ClassId) (ed : Nat) (S : pS) (sz : Nat) (x : Nat) (jo : Nat) (ch : Nat) (ln : Nat) (sl : Nat) (mk : Nat) (co : Nat) (ca : Nat) (su : Nat) (lt : Nat) (lk : Nat) (mb : Nat) (col : Nat) (con : Nat) (cor0 : Nat) (cor1 : Nat) (cor2 : Nat) (cor3 : Nat) (cor4 : Nat) (cob0 : Nat) (cob1 : Nat) (cal : Nat) (can : Nat) (car0 : Nat) (car1 : Nat) (car2 : Nat) (car3 : Nat) (car4 : Nat) (cab0 : Nat) (cab1 : Nat) (r9 : Int32) (c9 : Int32) (jg : Nat → Int64) (hL_x : x ∈ S.1) (hf_x : S.2 x = .inr (11, [.ref ch, .ref ln, .ref sl, .ref mk, .ref co, .ref ca, .ref su, .ref lt])) (hL_ch : ch ∈ S.1) (hf_ch : S.2 ch = .inr (2, [.ref lk, .int (nI 0)])) (hL_lk : lk ∈ S.1) (hf_lk : S.2 lk = aQ (cy 3) 4 (fun _ => none)) (hL_ln : ln ∈ S.1) (hf_ln : S.2 ln = .inr (6, [.int (nI 0), .int (nI 0), .int (nI 0), .int (nI 0)])) (hL_mk : mk ∈ S.1) (hf_mk : S.2 mk = .inr (8, [.ref mb, .int (nI 320)])) (hL_mb : mb ∈ S.1) (hf_mb : S.2 mb = aN (cy 0) 320 (fun _ => 0)) (hL_co : co ∈ S.1) (hf_co : S.2 co = .inr (5, [.ref col, .ref con])) (hL_col : col ∈ S.1) (hf_col : S.2 col = aQ (cy 2) 5 (va_up (va_up (va_up (va_up (va_up (fun _ => none) 0 (some cor0)) 1 (some cor1)) 2 (some cor2)) 3 (some cor3)) 4 (some cor4))) (hL_cor0 : cor0 ∈ S.1) (hf_cor0 : S.2 cor0 = .inr (8, [.ref cob0, .int (nI 0)])) (hL_cor1 : cor1 ∈ S.1) (hf_cor1 : S.2 cor1 = .inr (8, [.ref cob1, .int (nI 0)])) (hL_cob1 : cob1 ∈ S.1) (hf_cob1 : S.2 cob1 = aN (cy 0) 320 (fun _ => 0)) (hL_ca : ca ∈ S.1) (hf_ca : S.2 ca = .inr (5, [.ref cal, .ref can])) (hL_cal : cal ∈ S.1) (hf_cal : S.2 cal = aQ (cy 2) 5 (va_up (va_up (va_up (va_up (va_up (fun _ => none) 0 (some car0)) 1 (some car1)) 2 (some car2)) 3 (some car3)) 4 (some car4))) (hL_car0 : car0 ∈ S.1) (hf_car0 : S.2 car0 = .inr (8, [.ref cab0, .int (nI 0)])) (hL_cab0 : cab0 ∈ S.1) (hf_cab0 : S.2 cab0 = aN (cy 0) 32 (fun _ => 0)) (hL_car1 : car1 ∈ S.1) (hf_car1 : S.2 car1 = .inr (8, [.ref cab1, .int (nI 0)])) (hL_cab1 : cab1 ∈ S.1) (hf_cab1 : S.2 cab1 = aN (cy 0) 320 (fun _ => 0)) (hL_jo : jo ∈ S.1) (hf_jo : S.2 jo = .inl (cy 6, 1, .inr (.inl jg))) (hne_col_lk : col ≠ lk) (hne_cal_lk : cal ≠ lk) (hne_mk_cor1 : mk ≠ cor1) (hne_car1_cor1 : car1 ≠ cor1) (hne_cob1_cab1 : cob1 ≠ cab1) (hne_mk_car1 : mk ≠ car1) (hne_mb_cab1 : mb ≠ cab1) (hne_cor0_cor1 : cor0 ≠ cor1) (hne_cor0_car1 : cor0 ≠ car1) (hne_car0_cor1 : car0 ≠ cor1) (hne_car0_car1 : car0 ≠ car1) (hne_cab0_cab1 : cab0 ≠ cab1) (hne_jo_lk : jo ≠ lk) (hne_jo_cab1 : jo ≠ cab1) : vx_Met l yL_weave (Cond.codeWith yL_weave cL_weave 5 (some .int) [(0, 10, 13, 13), (0, 10, 17, 15)] :: lwU) ({ frames := 8, cells := 1, slots := 6, locals := 174 }) (ePc D cy ed S sz [.ref x, .int r9, .int c9, .ref jo]) (pQi D cy S sz (fun r S' => (∃ (st : Nat), (okV r9 c9) ∧ r = (nI 0) ∧ S'.1 = S.1 ++ [st] ∧ (∀ a_, a_ ∈ S.1 → a_ ≠ lk → a_ ≠ ch → a_ ≠ cor1 → a_ ≠ car1 → a_ ≠ cab1 → a_ ≠ car0 → a_ ≠ jo → S'.2 a_ = S.2 a_) ∧ S'.2 jo = .inl (cy 6, 1, .inr (.inl (vp_updL jg 0 ((nI 0)).toInt64)))) ∨ ((¬ okV r9 c9) ∧ r = (nI 1) ∧ S = S'))) (pX D S sz (fun _ _ => False)) 1 6 (pA S sz) := by
  refine vx_ofWH (cc := cL_weave) (maxL := 5) (ret := (some .int)) (hh := [(0, 10, 13, 13), (0, 10, 17, 15)]) (by decide) rfl ?_
  intro p e s m args below meth c s₁ B hml hv
  obtain ⟨rfl, rfl, C, hw, hA, hr, hlocks, hE⟩ := e_start B hml hv
  have htab : c.exceptionTable.toList = tableOf [(0, 10, 13, 13), (0, 10, 17, 15)] := x_tab B (C.2.2.2.2.1 _ List.mem_cons_self)
  have hx := C.1
  have hb := C.2.1
  have hl := lv_entry ([.ref x, .int r9, .int c9, .ref jo]) (n := 5) (Nat.le_of_ble_eq_true rfl)
  rw [lg_entry_eq]
  generalize (lg_sl ([.ref x, .int r9, .int c9, .ref jo]) ++ List.replicate (5 - (lg_sl ([.ref x, .int r9, .int c9, .ref jo])).length) Slot.unset).toArray = ls at hl ⊢
  have hl : lv_has ls 5 [(0, .ref x), (1, .int r9), (2, .int c9), (3, .ref jo)] := hl
  refine lv_aload_n hx hb dL_weave_0 rfl (lv_at hl 3 rfl) ?_
  refine lv_iconst (v := nI 0) hx hb dL_weave_1 (by decide) ?_
  refine lv_aload_n hx hb dL_weave_2 rfl (lv_at hl 0 rfl) ?_
  refine lv_iload_n hx hb dL_weave_3 rfl (lv_at hl 1 rfl) ?_
  refine lv_iload_n hx hb dL_weave_4 rfl (lv_at hl 2 rfl) ?_
  refine x_calli (vx_runV (As := [.int r9, .int c9]) (rest := [.int (nI 0), .ref jo]) C.fix (e_X11_weave l hflags D cy ed S s.heap.size x ch ln sl mk co ca su lt lk mb col con cor0 cor1 cor2 cor3 cor4 cob0 cob1 cal can car0 car1 car2 car3 car4 cab0 cab1 r9 c9 hL_x hf_x hL_ch hf_ch hL_lk hf_lk hL_ln hf_ln hL_mk hf_mk hL_mb hf_mb hL_co hf_co hL_col hf_col hL_cor0 hf_cor0 hL_cor1 hf_cor1 hL_cob1 hf_cob1 hL_ca hf_ca hL_cal hf_cal hL_car0 hf_car0 hL_cab0 hf_cab0 hL_car1 hf_car1 hL_cab1 hf_cab1 hne_col_lk hne_cal_lk hne_mk_cor1 hne_car1_cor1 hne_cob1_cab1 hne_mk_car1 hne_mb_cab1 hne_cor0_cor1 hne_cor0_car1 hne_car0_cor1 hne_car0_car1 hne_cab0_cab1) (cwV 2 C.2.2.2.2.1 (gU_V mw_672 mw_673 mw_674 mw_2 (subU mw_675)) rfl rfl rfl hde_L_weave_V_0 ⟨Nat.le_of_ble_eq_true rfl, Nat.le_of_ble_eq_true rfl⟩) (e_preV C hw hA hE hL_x hf_x rfl) rfl rfl hl.1 rfl (lv_room (Nat.le_of_ble_eq_true rfl)) dL_weave_5 ⟨(Nat.le_of_ble_eq_true rfl), (Nat.le_of_ble_eq_true rfl)⟩) hw hA (fun E9 ce9 q9 S1 H locs hpost hw hce9 hcv9 hcl9 => ?_) (fun r2 S1 H locs hpost hw => ?_)
  · skip
    obtain ⟨rfl, hcx, hS_⟩ := hpost
    subst hS_
    refine x_catch C (E := "java/lang/IllegalArgumentException") (x := ⟨0, 10, 13, 13⟩) (suf := tableOf [(0, 10, 17, 15)]) (htab.trans rfl) hce9 hcv9 hcl9 hE 0 rfl mw_113 rfl (by decide) ?_
    refine lv_astore (lv' := [(4, .ref q9), (0, .ref x), (1, .int r9), (2, .int c9), (3, .ref jo)]) hx hb dL_weave_13 hl (by decide) rfl (fun ls hl => ?_)
    refine lv_iconst (v := nI 1) hx hb dL_weave_15 (by decide) ?_
    refine vx_ret ?_
    exact (p_iret C hw ((Or.inr ⟨(by first | trivial | assumption | omega), rfl, rfl⟩)) hr hlocks dL_weave_16)
  obtain ⟨st, hc3, hr_, hS4, hfr5⟩ := hpost
  subst hr_
  have hq6 : st ∉ S.1 := p_fresh hw hS4 0 rfl
  refine lv_i2l hx hb dL_weave_8 rfl ?_
  have hL7 : jo ∈ S1.1 := by rw [hS4]; exact List.mem_append_left _ hL_jo
  have hf8 : S1.2 jo = .inl (cy 6, 1, .inr (.inl jg)) := (hfr5 jo hL_jo hne_jo_lk (ne_cells hf_jo hf_ch (by nofun)) (ne_cells hf_jo hf_cor1 (by nofun)) (ne_cells hf_jo hf_car1 (by nofun)) hne_jo_cab1 (ne_cells hf_jo hf_car0 (by nofun))).trans hf_jo
  refine p_last C hw 6 rfl hL7 hf8 (by decide) (by decide) dL_weave_9 (fun H locs hw => ?_)
  obtain ⟨S9, hS9⟩ : ∃ z, z = pup S1 jo (.inl (cy 6, 1, .inr (.inl (vp_updL jg 0 (((nI 0)).toInt64))))) := ⟨_, rfl⟩
  replace hw : pW D (pA S s.heap.size) s.heap S9 H locs := by rw [hS9]; exact hw
  have hL10 : jo ∈ S9.1 := by rw [hS9]; exact hL7
  have hf11 : S9.2 jo = .inl (cy 6, 1, .inr (.inl (vp_updL jg 0 (((nI 0)).toInt64)))) := by rw [hS9]; exact pup_s
  refine lv_goto (tgt := 21) hx hb dL_weave_10 (by decide) ?_
  refine lv_iconst (v := nI 0) hx hb dL_weave_21 (by decide) ?_
  refine vx_ret ?_
  exact (p_iret C hw ((Or.inl ⟨st, (by first | trivial | assumption | omega), rfl, (by simp only [hS9, hS4, pup, pnew, List.append_nil, List.append_assoc, List.cons_append, List.nil_append]), (fun a_ ha_ hn_0 hn_1 hn_2 hn_3 hn_4 hn_5 hn_6 => ((show S9.2 a_ = S1.2 a_ from by rw [hS9]; exact pup_n hn_6).trans (hfr5 a_ ha_ hn_0 hn_1 hn_2 hn_3 hn_4 hn_5))), hf11⟩)) hr hlocks dL_weave_22)

theorem hde_L_drop_V_0 : yX11_drop.cls = RX11 ∧ yX11_drop.cls ≠ "java/lang/invoke/MethodHandle" ∧ yX11_drop.cls ≠ "java/lang/invoke/VarHandle" ∧ (parseMethodDescriptor yX11_drop.desc).map (fun d => d.parameters.length) = some 0 := by decide +kernel
set_option maxHeartbeats 4000000 in
set_option maxRecDepth 100000 in
/-- drop -/
theorem e_L_drop (l : Launch) (hflags : l.stackTraces = false) (D : va_G) (cy : Nat → ClassId) (ed : Nat) (S : pS) (sz : Nat) (x : Nat) (jo : Nat) (ch : Nat) (ln : Nat) (sl : Nat) (mk : Nat) (co : Nat) (ca : Nat) (su : Nat) (lt : Nat) (lk : Nat) (hL_x : x ∈ S.1) (hf_x : S.2 x = .inr (11, [.ref ch, .ref ln, .ref sl, .ref mk, .ref co, .ref ca, .ref su, .ref lt])) (hL_ch : ch ∈ S.1) (hf_ch : S.2 ch = .inr (2, [.ref lk, .int (nI 0)]))  : vx_Met l yL_drop (Cond.codeWith yL_drop cL_drop 3 (some .int) [(0, 8, 11, 15)] :: lwU) ({ frames := 7, cells := 1, slots := 6, locals := 102 }) (ePc D cy ed S sz [.ref x, .ref jo]) (pQi D cy S sz (fun r S' => r = (nI 1) ∧ S = S')) (pX D S sz (fun _ _ => False)) 1 6 (pA S sz) := by
  refine vx_ofWH (cc := cL_drop) (maxL := 3) (ret := (some .int)) (hh := [(0, 8, 11, 15)]) (by decide) rfl ?_
  intro p e s m args below meth c s₁ B hml hv
  obtain ⟨rfl, rfl, C, hw, hA, hr, hlocks, hE⟩ := e_start B hml hv
  have htab : c.exceptionTable.toList = tableOf [(0, 8, 11, 15)] := x_tab B (C.2.2.2.2.1 _ List.mem_cons_self)
  have hx := C.1
  have hb := C.2.1
  have hl := lv_entry ([.ref x, .ref jo]) (n := 3) (Nat.le_of_ble_eq_true rfl)
  rw [lg_entry_eq]
  generalize (lg_sl ([.ref x, .ref jo]) ++ List.replicate (3 - (lg_sl ([.ref x, .ref jo])).length) Slot.unset).toArray = ls at hl ⊢
  have hl : lv_has ls 3 [(0, .ref x), (1, .ref jo)] := hl
  refine lv_aload_n hx hb dL_drop_0 rfl (lv_at hl 1 rfl) ?_
  refine lv_iconst (v := nI 0) hx hb dL_drop_1 (by decide) ?_
  refine lv_aload_n hx hb dL_drop_2 rfl (lv_at hl 0 rfl) ?_
  refine x_calli (vx_runV (As := []) (rest := [.int (nI 0), .ref jo]) C.fix (e_X11_drop l hflags D cy ed S s.heap.size x ch ln sl mk co ca su lt lk hL_x hf_x hL_ch hf_ch ) (cwV 0 C.2.2.2.2.1 (gU_V mw_688 mw_689 mw_690 mw_2 (subU mw_691)) rfl rfl rfl hde_L_drop_V_0 ⟨Nat.le_of_ble_eq_true rfl, Nat.le_of_ble_eq_true rfl⟩) (e_preV C hw hA hE hL_x hf_x rfl) rfl rfl hl.1 rfl (lv_room (Nat.le_of_ble_eq_true rfl)) dL_drop_3 ⟨(Nat.le_of_ble_eq_true rfl), (Nat.le_of_ble_eq_true rfl)⟩) hw hA (fun E9 ce9 q9 S1 H locs hpost hw hce9 hcv9 hcl9 => ?_) (fun r2 S1 H locs hpost hw => ?_)
  · skip
    obtain ⟨rfl, hcx, hS_⟩ := hpost
    subst hS_
    refine x_catch C (E := "java/lang/IllegalStateException") (x := ⟨0, 8, 11, 15⟩) (suf := tableOf []) (htab.trans rfl) hce9 hcv9 hcl9 hE 1 rfl mw_114 rfl (by decide) ?_
    refine lv_astore_n (lv' := [(2, .ref q9), (0, .ref x), (1, .ref jo)]) hx hb dL_drop_11 rfl hl (by decide) rfl (fun ls hl => ?_)
    refine lv_iconst (v := nI 1) hx hb dL_drop_12 (by decide) ?_
    refine vx_ret ?_
    exact (p_iret C hw (⟨rfl, rfl⟩) hr hlocks dL_drop_13)
  obtain ⟨hc3, hr_, hS_⟩ := hpost
  subst hS_
  exact hc3.elim

theorem hde_L_channel_V_0 : yX11_channel.cls = RX11 ∧ yX11_channel.cls ≠ "java/lang/invoke/MethodHandle" ∧ yX11_channel.cls ≠ "java/lang/invoke/VarHandle" ∧ (parseMethodDescriptor yX11_channel.desc).map (fun d => d.parameters.length) = some 4 := by decide +kernel
set_option maxHeartbeats 4000000 in
set_option maxRecDepth 100000 in
/-- channel -/
theorem e_L_channel (l : Launch) (hflags : l.stackTraces = false) (D : va_G) (cy : Nat → ClassId) (ed : Nat) (S : pS) (sz : Nat) (x : Nat) (jo : Nat) (ch : Nat) (ln : Nat) (sl : Nat) (mk : Nat) (co : Nat) (ca : Nat) (su : Nat) (lt : Nat) (lk : Nat) (mb : Nat) (col : Nat) (con : Nat) (cor0 : Nat) (cor1 : Nat) (cor2 : Nat) (cor3 : Nat) (cor4 : Nat) (cob0 : Nat) (cal : Nat) (can : Nat) (car0 : Nat) (car1 : Nat) (car2 : Nat) (car3 : Nat) (car4 : Nat) (cab0 : Nat) (k : Int32) (a : Int32) (b : Int32) (c9 : Int32) (jg : Nat → Int64) (hL_x : x ∈ S.1) (hf_x : S.2 x = .inr (11, [.ref ch, .ref ln, .ref sl, .ref mk, .ref co, .ref ca, .ref su, .ref lt])) (hL_ch : ch ∈ S.1) (hf_ch : S.2 ch = .inr (2, [.ref lk, .int (nI 0)])) (hL_ln : ln ∈ S.1) (hf_ln : S.2 ln = .inr (6, [.int (nI 0), .int (nI 0), .int (nI 0), .int (nI 0)])) (hL_mk : mk ∈ S.1) (hf_mk : S.2 mk = .inr (8, [.ref mb, .int (nI 320)])) (hL_mb : mb ∈ S.1) (hf_mb : S.2 mb = aN (cy 0) 320 (fun _ => 0)) (hL_co : co ∈ S.1) (hf_co : S.2 co = .inr (5, [.ref col, .ref con])) (hL_col : col ∈ S.1) (hf_col : S.2 col = aQ (cy 2) 5 (va_up (va_up (va_up (va_up (va_up (fun _ => none) 0 (some cor0)) 1 (some cor1)) 2 (some cor2)) 3 (some cor3)) 4 (some cor4))) (hL_cor0 : cor0 ∈ S.1) (hf_cor0 : S.2 cor0 = .inr (8, [.ref cob0, .int (nI 0)])) (hL_cob0 : cob0 ∈ S.1) (hf_cob0 : S.2 cob0 = aN (cy 0) 32 (fun _ => 0)) (hL_ca : ca ∈ S.1) (hf_ca : S.2 ca = .inr (5, [.ref cal, .ref can])) (hL_cal : cal ∈ S.1) (hf_cal : S.2 cal = aQ (cy 2) 5 (va_up (va_up (va_up (va_up (va_up (fun _ => none) 0 (some car0)) 1 (some car1)) 2 (some car2)) 3 (some car3)) 4 (some car4))) (hL_car0 : car0 ∈ S.1) (hf_car0 : S.2 car0 = .inr (8, [.ref cab0, .int (nI 0)])) (hL_cab0 : cab0 ∈ S.1) (hf_cab0 : S.2 cab0 = aN (cy 0) 32 (fun _ => 0)) (hL_jo : jo ∈ S.1) (hf_jo : S.2 jo = .inl (cy 6, 1, .inr (.inl jg))) (hne_cob0_cab0 : cob0 ≠ cab0) (hne_cor0_car0 : cor0 ≠ car0) (hne_mk_car0 : mk ≠ car0) (hne_mb_cab0 : mb ≠ cab0) (hne_jo_cab0 : jo ≠ cab0) : vx_Met l yL_channel (Cond.codeWith yL_channel cL_channel 7 (some .int) [(0, 14, 17, 13)] :: lwU) ({ frames := 7, cells := 1, slots := 6, locals := 156 }) (ePc D cy ed S sz [.ref x, .int k, .int a, .int b, .int c9, .ref jo]) (pQi D cy S sz (fun r S' => ((okC k a b c9) ∧ r = (nI 0) ∧ S'.1 = S.1 ++ [] ∧ (∀ a_, a_ ∈ S.1 → a_ ≠ ln → a_ ≠ car0 → a_ ≠ cab0 → a_ ≠ jo → S'.2 a_ = S.2 a_) ∧ S'.2 jo = .inl (cy 6, 1, .inr (.inl (vp_updL jg 0 ((nI 0)).toInt64)))) ∨ ((¬ okC k a b c9) ∧ r = (nI 1) ∧ S = S'))) (pX D S sz (fun _ _ => False)) 1 6 (pA S sz) := by
  refine vx_ofWH (cc := cL_channel) (maxL := 7) (ret := (some .int)) (hh := [(0, 14, 17, 13)]) (by decide) rfl ?_
  intro p e s m args below meth c s₁ B hml hv
  obtain ⟨rfl, rfl, C, hw, hA, hr, hlocks, hE⟩ := e_start B hml hv
  have htab : c.exceptionTable.toList = tableOf [(0, 14, 17, 13)] := x_tab B (C.2.2.2.2.1 _ List.mem_cons_self)
  have hx := C.1
  have hb := C.2.1
  have hl := lv_entry ([.ref x, .int k, .int a, .int b, .int c9, .ref jo]) (n := 7) (Nat.le_of_ble_eq_true rfl)
  rw [lg_entry_eq]
  generalize (lg_sl ([.ref x, .int k, .int a, .int b, .int c9, .ref jo]) ++ List.replicate (7 - (lg_sl ([.ref x, .int k, .int a, .int b, .int c9, .ref jo])).length) Slot.unset).toArray = ls at hl ⊢
  have hl : lv_has ls 7 [(0, .ref x), (1, .int k), (2, .int a), (3, .int b), (4, .int c9), (5, .ref jo)] := hl
  refine lv_aload hx hb dL_channel_0 (lv_at hl 5 rfl) ?_
  refine lv_iconst (v := nI 0) hx hb dL_channel_2 (by decide) ?_
  refine lv_aload_n hx hb dL_channel_3 rfl (lv_at hl 0 rfl) ?_
  refine lv_iload_n hx hb dL_channel_4 rfl (lv_at hl 1 rfl) ?_
  refine lv_iload_n hx hb dL_channel_5 rfl (lv_at hl 2 rfl) ?_
  refine lv_iload_n hx hb dL_channel_6 rfl (lv_at hl 3 rfl) ?_
  refine lv_iload hx hb dL_channel_7 (lv_at hl 4 rfl) ?_
  refine x_calli (vx_runV (As := [.int k, .int a, .int b, .int c9]) (rest := [.int (nI 0), .ref jo]) C.fix (e_X11_channel l hflags D cy ed S s.heap.size x ch ln sl mk co ca su lt lk mb col con cor0 cor1 cor2 cor3 cor4 cob0 cal can car0 car1 car2 car3 car4 cab0 k a b c9 hL_x hf_x hL_ch hf_ch hL_ln hf_ln hL_mk hf_mk hL_mb hf_mb hL_co hf_co hL_col hf_col hL_cor0 hf_cor0 hL_cob0 hf_cob0 hL_ca hf_ca hL_cal hf_cal hL_car0 hf_car0 hL_cab0 hf_cab0 hne_cob0_cab0 hne_cor0_car0 hne_mk_car0 hne_mb_cab0) (cwV 4 C.2.2.2.2.1 (gU_V mw_707 mw_708 mw_709 mw_2 (subU mw_710)) rfl rfl rfl hde_L_channel_V_0 ⟨Nat.le_of_ble_eq_true rfl, Nat.le_of_ble_eq_true rfl⟩) (e_preV C hw hA hE hL_x hf_x rfl) rfl rfl hl.1 rfl (lv_room (Nat.le_of_ble_eq_true rfl)) dL_channel_9 ⟨(Nat.le_of_ble_eq_true rfl), (Nat.le_of_ble_eq_true rfl)⟩) hw hA (fun E9 ce9 q9 S1 H locs hpost hw hce9 hcv9 hcl9 => ?_) (fun r2 S1 H locs hpost hw => ?_)
  · skip
    obtain ⟨rfl, hcx, hS_⟩ := hpost
    subst hS_
    refine x_catch C (E := "java/lang/IllegalArgumentException") (x := ⟨0, 14, 17, 13⟩) (suf := tableOf []) (htab.trans rfl) hce9 hcv9 hcl9 hE 0 rfl mw_113 rfl (by decide) ?_
    refine lv_astore (lv' := [(6, .ref q9), (0, .ref x), (1, .int k), (2, .int a), (3, .int b), (4, .int c9), (5, .ref jo)]) hx hb dL_channel_17 hl (by decide) rfl (fun ls hl => ?_)
    refine lv_iconst (v := nI 1) hx hb dL_channel_19 (by decide) ?_
    refine vx_ret ?_
    exact (p_iret C hw ((Or.inr ⟨(by first | trivial | assumption | omega), rfl, rfl⟩)) hr hlocks dL_channel_20)
  obtain ⟨hc3, hr_, hS4, hfr5⟩ := hpost
  subst hr_
  refine lv_i2l hx hb dL_channel_12 rfl ?_
  have hL6 : jo ∈ S1.1 := by rw [hS4]; exact List.mem_append_left _ hL_jo
  have hf7 : S1.2 jo = .inl (cy 6, 1, .inr (.inl jg)) := (hfr5 jo hL_jo (ne_cells hf_jo hf_ln (by nofun)) (ne_cells hf_jo hf_car0 (by nofun)) hne_jo_cab0).trans hf_jo
  refine p_last C hw 6 rfl hL6 hf7 (by decide) (by decide) dL_channel_13 (fun H locs hw => ?_)
  obtain ⟨S8, hS8⟩ : ∃ z, z = pup S1 jo (.inl (cy 6, 1, .inr (.inl (vp_updL jg 0 (((nI 0)).toInt64))))) := ⟨_, rfl⟩
  replace hw : pW D (pA S s.heap.size) s.heap S8 H locs := by rw [hS8]; exact hw
  have hL9 : jo ∈ S8.1 := by rw [hS8]; exact hL6
  have hf10 : S8.2 jo = .inl (cy 6, 1, .inr (.inl (vp_updL jg 0 (((nI 0)).toInt64)))) := by rw [hS8]; exact pup_s
  refine lv_goto (tgt := 21) hx hb dL_channel_14 (by decide) ?_
  refine lv_iconst (v := nI 0) hx hb dL_channel_21 (by decide) ?_
  refine vx_ret ?_
  exact (p_iret C hw ((Or.inl ⟨(by first | trivial | assumption | omega), rfl, (by simp only [hS8, hS4, pup, pnew, List.append_nil, List.append_assoc, List.cons_append, List.nil_append]), (fun a_ ha_ hn_0 hn_1 hn_2 hn_3 => ((show S8.2 a_ = S1.2 a_ from by rw [hS8]; exact pup_n hn_3).trans (hfr5 a_ ha_ hn_0 hn_1 hn_2))), hf10⟩)) hr hlocks dL_channel_22)

theorem hde_L_mark_V_0 : yX11_mark.cls = RX11 ∧ yX11_mark.cls ≠ "java/lang/invoke/MethodHandle" ∧ yX11_mark.cls ≠ "java/lang/invoke/VarHandle" ∧ (parseMethodDescriptor yX11_mark.desc).map (fun d => d.parameters.length) = some 1 := by decide +kernel
set_option maxHeartbeats 4000000 in
set_option maxRecDepth 100000 in
/-- mark -/
theorem e_L_mark (l : Launch) (hflags : l.stackTraces = false) (D : va_G) (cy : Nat → ClassId) (ed : Nat) (S : pS) (sz : Nat) (x : Nat) (jo : Nat) (ch : Nat) (ln : Nat) (sl : Nat) (mk : Nat) (co : Nat) (ca : Nat) (su : Nat) (lt : Nat) (lk : Nat) (mb : Nat) (col : Nat) (con : Nat) (cor0 : Nat) (cor1 : Nat) (cor2 : Nat) (cor3 : Nat) (cor4 : Nat) (cob0 : Nat) (cal : Nat) (can : Nat) (car0 : Nat) (car1 : Nat) (car2 : Nat) (car3 : Nat) (car4 : Nat) (cab0 : Nat) (j : Int32) (jg : Nat → Int64) (hL_x : x ∈ S.1) (hf_x : S.2 x = .inr (11, [.ref ch, .ref ln, .ref sl, .ref mk, .ref co, .ref ca, .ref su, .ref lt])) (hL_ch : ch ∈ S.1) (hf_ch : S.2 ch = .inr (2, [.ref lk, .int (nI 0)])) (hL_ln : ln ∈ S.1) (hf_ln : S.2 ln = .inr (6, [.int (nI 0), .int (nI 0), .int (nI 0), .int (nI 0)])) (hL_mk : mk ∈ S.1) (hf_mk : S.2 mk = .inr (8, [.ref mb, .int (nI 320)])) (hL_mb : mb ∈ S.1) (hf_mb : S.2 mb = aN (cy 0) 320 (fun _ => 0)) (hL_co : co ∈ S.1) (hf_co : S.2 co = .inr (5, [.ref col, .ref con])) (hL_col : col ∈ S.1) (hf_col : S.2 col = aQ (cy 2) 5 (va_up (va_up (va_up (va_up (va_up (fun _ => none) 0 (some cor0)) 1 (some cor1)) 2 (some cor2)) 3 (some cor3)) 4 (some cor4))) (hL_cor0 : cor0 ∈ S.1) (hf_cor0 : S.2 cor0 = .inr (8, [.ref cob0, .int (nI 0)])) (hL_cob0 : cob0 ∈ S.1) (hf_cob0 : S.2 cob0 = aN (cy 0) 32 (fun _ => 0)) (hL_ca : ca ∈ S.1) (hf_ca : S.2 ca = .inr (5, [.ref cal, .ref can])) (hL_cal : cal ∈ S.1) (hf_cal : S.2 cal = aQ (cy 2) 5 (va_up (va_up (va_up (va_up (va_up (fun _ => none) 0 (some car0)) 1 (some car1)) 2 (some car2)) 3 (some car3)) 4 (some car4))) (hL_car0 : car0 ∈ S.1) (hf_car0 : S.2 car0 = .inr (8, [.ref cab0, .int (nI 0)])) (hL_cab0 : cab0 ∈ S.1) (hf_cab0 : S.2 cab0 = aN (cy 0) 32 (fun _ => 0)) (hL_jo : jo ∈ S.1) (hf_jo : S.2 jo = .inl (cy 6, 1, .inr (.inl jg))) (hne_cob0_mb : cob0 ≠ mb) (hne_cab0_mb : cab0 ≠ mb) (hne_cob0_cab0 : cob0 ≠ cab0) (hne_cor0_car0 : cor0 ≠ car0) (hne_mk_car0 : mk ≠ car0) (hne_jo_mb : jo ≠ mb) (hne_jo_cab0 : jo ≠ cab0) : vx_Met l yL_mark (Cond.codeWith yL_mark cL_mark 4 (some .int) [(0, 9, 12, 45)] :: lwU) ({ frames := 7, cells := 1, slots := 6, locals := 152 }) (ePc D cy ed S sz [.ref x, .int j, .ref jo]) (pQi D cy S sz (fun r S' => ((okM j) ∧ r = (nI 0) ∧ S'.1 = S.1 ++ [] ∧ (∀ a_, a_ ∈ S.1 → a_ ≠ mb → a_ ≠ car0 → a_ ≠ cab0 → a_ ≠ jo → S'.2 a_ = S.2 a_) ∧ S'.2 jo = .inl (cy 6, 1, .inr (.inl (vp_updL jg 0 ((nI 1)).toInt64)))) ∨ ((¬ okM j) ∧ r = (nI 1) ∧ S = S'))) (pX D S sz (fun _ _ => False)) 1 6 (pA S sz) := by
  refine vx_ofWH (cc := cL_mark) (maxL := 4) (ret := (some .int)) (hh := [(0, 9, 12, 45)]) (by decide) rfl ?_
  intro p e s m args below meth c s₁ B hml hv
  obtain ⟨rfl, rfl, C, hw, hA, hr, hlocks, hE⟩ := e_start B hml hv
  have htab : c.exceptionTable.toList = tableOf [(0, 9, 12, 45)] := x_tab B (C.2.2.2.2.1 _ List.mem_cons_self)
  have hx := C.1
  have hb := C.2.1
  have hl := lv_entry ([.ref x, .int j, .ref jo]) (n := 4) (Nat.le_of_ble_eq_true rfl)
  rw [lg_entry_eq]
  generalize (lg_sl ([.ref x, .int j, .ref jo]) ++ List.replicate (4 - (lg_sl ([.ref x, .int j, .ref jo])).length) Slot.unset).toArray = ls at hl ⊢
  have hl : lv_has ls 4 [(0, .ref x), (1, .int j), (2, .ref jo)] := hl
  refine lv_aload_n hx hb dL_mark_0 rfl (lv_at hl 2 rfl) ?_
  refine lv_iconst (v := nI 0) hx hb dL_mark_1 (by decide) ?_
  refine lv_aload_n hx hb dL_mark_2 rfl (lv_at hl 0 rfl) ?_
  refine lv_iload_n hx hb dL_mark_3 rfl (lv_at hl 1 rfl) ?_
  refine x_calli (vx_runV (As := [.int j]) (rest := [.int (nI 0), .ref jo]) C.fix (e_X11_mark l hflags D cy ed S s.heap.size x ch ln sl mk co ca su lt lk mb col con cor0 cor1 cor2 cor3 cor4 cob0 cal can car0 car1 car2 car3 car4 cab0 j hL_x hf_x hL_ch hf_ch hL_ln hf_ln hL_mk hf_mk hL_mb hf_mb hL_co hf_co hL_col hf_col hL_cor0 hf_cor0 hL_cob0 hf_cob0 hL_ca hf_ca hL_cal hf_cal hL_car0 hf_car0 hL_cab0 hf_cab0 hne_cob0_mb hne_cab0_mb hne_cob0_cab0 hne_cor0_car0 hne_mk_car0) (cwV 1 C.2.2.2.2.1 (gU_V mw_729 mw_730 mw_731 mw_2 (subU mw_732)) rfl rfl rfl hde_L_mark_V_0 ⟨Nat.le_of_ble_eq_true rfl, Nat.le_of_ble_eq_true rfl⟩) (e_preV C hw hA hE hL_x hf_x rfl) rfl rfl hl.1 rfl (lv_room (Nat.le_of_ble_eq_true rfl)) dL_mark_4 ⟨(Nat.le_of_ble_eq_true rfl), (Nat.le_of_ble_eq_true rfl)⟩) hw hA (fun E9 ce9 q9 S1 H locs hpost hw hce9 hcv9 hcl9 => ?_) (fun r2 S1 H locs hpost hw => ?_)
  · skip
    obtain ⟨rfl, hcx, hS_⟩ := hpost
    subst hS_
    refine x_catch C (E := "java/lang/IndexOutOfBoundsException") (x := ⟨0, 9, 12, 45⟩) (suf := tableOf []) (htab.trans rfl) hce9 hcv9 hcl9 hE 2 rfl mw_728 rfl (by decide) ?_
    refine lv_astore_n (lv' := [(3, .ref q9), (0, .ref x), (1, .int j), (2, .ref jo)]) hx hb dL_mark_12 rfl hl (by decide) rfl (fun ls hl => ?_)
    refine lv_iconst (v := nI 1) hx hb dL_mark_13 (by decide) ?_
    refine vx_ret ?_
    exact (p_iret C hw ((Or.inr ⟨(by first | trivial | assumption | omega), rfl, rfl⟩)) hr hlocks dL_mark_14)
  obtain ⟨hc3, hr_, hS4, hfr5⟩ := hpost
  subst hr_
  refine lv_i2l hx hb dL_mark_7 rfl ?_
  have hL6 : jo ∈ S1.1 := by rw [hS4]; exact List.mem_append_left _ hL_jo
  have hf7 : S1.2 jo = .inl (cy 6, 1, .inr (.inl jg)) := (hfr5 jo hL_jo hne_jo_mb (ne_cells hf_jo hf_car0 (by nofun)) hne_jo_cab0).trans hf_jo
  refine p_last C hw 6 rfl hL6 hf7 (by decide) (by decide) dL_mark_8 (fun H locs hw => ?_)
  obtain ⟨S8, hS8⟩ : ∃ z, z = pup S1 jo (.inl (cy 6, 1, .inr (.inl (vp_updL jg 0 (((nI 1)).toInt64))))) := ⟨_, rfl⟩
  replace hw : pW D (pA S s.heap.size) s.heap S8 H locs := by rw [hS8]; exact hw
  have hL9 : jo ∈ S8.1 := by rw [hS8]; exact hL6
  have hf10 : S8.2 jo = .inl (cy 6, 1, .inr (.inl (vp_updL jg 0 (((nI 1)).toInt64)))) := by rw [hS8]; exact pup_s
  refine lv_goto (tgt := 15) hx hb dL_mark_9 (by decide) ?_
  refine lv_iconst (v := nI 0) hx hb dL_mark_15 (by decide) ?_
  refine vx_ret ?_
  exact (p_iret C hw ((Or.inl ⟨(by first | trivial | assumption | omega), rfl, (by simp only [hS8, hS4, pup, pnew, List.append_nil, List.append_assoc, List.cons_append, List.nil_append]), (fun a_ ha_ hn_0 hn_1 hn_2 hn_3 => ((show S8.2 a_ = S1.2 a_ from by rw [hS8]; exact pup_n hn_3).trans (hfr5 a_ ha_ hn_0 hn_1 hn_2))), hf10⟩)) hr hlocks dL_mark_16)

theorem hde_L_ofStage_V_0 : yX11_ofStage.cls = RX11 ∧ yX11_ofStage.cls ≠ "java/lang/invoke/MethodHandle" ∧ yX11_ofStage.cls ≠ "java/lang/invoke/VarHandle" ∧ (parseMethodDescriptor yX11_ofStage.desc).map (fun d => d.parameters.length) = some 2 := by decide +kernel
set_option maxHeartbeats 4000000 in
set_option maxRecDepth 100000 in
/-- ofStage -/
theorem e_L_ofStage (l : Launch) (hflags : l.stackTraces = false) (D : va_G) (cy : Nat → ClassId) (ed : Nat) (S : pS) (sz : Nat) (x : Nat) (jo : Nat) (ch : Nat) (ln : Nat) (sl : Nat) (mk : Nat) (co : Nat) (ca : Nat) (su : Nat) (lt : Nat) (lk : Nat) (j : Int32) (w : Int32) (hL_x : x ∈ S.1) (hf_x : S.2 x = .inr (11, [.ref ch, .ref ln, .ref sl, .ref mk, .ref co, .ref ca, .ref su, .ref lt])) (hL_ch : ch ∈ S.1) (hf_ch : S.2 ch = .inr (2, [.ref lk, .int (nI 0)]))  : vx_Met l yL_ofStage (Cond.codeWith yL_ofStage cL_ofStage 5 (some .int) [(0, 10, 13, 45), (0, 10, 17, 13)] :: lwU) ({ frames := 7, cells := 1, slots := 6, locals := 105 }) (ePc D cy ed S sz [.ref x, .int j, .int w, .ref jo]) (pQi D cy S sz (fun r S' => r = (nI 1) ∧ S = S')) (pX D S sz (fun _ _ => False)) 1 6 (pA S sz) := by
  refine vx_ofWH (cc := cL_ofStage) (maxL := 5) (ret := (some .int)) (hh := [(0, 10, 13, 45), (0, 10, 17, 13)]) (by decide) rfl ?_
  intro p e s m args below meth c s₁ B hml hv
  obtain ⟨rfl, rfl, C, hw, hA, hr, hlocks, hE⟩ := e_start B hml hv
  have htab : c.exceptionTable.toList = tableOf [(0, 10, 13, 45), (0, 10, 17, 13)] := x_tab B (C.2.2.2.2.1 _ List.mem_cons_self)
  have hx := C.1
  have hb := C.2.1
  have hl := lv_entry ([.ref x, .int j, .int w, .ref jo]) (n := 5) (Nat.le_of_ble_eq_true rfl)
  rw [lg_entry_eq]
  generalize (lg_sl ([.ref x, .int j, .int w, .ref jo]) ++ List.replicate (5 - (lg_sl ([.ref x, .int j, .int w, .ref jo])).length) Slot.unset).toArray = ls at hl ⊢
  have hl : lv_has ls 5 [(0, .ref x), (1, .int j), (2, .int w), (3, .ref jo)] := hl
  refine lv_aload_n hx hb dL_ofStage_0 rfl (lv_at hl 3 rfl) ?_
  refine lv_iconst (v := nI 0) hx hb dL_ofStage_1 (by decide) ?_
  refine lv_aload_n hx hb dL_ofStage_2 rfl (lv_at hl 0 rfl) ?_
  refine lv_iload_n hx hb dL_ofStage_3 rfl (lv_at hl 1 rfl) ?_
  refine lv_iload_n hx hb dL_ofStage_4 rfl (lv_at hl 2 rfl) ?_
  refine x_calli (vx_runV (As := [.int j, .int w]) (rest := [.int (nI 0), .ref jo]) C.fix (e_X11_ofStage l hflags D cy ed S s.heap.size x ch ln sl mk co ca su lt lk j w hL_x hf_x hL_ch hf_ch ) (cwV 2 C.2.2.2.2.1 (gU_V mw_763 mw_764 mw_765 mw_2 (subU mw_766)) rfl rfl rfl hde_L_ofStage_V_0 ⟨Nat.le_of_ble_eq_true rfl, Nat.le_of_ble_eq_true rfl⟩) (e_preV C hw hA hE hL_x hf_x rfl) rfl rfl hl.1 rfl (lv_room (Nat.le_of_ble_eq_true rfl)) dL_ofStage_5 ⟨(Nat.le_of_ble_eq_true rfl), (Nat.le_of_ble_eq_true rfl)⟩) hw hA (fun E9 ce9 q9 S1 H locs hpost hw hce9 hcv9 hcl9 => ?_) (fun r2 S1 H locs hpost hw => ?_)
  · skip
    obtain ⟨rfl, hcx, hS_⟩ := hpost
    subst hS_
    refine x_catch C (E := "java/lang/IndexOutOfBoundsException") (x := ⟨0, 10, 13, 45⟩) (suf := tableOf [(0, 10, 17, 13)]) (htab.trans rfl) hce9 hcv9 hcl9 hE 2 rfl mw_728 rfl (by decide) ?_
    refine lv_astore (lv' := [(4, .ref q9), (0, .ref x), (1, .int j), (2, .int w), (3, .ref jo)]) hx hb dL_ofStage_13 hl (by decide) rfl (fun ls hl => ?_)
    refine lv_iconst (v := nI 1) hx hb dL_ofStage_15 (by decide) ?_
    refine vx_ret ?_
    exact (p_iret C hw (⟨rfl, rfl⟩) hr hlocks dL_ofStage_16)
  obtain ⟨hc3, hr_, hS_⟩ := hpost
  subst hS_
  exact hc3.elim

theorem hde_L_bit_V_0 : yX11_bit.cls = RX11 ∧ yX11_bit.cls ≠ "java/lang/invoke/MethodHandle" ∧ yX11_bit.cls ≠ "java/lang/invoke/VarHandle" ∧ (parseMethodDescriptor yX11_bit.desc).map (fun d => d.parameters.length) = some 2 := by decide +kernel
set_option maxHeartbeats 4000000 in
set_option maxRecDepth 100000 in
/-- bit -/
theorem e_L_bit (l : Launch) (hflags : l.stackTraces = false) (D : va_G) (cy : Nat → ClassId) (ed : Nat) (S : pS) (sz : Nat) (x : Nat) (jo : Nat) (ch : Nat) (ln : Nat) (sl : Nat) (mk : Nat) (co : Nat) (ca : Nat) (su : Nat) (lt : Nat) (lk : Nat) (col : Nat) (con : Nat) (cor0 : Nat) (cor1 : Nat) (cor2 : Nat) (cor3 : Nat) (cor4 : Nat) (cob0 : Nat) (j : Int32) (w : Int32) (hL_x : x ∈ S.1) (hf_x : S.2 x = .inr (11, [.ref ch, .ref ln, .ref sl, .ref mk, .ref co, .ref ca, .ref su, .ref lt])) (hL_ch : ch ∈ S.1) (hf_ch : S.2 ch = .inr (2, [.ref lk, .int (nI 0)])) (hL_co : co ∈ S.1) (hf_co : S.2 co = .inr (5, [.ref col, .ref con])) (hL_col : col ∈ S.1) (hf_col : S.2 col = aQ (cy 2) 5 (va_up (va_up (va_up (va_up (va_up (fun _ => none) 0 (some cor0)) 1 (some cor1)) 2 (some cor2)) 3 (some cor3)) 4 (some cor4))) (hL_cor0 : cor0 ∈ S.1) (hf_cor0 : S.2 cor0 = .inr (8, [.ref cob0, .int (nI 0)]))  : vx_Met l yL_bit (Cond.codeWith yL_bit cL_bit 5 (some .int) [(0, 10, 13, 45), (0, 10, 17, 13)] :: lwU) ({ frames := 7, cells := 1, slots := 6, locals := 104 }) (ePc D cy ed S sz [.ref x, .int j, .int w, .ref jo]) (pQi D cy S sz (fun r S' => r = (nI 1) ∧ S = S')) (pX D S sz (fun _ _ => False)) 1 6 (pA S sz) := by
  refine vx_ofWH (cc := cL_bit) (maxL := 5) (ret := (some .int)) (hh := [(0, 10, 13, 45), (0, 10, 17, 13)]) (by decide) rfl ?_
  intro p e s m args below meth c s₁ B hml hv
  obtain ⟨rfl, rfl, C, hw, hA, hr, hlocks, hE⟩ := e_start B hml hv
  have htab : c.exceptionTable.toList = tableOf [(0, 10, 13, 45), (0, 10, 17, 13)] := x_tab B (C.2.2.2.2.1 _ List.mem_cons_self)
  have hx := C.1
  have hb := C.2.1
  have hl := lv_entry ([.ref x, .int j, .int w, .ref jo]) (n := 5) (Nat.le_of_ble_eq_true rfl)
  rw [lg_entry_eq]
  generalize (lg_sl ([.ref x, .int j, .int w, .ref jo]) ++ List.replicate (5 - (lg_sl ([.ref x, .int j, .int w, .ref jo])).length) Slot.unset).toArray = ls at hl ⊢
  have hl : lv_has ls 5 [(0, .ref x), (1, .int j), (2, .int w), (3, .ref jo)] := hl
  refine lv_aload_n hx hb dL_bit_0 rfl (lv_at hl 3 rfl) ?_
  refine lv_iconst (v := nI 0) hx hb dL_bit_1 (by decide) ?_
  refine lv_aload_n hx hb dL_bit_2 rfl (lv_at hl 0 rfl) ?_
  refine lv_iload_n hx hb dL_bit_3 rfl (lv_at hl 1 rfl) ?_
  refine lv_iload_n hx hb dL_bit_4 rfl (lv_at hl 2 rfl) ?_
  refine x_calli (vx_runV (As := [.int j, .int w]) (rest := [.int (nI 0), .ref jo]) C.fix (e_X11_bit l hflags D cy ed S s.heap.size x ch ln sl mk co ca su lt lk col con cor0 cor1 cor2 cor3 cor4 cob0 j w hL_x hf_x hL_ch hf_ch hL_co hf_co hL_col hf_col hL_cor0 hf_cor0 ) (cwV 2 C.2.2.2.2.1 (gU_V mw_891 mw_892 mw_893 mw_2 (subU mw_894)) rfl rfl rfl hde_L_bit_V_0 ⟨Nat.le_of_ble_eq_true rfl, Nat.le_of_ble_eq_true rfl⟩) (e_preV C hw hA hE hL_x hf_x rfl) rfl rfl hl.1 rfl (lv_room (Nat.le_of_ble_eq_true rfl)) dL_bit_5 ⟨(Nat.le_of_ble_eq_true rfl), (Nat.le_of_ble_eq_true rfl)⟩) hw hA (fun E9 ce9 q9 S1 H locs hpost hw hce9 hcv9 hcl9 => ?_) (fun r2 S1 H locs hpost hw => ?_)
  · skip
    obtain ⟨rfl, hcx, hS_⟩ := hpost
    subst hS_
    refine x_catch C (E := "java/lang/IndexOutOfBoundsException") (x := ⟨0, 10, 13, 45⟩) (suf := tableOf [(0, 10, 17, 13)]) (htab.trans rfl) hce9 hcv9 hcl9 hE 2 rfl mw_728 rfl (by decide) ?_
    refine lv_astore (lv' := [(4, .ref q9), (0, .ref x), (1, .int j), (2, .int w), (3, .ref jo)]) hx hb dL_bit_13 hl (by decide) rfl (fun ls hl => ?_)
    refine lv_iconst (v := nI 1) hx hb dL_bit_15 (by decide) ?_
    refine vx_ret ?_
    exact (p_iret C hw (⟨rfl, rfl⟩) hr hlocks dL_bit_16)
  obtain ⟨hc3, hr_, hS_⟩ := hpost
  subst hS_
  exact hc3.elim

theorem hde_L_told_V_0 : yX11_told.cls = RX11 ∧ yX11_told.cls ≠ "java/lang/invoke/MethodHandle" ∧ yX11_told.cls ≠ "java/lang/invoke/VarHandle" ∧ (parseMethodDescriptor yX11_told.desc).map (fun d => d.parameters.length) = some 2 := by decide +kernel
set_option maxHeartbeats 4000000 in
set_option maxRecDepth 100000 in
/-- told -/
theorem e_L_told (l : Launch) (hflags : l.stackTraces = false) (D : va_G) (cy : Nat → ClassId) (ed : Nat) (S : pS) (sz : Nat) (x : Nat) (jo : Nat) (ch : Nat) (ln : Nat) (sl : Nat) (mk : Nat) (co : Nat) (ca : Nat) (su : Nat) (lt : Nat) (col : Nat) (con : Nat) (cor0 : Nat) (cor1 : Nat) (cor2 : Nat) (cor3 : Nat) (cor4 : Nat) (cob0 : Nat) (j : Int32) (w : Int32) (hL_x : x ∈ S.1) (hf_x : S.2 x = .inr (11, [.ref ch, .ref ln, .ref sl, .ref mk, .ref co, .ref ca, .ref su, .ref lt])) (hL_co : co ∈ S.1) (hf_co : S.2 co = .inr (5, [.ref col, .ref con])) (hL_col : col ∈ S.1) (hf_col : S.2 col = aQ (cy 2) 5 (va_up (va_up (va_up (va_up (va_up (fun _ => none) 0 (some cor0)) 1 (some cor1)) 2 (some cor2)) 3 (some cor3)) 4 (some cor4))) (hL_cor0 : cor0 ∈ S.1) (hf_cor0 : S.2 cor0 = .inr (8, [.ref cob0, .int (nI 0)]))  : vx_Met l yL_told (Cond.codeWith yL_told cL_told 5 (some .int) [(0, 10, 13, 45), (0, 10, 17, 13)] :: lwU) ({ frames := 7, cells := 1, slots := 6, locals := 104 }) (ePc D cy ed S sz [.ref x, .int j, .int w, .ref jo]) (pQi D cy S sz (fun r S' => r = (nI 1) ∧ S = S')) (pX D S sz (fun _ _ => False)) 1 6 (pA S sz) := by
  refine vx_ofWH (cc := cL_told) (maxL := 5) (ret := (some .int)) (hh := [(0, 10, 13, 45), (0, 10, 17, 13)]) (by decide) rfl ?_
  intro p e s m args below meth c s₁ B hml hv
  obtain ⟨rfl, rfl, C, hw, hA, hr, hlocks, hE⟩ := e_start B hml hv
  have htab : c.exceptionTable.toList = tableOf [(0, 10, 13, 45), (0, 10, 17, 13)] := x_tab B (C.2.2.2.2.1 _ List.mem_cons_self)
  have hx := C.1
  have hb := C.2.1
  have hl := lv_entry ([.ref x, .int j, .int w, .ref jo]) (n := 5) (Nat.le_of_ble_eq_true rfl)
  rw [lg_entry_eq]
  generalize (lg_sl ([.ref x, .int j, .int w, .ref jo]) ++ List.replicate (5 - (lg_sl ([.ref x, .int j, .int w, .ref jo])).length) Slot.unset).toArray = ls at hl ⊢
  have hl : lv_has ls 5 [(0, .ref x), (1, .int j), (2, .int w), (3, .ref jo)] := hl
  refine lv_aload_n hx hb dL_told_0 rfl (lv_at hl 3 rfl) ?_
  refine lv_iconst (v := nI 0) hx hb dL_told_1 (by decide) ?_
  refine lv_aload_n hx hb dL_told_2 rfl (lv_at hl 0 rfl) ?_
  refine lv_iload_n hx hb dL_told_3 rfl (lv_at hl 1 rfl) ?_
  refine lv_iload_n hx hb dL_told_4 rfl (lv_at hl 2 rfl) ?_
  refine x_calli (vx_runV (As := [.int j, .int w]) (rest := [.int (nI 0), .ref jo]) C.fix (e_X11_told l hflags D cy ed S s.heap.size x ch ln sl mk co ca su lt col con cor0 cor1 cor2 cor3 cor4 cob0 j w hL_x hf_x hL_co hf_co hL_col hf_col hL_cor0 hf_cor0 ) (cwV 2 C.2.2.2.2.1 (gU_V mw_903 mw_904 mw_905 mw_2 (subU mw_906)) rfl rfl rfl hde_L_told_V_0 ⟨Nat.le_of_ble_eq_true rfl, Nat.le_of_ble_eq_true rfl⟩) (e_preV C hw hA hE hL_x hf_x rfl) rfl rfl hl.1 rfl (lv_room (Nat.le_of_ble_eq_true rfl)) dL_told_5 ⟨(Nat.le_of_ble_eq_true rfl), (Nat.le_of_ble_eq_true rfl)⟩) hw hA (fun E9 ce9 q9 S1 H locs hpost hw hce9 hcv9 hcl9 => ?_) (fun r2 S1 H locs hpost hw => ?_)
  · skip
    obtain ⟨rfl, hcx, hS_⟩ := hpost
    subst hS_
    refine x_catch C (E := "java/lang/IndexOutOfBoundsException") (x := ⟨0, 10, 13, 45⟩) (suf := tableOf [(0, 10, 17, 13)]) (htab.trans rfl) hce9 hcv9 hcl9 hE 2 rfl mw_728 rfl (by decide) ?_
    refine lv_astore (lv' := [(4, .ref q9), (0, .ref x), (1, .int j), (2, .int w), (3, .ref jo)]) hx hb dL_told_13 hl (by decide) rfl (fun ls hl => ?_)
    refine lv_iconst (v := nI 1) hx hb dL_told_15 (by decide) ?_
    refine vx_ret ?_
    exact (p_iret C hw (⟨rfl, rfl⟩) hr hlocks dL_told_16)
  obtain ⟨hc3, hr_, hS_⟩ := hpost
  subst hS_
  exact hc3.elim

theorem hde_L_distance_V_0 : yX11_distance.cls = RX11 ∧ yX11_distance.cls ≠ "java/lang/invoke/MethodHandle" ∧ yX11_distance.cls ≠ "java/lang/invoke/VarHandle" ∧ (parseMethodDescriptor yX11_distance.desc).map (fun d => d.parameters.length) = some 1 := by decide +kernel
set_option maxHeartbeats 4000000 in
set_option maxRecDepth 100000 in
/-- distance -/
theorem e_L_distance (l : Launch) (hflags : l.stackTraces = false) (D : va_G) (cy : Nat → ClassId) (ed : Nat) (S : pS) (sz : Nat) (x : Nat) (jo : Nat) (ch : Nat) (ln : Nat) (sl : Nat) (mk : Nat) (co : Nat) (ca : Nat) (su : Nat) (lt : Nat) (lk : Nat) (j : Int32) (hL_x : x ∈ S.1) (hf_x : S.2 x = .inr (11, [.ref ch, .ref ln, .ref sl, .ref mk, .ref co, .ref ca, .ref su, .ref lt])) (hL_ch : ch ∈ S.1) (hf_ch : S.2 ch = .inr (2, [.ref lk, .int (nI 0)]))  : vx_Met l yL_distance (Cond.codeWith yL_distance cL_distance 4 (some .int) [(0, 9, 12, 45)] :: lwU) ({ frames := 7, cells := 1, slots := 6, locals := 104 }) (ePc D cy ed S sz [.ref x, .int j, .ref jo]) (pQi D cy S sz (fun r S' => r = (nI 1) ∧ S = S')) (pX D S sz (fun _ _ => False)) 1 6 (pA S sz) := by
  refine vx_ofWH (cc := cL_distance) (maxL := 4) (ret := (some .int)) (hh := [(0, 9, 12, 45)]) (by decide) rfl ?_
  intro p e s m args below meth c s₁ B hml hv
  obtain ⟨rfl, rfl, C, hw, hA, hr, hlocks, hE⟩ := e_start B hml hv
  have htab : c.exceptionTable.toList = tableOf [(0, 9, 12, 45)] := x_tab B (C.2.2.2.2.1 _ List.mem_cons_self)
  have hx := C.1
  have hb := C.2.1
  have hl := lv_entry ([.ref x, .int j, .ref jo]) (n := 4) (Nat.le_of_ble_eq_true rfl)
  rw [lg_entry_eq]
  generalize (lg_sl ([.ref x, .int j, .ref jo]) ++ List.replicate (4 - (lg_sl ([.ref x, .int j, .ref jo])).length) Slot.unset).toArray = ls at hl ⊢
  have hl : lv_has ls 4 [(0, .ref x), (1, .int j), (2, .ref jo)] := hl
  refine lv_aload_n hx hb dL_distance_0 rfl (lv_at hl 2 rfl) ?_
  refine lv_iconst (v := nI 0) hx hb dL_distance_1 (by decide) ?_
  refine lv_aload_n hx hb dL_distance_2 rfl (lv_at hl 0 rfl) ?_
  refine lv_iload_n hx hb dL_distance_3 rfl (lv_at hl 1 rfl) ?_
  refine x_calli (vx_runV (As := [.int j]) (rest := [.int (nI 0), .ref jo]) C.fix (e_X11_distance l hflags D cy ed S s.heap.size x ch ln sl mk co ca su lt lk j hL_x hf_x hL_ch hf_ch ) (cwV 1 C.2.2.2.2.1 (gU_V mw_950 mw_951 mw_952 mw_2 (subU mw_953)) rfl rfl rfl hde_L_distance_V_0 ⟨Nat.le_of_ble_eq_true rfl, Nat.le_of_ble_eq_true rfl⟩) (e_preV C hw hA hE hL_x hf_x rfl) rfl rfl hl.1 rfl (lv_room (Nat.le_of_ble_eq_true rfl)) dL_distance_4 ⟨(Nat.le_of_ble_eq_true rfl), (Nat.le_of_ble_eq_true rfl)⟩) hw hA (fun E9 ce9 q9 S1 H locs hpost hw hce9 hcv9 hcl9 => ?_) (fun r2 S1 H locs hpost hw => ?_)
  · skip
    obtain ⟨rfl, hcx, hS_⟩ := hpost
    subst hS_
    refine x_catch C (E := "java/lang/IndexOutOfBoundsException") (x := ⟨0, 9, 12, 45⟩) (suf := tableOf []) (htab.trans rfl) hce9 hcv9 hcl9 hE 2 rfl mw_728 rfl (by decide) ?_
    refine lv_astore_n (lv' := [(3, .ref q9), (0, .ref x), (1, .int j), (2, .ref jo)]) hx hb dL_distance_12 rfl hl (by decide) rfl (fun ls hl => ?_)
    refine lv_iconst (v := nI 1) hx hb dL_distance_13 (by decide) ?_
    refine vx_ret ?_
    exact (p_iret C hw (⟨rfl, rfl⟩) hr hlocks dL_distance_14)
  obtain ⟨hc3, hr_, hS_⟩ := hpost
  subst hS_
  exact hc3.elim

theorem hde_L_words_V_0 : yX11_words.cls = RX11 ∧ yX11_words.cls ≠ "java/lang/invoke/MethodHandle" ∧ yX11_words.cls ≠ "java/lang/invoke/VarHandle" ∧ (parseMethodDescriptor yX11_words.desc).map (fun d => d.parameters.length) = some 2 := by decide +kernel
set_option maxHeartbeats 4000000 in
set_option maxRecDepth 100000 in
/-- words -/
theorem e_L_words (l : Launch) (hflags : l.stackTraces = false) (D : va_G) (cy : Nat → ClassId) (ed : Nat) (S : pS) (sz : Nat) (x : Nat) (jo : Nat) (ch : Nat) (ln : Nat) (sl : Nat) (mk : Nat) (co : Nat) (ca : Nat) (su : Nat) (lt : Nat) (lk : Nat) (j : Int32) (w : Int32) (hL_x : x ∈ S.1) (hf_x : S.2 x = .inr (11, [.ref ch, .ref ln, .ref sl, .ref mk, .ref co, .ref ca, .ref su, .ref lt])) (hL_ch : ch ∈ S.1) (hf_ch : S.2 ch = .inr (2, [.ref lk, .int (nI 0)]))  : vx_Met l yL_words (Cond.codeWith yL_words cL_words 5 (some .int) [(0, 10, 13, 45), (0, 10, 17, 13)] :: lwU) ({ frames := 7, cells := 1, slots := 6, locals := 105 }) (ePc D cy ed S sz [.ref x, .int j, .int w, .ref jo]) (pQi D cy S sz (fun r S' => r = (nI 1) ∧ S = S')) (pX D S sz (fun _ _ => False)) 1 6 (pA S sz) := by
  refine vx_ofWH (cc := cL_words) (maxL := 5) (ret := (some .int)) (hh := [(0, 10, 13, 45), (0, 10, 17, 13)]) (by decide) rfl ?_
  intro p e s m args below meth c s₁ B hml hv
  obtain ⟨rfl, rfl, C, hw, hA, hr, hlocks, hE⟩ := e_start B hml hv
  have htab : c.exceptionTable.toList = tableOf [(0, 10, 13, 45), (0, 10, 17, 13)] := x_tab B (C.2.2.2.2.1 _ List.mem_cons_self)
  have hx := C.1
  have hb := C.2.1
  have hl := lv_entry ([.ref x, .int j, .int w, .ref jo]) (n := 5) (Nat.le_of_ble_eq_true rfl)
  rw [lg_entry_eq]
  generalize (lg_sl ([.ref x, .int j, .int w, .ref jo]) ++ List.replicate (5 - (lg_sl ([.ref x, .int j, .int w, .ref jo])).length) Slot.unset).toArray = ls at hl ⊢
  have hl : lv_has ls 5 [(0, .ref x), (1, .int j), (2, .int w), (3, .ref jo)] := hl
  refine lv_aload_n hx hb dL_words_0 rfl (lv_at hl 3 rfl) ?_
  refine lv_iconst (v := nI 0) hx hb dL_words_1 (by decide) ?_
  refine lv_aload_n hx hb dL_words_2 rfl (lv_at hl 0 rfl) ?_
  refine lv_iload_n hx hb dL_words_3 rfl (lv_at hl 1 rfl) ?_
  refine lv_iload_n hx hb dL_words_4 rfl (lv_at hl 2 rfl) ?_
  refine x_calli (vx_runV (As := [.int j, .int w]) (rest := [.int (nI 0), .ref jo]) C.fix (e_X11_words l hflags D cy ed S s.heap.size x ch ln sl mk co ca su lt lk j w hL_x hf_x hL_ch hf_ch ) (cwV 2 C.2.2.2.2.1 (gU_V mw_994 mw_995 mw_996 mw_2 (subU mw_997)) rfl rfl rfl hde_L_words_V_0 ⟨Nat.le_of_ble_eq_true rfl, Nat.le_of_ble_eq_true rfl⟩) (e_preV C hw hA hE hL_x hf_x rfl) rfl rfl hl.1 rfl (lv_room (Nat.le_of_ble_eq_true rfl)) dL_words_5 ⟨(Nat.le_of_ble_eq_true rfl), (Nat.le_of_ble_eq_true rfl)⟩) hw hA (fun E9 ce9 q9 S1 H locs hpost hw hce9 hcv9 hcl9 => ?_) (fun r2 S1 H locs hpost hw => ?_)
  · skip
    obtain ⟨rfl, hcx, hS_⟩ := hpost
    subst hS_
    refine x_catch C (E := "java/lang/IndexOutOfBoundsException") (x := ⟨0, 10, 13, 45⟩) (suf := tableOf [(0, 10, 17, 13)]) (htab.trans rfl) hce9 hcv9 hcl9 hE 2 rfl mw_728 rfl (by decide) ?_
    refine lv_astore (lv' := [(4, .ref q9), (0, .ref x), (1, .int j), (2, .int w), (3, .ref jo)]) hx hb dL_words_13 hl (by decide) rfl (fun ls hl => ?_)
    refine lv_iconst (v := nI 1) hx hb dL_words_15 (by decide) ?_
    refine vx_ret ?_
    exact (p_iret C hw (⟨rfl, rfl⟩) hr hlocks dL_words_16)
  obtain ⟨hc3, hr_, hS_⟩ := hpost
  subst hS_
  exact hc3.elim

theorem hde_L_errorsWith_V_0 : yX11_errorsWith.cls = RX11 ∧ yX11_errorsWith.cls ≠ "java/lang/invoke/MethodHandle" ∧ yX11_errorsWith.cls ≠ "java/lang/invoke/VarHandle" ∧ (parseMethodDescriptor yX11_errorsWith.desc).map (fun d => d.parameters.length) = some 1 := by decide +kernel
set_option maxHeartbeats 4000000 in
set_option maxRecDepth 100000 in
/-- errorsWith -/
theorem e_L_errorsWith (l : Launch) (hflags : l.stackTraces = false) (D : va_G) (cy : Nat → ClassId) (ed : Nat) (S : pS) (sz : Nat) (x : Nat) (jo : Nat) (ch : Nat) (ln : Nat) (sl : Nat) (mk : Nat) (co : Nat) (ca : Nat) (su : Nat) (lt : Nat) (lk : Nat) (col : Nat) (con : Nat) (cor0 : Nat) (cor1 : Nat) (cor2 : Nat) (cor3 : Nat) (cor4 : Nat) (cob0 : Nat) (j : Int32) (hL_x : x ∈ S.1) (hf_x : S.2 x = .inr (11, [.ref ch, .ref ln, .ref sl, .ref mk, .ref co, .ref ca, .ref su, .ref lt])) (hL_ch : ch ∈ S.1) (hf_ch : S.2 ch = .inr (2, [.ref lk, .int (nI 0)])) (hL_co : co ∈ S.1) (hf_co : S.2 co = .inr (5, [.ref col, .ref con])) (hL_col : col ∈ S.1) (hf_col : S.2 col = aQ (cy 2) 5 (va_up (va_up (va_up (va_up (va_up (fun _ => none) 0 (some cor0)) 1 (some cor1)) 2 (some cor2)) 3 (some cor3)) 4 (some cor4))) (hL_cor0 : cor0 ∈ S.1) (hf_cor0 : S.2 cor0 = .inr (8, [.ref cob0, .int (nI 0)]))  : vx_Met l yL_errorsWith (Cond.codeWith yL_errorsWith cL_errorsWith 4 (some .int) [(0, 9, 12, 45)] :: lwU) ({ frames := 7, cells := 1, slots := 6, locals := 103 }) (ePc D cy ed S sz [.ref x, .int j, .ref jo]) (pQi D cy S sz (fun r S' => r = (nI 1) ∧ S = S')) (pX D S sz (fun _ _ => False)) 1 6 (pA S sz) := by
  refine vx_ofWH (cc := cL_errorsWith) (maxL := 4) (ret := (some .int)) (hh := [(0, 9, 12, 45)]) (by decide) rfl ?_
  intro p e s m args below meth c s₁ B hml hv
  obtain ⟨rfl, rfl, C, hw, hA, hr, hlocks, hE⟩ := e_start B hml hv
  have htab : c.exceptionTable.toList = tableOf [(0, 9, 12, 45)] := x_tab B (C.2.2.2.2.1 _ List.mem_cons_self)
  have hx := C.1
  have hb := C.2.1
  have hl := lv_entry ([.ref x, .int j, .ref jo]) (n := 4) (Nat.le_of_ble_eq_true rfl)
  rw [lg_entry_eq]
  generalize (lg_sl ([.ref x, .int j, .ref jo]) ++ List.replicate (4 - (lg_sl ([.ref x, .int j, .ref jo])).length) Slot.unset).toArray = ls at hl ⊢
  have hl : lv_has ls 4 [(0, .ref x), (1, .int j), (2, .ref jo)] := hl
  refine lv_aload_n hx hb dL_errorsWith_0 rfl (lv_at hl 2 rfl) ?_
  refine lv_iconst (v := nI 0) hx hb dL_errorsWith_1 (by decide) ?_
  refine lv_aload_n hx hb dL_errorsWith_2 rfl (lv_at hl 0 rfl) ?_
  refine lv_iload_n hx hb dL_errorsWith_3 rfl (lv_at hl 1 rfl) ?_
  refine x_calli (vx_runV (As := [.int j]) (rest := [.int (nI 0), .ref jo]) C.fix (e_X11_errorsWith l hflags D cy ed S s.heap.size x ch ln sl mk co ca su lt lk col con cor0 cor1 cor2 cor3 cor4 cob0 j hL_x hf_x hL_ch hf_ch hL_co hf_co hL_col hf_col hL_cor0 hf_cor0 ) (cwV 1 C.2.2.2.2.1 (gU_V mw_1031 mw_1032 mw_1033 mw_2 (subU mw_1034)) rfl rfl rfl hde_L_errorsWith_V_0 ⟨Nat.le_of_ble_eq_true rfl, Nat.le_of_ble_eq_true rfl⟩) (e_preV C hw hA hE hL_x hf_x rfl) rfl rfl hl.1 rfl (lv_room (Nat.le_of_ble_eq_true rfl)) dL_errorsWith_4 ⟨(Nat.le_of_ble_eq_true rfl), (Nat.le_of_ble_eq_true rfl)⟩) hw hA (fun E9 ce9 q9 S1 H locs hpost hw hce9 hcv9 hcl9 => ?_) (fun r2 S1 H locs hpost hw => ?_)
  · skip
    obtain ⟨rfl, hcx, hS_⟩ := hpost
    subst hS_
    refine x_catch C (E := "java/lang/IndexOutOfBoundsException") (x := ⟨0, 9, 12, 45⟩) (suf := tableOf []) (htab.trans rfl) hce9 hcv9 hcl9 hE 2 rfl mw_728 rfl (by decide) ?_
    refine lv_astore_n (lv' := [(3, .ref q9), (0, .ref x), (1, .int j), (2, .ref jo)]) hx hb dL_errorsWith_12 rfl hl (by decide) rfl (fun ls hl => ?_)
    refine lv_iconst (v := nI 1) hx hb dL_errorsWith_13 (by decide) ?_
    refine vx_ret ?_
    exact (p_iret C hw (⟨rfl, rfl⟩) hr hlocks dL_errorsWith_14)
  obtain ⟨hc3, hr_, hS_⟩ := hpost
  subst hS_
  exact hc3.elim

theorem hde_L_breaks_V_0 : yX11_breaks.cls = RX11 ∧ yX11_breaks.cls ≠ "java/lang/invoke/MethodHandle" ∧ yX11_breaks.cls ≠ "java/lang/invoke/VarHandle" ∧ (parseMethodDescriptor yX11_breaks.desc).map (fun d => d.parameters.length) = some 1 := by decide +kernel
set_option maxHeartbeats 4000000 in
set_option maxRecDepth 100000 in
/-- breaks -/
theorem e_L_breaks (l : Launch) (hflags : l.stackTraces = false) (D : va_G) (cy : Nat → ClassId) (ed : Nat) (S : pS) (sz : Nat) (x : Nat) (jo : Nat) (ch : Nat) (ln : Nat) (sl : Nat) (mk : Nat) (co : Nat) (ca : Nat) (su : Nat) (lt : Nat) (lk : Nat) (col : Nat) (con : Nat) (cor0 : Nat) (cor1 : Nat) (cor2 : Nat) (cor3 : Nat) (cor4 : Nat) (cob0 : Nat) (sul : Nat) (sun : Nat) (sur0 : Nat) (sur1 : Nat) (sur2 : Nat) (sur3 : Nat) (sur4 : Nat) (sub0 : Nat) (j : Int32) (jg : Nat → Int64) (hL_x : x ∈ S.1) (hf_x : S.2 x = .inr (11, [.ref ch, .ref ln, .ref sl, .ref mk, .ref co, .ref ca, .ref su, .ref lt])) (hL_ch : ch ∈ S.1) (hf_ch : S.2 ch = .inr (2, [.ref lk, .int (nI 0)])) (hL_co : co ∈ S.1) (hf_co : S.2 co = .inr (5, [.ref col, .ref con])) (hL_col : col ∈ S.1) (hf_col : S.2 col = aQ (cy 2) 5 (va_up (va_up (va_up (va_up (va_up (fun _ => none) 0 (some cor0)) 1 (some cor1)) 2 (some cor2)) 3 (some cor3)) 4 (some cor4))) (hL_cor0 : cor0 ∈ S.1) (hf_cor0 : S.2 cor0 = .inr (8, [.ref cob0, .int (nI 0)])) (hL_cob0 : cob0 ∈ S.1) (hf_cob0 : S.2 cob0 = aN (cy 0) 32 (fun _ => 0)) (hL_su : su ∈ S.1) (hf_su : S.2 su = .inr (5, [.ref sul, .ref sun])) (hL_sul : sul ∈ S.1) (hf_sul : S.2 sul = aQ (cy 2) 5 (va_up (va_up (va_up (va_up (va_up (fun _ => none) 0 (some sur0)) 1 (some sur1)) 2 (some sur2)) 3 (some sur3)) 4 (some sur4))) (hL_sur0 : sur0 ∈ S.1) (hf_sur0 : S.2 sur0 = .inr (8, [.ref sub0, .int (nI 0)])) (hL_sub0 : sub0 ∈ S.1) (hf_sub0 : S.2 sub0 = aN (cy 0) 32 (fun _ => 0)) (hL_jo : jo ∈ S.1) (hf_jo : S.2 jo = .inl (cy 6, 1, .inr (.inl jg))) (hne_cob0_sub0 : cob0 ≠ sub0) (hne_cor0_sur0 : cor0 ≠ sur0) (hne_jo_sub0 : jo ≠ sub0) : vx_Met l yL_breaks (Cond.codeWith yL_breaks cL_breaks 4 (some .int) [(0, 9, 12, 13)] :: lwU) ({ frames := 7, cells := 1, slots := 6, locals := 106 }) (ePc D cy ed S sz [.ref x, .int j, .ref jo]) (pQi D cy S sz (fun r S' => ((okM j) ∧ r = (nI 0) ∧ S'.1 = S.1 ++ [] ∧ (∀ a_, a_ ∈ S.1 → a_ ≠ sub0 → a_ ≠ jo → S'.2 a_ = S.2 a_) ∧ S'.2 jo = .inl (cy 6, 1, .inr (.inl (vp_updL jg 0 ((nI 0)).toInt64)))) ∨ ((¬ okM j) ∧ r = (nI 1) ∧ S = S'))) (pX D S sz (fun _ _ => False)) 1 6 (pA S sz) := by
  refine vx_ofWH (cc := cL_breaks) (maxL := 4) (ret := (some .int)) (hh := [(0, 9, 12, 13)]) (by decide) rfl ?_
  intro p e s m args below meth c s₁ B hml hv
  obtain ⟨rfl, rfl, C, hw, hA, hr, hlocks, hE⟩ := e_start B hml hv
  have htab : c.exceptionTable.toList = tableOf [(0, 9, 12, 13)] := x_tab B (C.2.2.2.2.1 _ List.mem_cons_self)
  have hx := C.1
  have hb := C.2.1
  have hl := lv_entry ([.ref x, .int j, .ref jo]) (n := 4) (Nat.le_of_ble_eq_true rfl)
  rw [lg_entry_eq]
  generalize (lg_sl ([.ref x, .int j, .ref jo]) ++ List.replicate (4 - (lg_sl ([.ref x, .int j, .ref jo])).length) Slot.unset).toArray = ls at hl ⊢
  have hl : lv_has ls 4 [(0, .ref x), (1, .int j), (2, .ref jo)] := hl
  refine lv_aload_n hx hb dL_breaks_0 rfl (lv_at hl 2 rfl) ?_
  refine lv_iconst (v := nI 0) hx hb dL_breaks_1 (by decide) ?_
  refine lv_aload_n hx hb dL_breaks_2 rfl (lv_at hl 0 rfl) ?_
  refine lv_iload_n hx hb dL_breaks_3 rfl (lv_at hl 1 rfl) ?_
  refine x_calli (vx_runV (As := [.int j]) (rest := [.int (nI 0), .ref jo]) C.fix (e_X11_breaks l hflags D cy ed S s.heap.size x ch ln sl mk co ca su lt lk col con cor0 cor1 cor2 cor3 cor4 cob0 sul sun sur0 sur1 sur2 sur3 sur4 sub0 j hL_x hf_x hL_ch hf_ch hL_co hf_co hL_col hf_col hL_cor0 hf_cor0 hL_cob0 hf_cob0 hL_su hf_su hL_sul hf_sul hL_sur0 hf_sur0 hL_sub0 hf_sub0 hne_cob0_sub0 hne_cor0_sur0) (cwV 1 C.2.2.2.2.1 (gU_V mw_1062 mw_1063 mw_1064 mw_2 (subU mw_1065)) rfl rfl rfl hde_L_breaks_V_0 ⟨Nat.le_of_ble_eq_true rfl, Nat.le_of_ble_eq_true rfl⟩) (e_preV C hw hA hE hL_x hf_x rfl) rfl rfl hl.1 rfl (lv_room (Nat.le_of_ble_eq_true rfl)) dL_breaks_4 ⟨(Nat.le_of_ble_eq_true rfl), (Nat.le_of_ble_eq_true rfl)⟩) hw hA (fun E9 ce9 q9 S1 H locs hpost hw hce9 hcv9 hcl9 => ?_) (fun r2 S1 H locs hpost hw => ?_)
  · skip
    obtain ⟨rfl, hcx, hS_⟩ := hpost
    subst hS_
    refine x_catch C (E := "java/lang/IllegalArgumentException") (x := ⟨0, 9, 12, 13⟩) (suf := tableOf []) (htab.trans rfl) hce9 hcv9 hcl9 hE 0 rfl mw_113 rfl (by decide) ?_
    refine lv_astore_n (lv' := [(3, .ref q9), (0, .ref x), (1, .int j), (2, .ref jo)]) hx hb dL_breaks_12 rfl hl (by decide) rfl (fun ls hl => ?_)
    refine lv_iconst (v := nI 1) hx hb dL_breaks_13 (by decide) ?_
    refine vx_ret ?_
    exact (p_iret C hw ((Or.inr ⟨(by first | trivial | assumption | omega), rfl, rfl⟩)) hr hlocks dL_breaks_14)
  obtain ⟨hc3, hr_, hS4, hfr5⟩ := hpost
  subst hr_
  refine lv_i2l hx hb dL_breaks_7 rfl ?_
  have hL6 : jo ∈ S1.1 := by rw [hS4]; exact List.mem_append_left _ hL_jo
  have hf7 : S1.2 jo = .inl (cy 6, 1, .inr (.inl jg)) := (hfr5 jo hL_jo hne_jo_sub0).trans hf_jo
  refine p_last C hw 6 rfl hL6 hf7 (by decide) (by decide) dL_breaks_8 (fun H locs hw => ?_)
  obtain ⟨S8, hS8⟩ : ∃ z, z = pup S1 jo (.inl (cy 6, 1, .inr (.inl (vp_updL jg 0 (((nI 0)).toInt64))))) := ⟨_, rfl⟩
  replace hw : pW D (pA S s.heap.size) s.heap S8 H locs := by rw [hS8]; exact hw
  have hL9 : jo ∈ S8.1 := by rw [hS8]; exact hL6
  have hf10 : S8.2 jo = .inl (cy 6, 1, .inr (.inl (vp_updL jg 0 (((nI 0)).toInt64)))) := by rw [hS8]; exact pup_s
  refine lv_goto (tgt := 15) hx hb dL_breaks_9 (by decide) ?_
  refine lv_iconst (v := nI 0) hx hb dL_breaks_15 (by decide) ?_
  refine vx_ret ?_
  exact (p_iret C hw ((Or.inl ⟨(by first | trivial | assumption | omega), rfl, (by simp only [hS8, hS4, pup, pnew, List.append_nil, List.append_assoc, List.cons_append, List.nil_append]), (fun a_ ha_ hn_0 hn_1 => ((show S8.2 a_ = S1.2 a_ from by rw [hS8]; exact pup_n hn_1).trans (hfr5 a_ ha_ hn_0))), hf10⟩)) hr hlocks dL_breaks_16)

theorem hde_L_meanErrors_V_0 : yX11_meanErrors.cls = RX11 ∧ yX11_meanErrors.cls ≠ "java/lang/invoke/MethodHandle" ∧ yX11_meanErrors.cls ≠ "java/lang/invoke/VarHandle" ∧ (parseMethodDescriptor yX11_meanErrors.desc).map (fun d => d.parameters.length) = some 2 := by decide +kernel
set_option maxHeartbeats 4000000 in
set_option maxRecDepth 100000 in
/-- meanErrors -/
theorem e_L_meanErrors (l : Launch) (hflags : l.stackTraces = false) (D : va_G) (cy : Nat → ClassId) (ed : Nat) (S : pS) (sz : Nat) (x : Nat) (dd : Nat) (ch : Nat) (ln : Nat) (sl : Nat) (mk : Nat) (co : Nat) (ca : Nat) (su : Nat) (lt : Nat) (lk : Nat) (mb : Nat) (col : Nat) (con : Nat) (cor0 : Nat) (cor1 : Nat) (cor2 : Nat) (cor3 : Nat) (cor4 : Nat) (cob0 : Nat) (sul : Nat) (sun : Nat) (sur0 : Nat) (sur1 : Nat) (sur2 : Nat) (sur3 : Nat) (sur4 : Nat) (sub0 : Nat) (pp : Int32) (rr : Int32) (dg : Nat → UInt64) (hL_x : x ∈ S.1) (hf_x : S.2 x = .inr (11, [.ref ch, .ref ln, .ref sl, .ref mk, .ref co, .ref ca, .ref su, .ref lt])) (hL_ch : ch ∈ S.1) (hf_ch : S.2 ch = .inr (2, [.ref lk, .int (nI 0)])) (hL_sl : sl ∈ S.1) (hf_sl : S.2 sl = .inr (6, [.int (nI 0), .int (nI 0), .int (nI 0), .int (nI 0)])) (hL_mk : mk ∈ S.1) (hf_mk : S.2 mk = .inr (8, [.ref mb, .int (nI 320)])) (hL_mb : mb ∈ S.1) (hf_mb : S.2 mb = aN (cy 0) 320 (fun _ => 0)) (hL_co : co ∈ S.1) (hf_co : S.2 co = .inr (5, [.ref col, .ref con])) (hL_col : col ∈ S.1) (hf_col : S.2 col = aQ (cy 2) 5 (va_up (va_up (va_up (va_up (va_up (fun _ => none) 0 (some cor0)) 1 (some cor1)) 2 (some cor2)) 3 (some cor3)) 4 (some cor4))) (hL_cor0 : cor0 ∈ S.1) (hf_cor0 : S.2 cor0 = .inr (8, [.ref cob0, .int (nI 0)])) (hL_cob0 : cob0 ∈ S.1) (hf_cob0 : S.2 cob0 = aN (cy 0) 32 (fun _ => 0)) (hL_su : su ∈ S.1) (hf_su : S.2 su = .inr (5, [.ref sul, .ref sun])) (hL_sul : sul ∈ S.1) (hf_sul : S.2 sul = aQ (cy 2) 5 (va_up (va_up (va_up (va_up (va_up (fun _ => none) 0 (some sur0)) 1 (some sur1)) 2 (some sur2)) 3 (some sur3)) 4 (some sur4))) (hL_sur0 : sur0 ∈ S.1) (hf_sur0 : S.2 sur0 = .inr (8, [.ref sub0, .int (nI 0)])) (hL_sub0 : sub0 ∈ S.1) (hf_sub0 : S.2 sub0 = aN (cy 0) 32 (fun _ => 0)) (hL_dd : dd ∈ S.1) (hf_dd : S.2 dd = .inl (cy 7, 1, .inr (.inr (.inr (.inl dg))))) (hne_mk_sur0 : mk ≠ sur0) (hne_mb_sub0 : mb ≠ sub0) (hne_cor0_sur0 : cor0 ≠ sur0) (hne_cob0_sub0 : cob0 ≠ sub0) (hne_dd_sub0 : dd ≠ sub0) : vx_Met l yL_meanErrors (Cond.codeWith yL_meanErrors cL_meanErrors 5 (some .int) [(0, 9, 12, 13)] :: lwU) ({ frames := 7, cells := 1, slots := 6, locals := 135 }) (ePc D cy ed S sz [.ref x, .int pp, .int rr, .ref dd]) (pQi D cy S sz (fun r S' => ((okE pp rr) ∧ r = (nI 0) ∧ S'.1 = S.1 ++ [] ∧ (∀ a_, a_ ∈ S.1 → a_ ≠ sl → a_ ≠ sur0 → a_ ≠ sub0 → a_ ≠ dd → S'.2 a_ = S.2 a_) ∧ S'.2 dd = .inl (cy 7, 1, .inr (.inr (.inr (.inl (vf_upd dg 0 FP.dconst0)))))) ∨ ((¬ okE pp rr) ∧ r = (nI 1) ∧ S = S'))) (pX D S sz (fun _ _ => False)) 1 6 (pA S sz) := by
  refine vx_ofWH (cc := cL_meanErrors) (maxL := 5) (ret := (some .int)) (hh := [(0, 9, 12, 13)]) (by decide) rfl ?_
  intro p e s m args below meth c s₁ B hml hv
  obtain ⟨rfl, rfl, C, hw, hA, hr, hlocks, hE⟩ := e_start B hml hv
  have htab : c.exceptionTable.toList = tableOf [(0, 9, 12, 13)] := x_tab B (C.2.2.2.2.1 _ List.mem_cons_self)
  have hx := C.1
  have hb := C.2.1
  have hl := lv_entry ([.ref x, .int pp, .int rr, .ref dd]) (n := 5) (Nat.le_of_ble_eq_true rfl)
  rw [lg_entry_eq]
  generalize (lg_sl ([.ref x, .int pp, .int rr, .ref dd]) ++ List.replicate (5 - (lg_sl ([.ref x, .int pp, .int rr, .ref dd])).length) Slot.unset).toArray = ls at hl ⊢
  have hl : lv_has ls 5 [(0, .ref x), (1, .int pp), (2, .int rr), (3, .ref dd)] := hl
  refine lv_aload_n hx hb dL_meanErrors_0 rfl (lv_at hl 3 rfl) ?_
  refine lv_iconst (v := nI 0) hx hb dL_meanErrors_1 (by decide) ?_
  refine lv_aload_n hx hb dL_meanErrors_2 rfl (lv_at hl 0 rfl) ?_
  refine lv_iload_n hx hb dL_meanErrors_3 rfl (lv_at hl 1 rfl) ?_
  refine lv_iload_n hx hb dL_meanErrors_4 rfl (lv_at hl 2 rfl) ?_
  refine x_calld (vx_runV (As := [.int pp, .int rr]) (rest := [.int (nI 0), .ref dd]) C.fix (e_X11_meanErrors l hflags D cy ed S s.heap.size x ch ln sl mk co ca su lt lk mb col con cor0 cor1 cor2 cor3 cor4 cob0 sul sun sur0 sur1 sur2 sur3 sur4 sub0 pp rr hL_x hf_x hL_ch hf_ch hL_sl hf_sl hL_mk hf_mk hL_mb hf_mb hL_co hf_co hL_col hf_col hL_cor0 hf_cor0 hL_cob0 hf_cob0 hL_su hf_su hL_sul hf_sul hL_sur0 hf_sur0 hL_sub0 hf_sub0 hne_mk_sur0 hne_mb_sub0 hne_cor0_sur0 hne_cob0_sub0) (cwV 2 C.2.2.2.2.1 (gU_V mw_1077 mw_1078 mw_1079 mw_2 (subU mw_1080)) rfl rfl rfl hde_L_meanErrors_V_0 ⟨Nat.le_of_ble_eq_true rfl, Nat.le_of_ble_eq_true rfl⟩) (e_preV C hw hA hE hL_x hf_x rfl) rfl rfl hl.1 rfl (lv_room (Nat.le_of_ble_eq_true rfl)) dL_meanErrors_5 ⟨(Nat.le_of_ble_eq_true rfl), (Nat.le_of_ble_eq_true rfl)⟩) hw hA (fun E9 ce9 q9 S1 H locs hpost hw hce9 hcv9 hcl9 => ?_) (fun r2 S1 H locs hpost hw => ?_)
  · skip
    obtain ⟨rfl, hcx, hS_⟩ := hpost
    subst hS_
    refine x_catch C (E := "java/lang/IllegalArgumentException") (x := ⟨0, 9, 12, 13⟩) (suf := tableOf []) (htab.trans rfl) hce9 hcv9 hcl9 hE 0 rfl mw_113 rfl (by decide) ?_
    refine lv_astore (lv' := [(4, .ref q9), (0, .ref x), (1, .int pp), (2, .int rr), (3, .ref dd)]) hx hb dL_meanErrors_12 hl (by decide) rfl (fun ls hl => ?_)
    refine lv_iconst (v := nI 1) hx hb dL_meanErrors_14 (by decide) ?_
    refine vx_ret ?_
    exact (p_iret C hw ((Or.inr ⟨(by first | trivial | assumption | omega), rfl, rfl⟩)) hr hlocks dL_meanErrors_15)
  obtain ⟨hc3, hr_, hS4, hfr5⟩ := hpost
  subst hr_
  have hL6 : dd ∈ S1.1 := by rw [hS4]; exact List.mem_append_left _ hL_dd
  have hf7 : S1.2 dd = .inl (cy 7, 1, .inr (.inr (.inr (.inl dg)))) := (hfr5 dd hL_dd (ne_cells hf_dd hf_sl (by nofun)) (ne_cells hf_dd hf_sur0 (by nofun)) hne_dd_sub0).trans hf_dd
  refine p_dast C hw 7 rfl hL6 hf7 (by decide) (by decide) dL_meanErrors_8 (fun H locs hw => ?_)
  obtain ⟨S8, hS8⟩ : ∃ z, z = pup S1 dd (.inl (cy 7, 1, .inr (.inr (.inr (.inl (vf_upd dg 0 FP.dconst0)))))) := ⟨_, rfl⟩
  replace hw : pW D (pA S s.heap.size) s.heap S8 H locs := by rw [hS8]; exact hw
  have hL9 : dd ∈ S8.1 := by rw [hS8]; exact hL6
  have hf10 : S8.2 dd = .inl (cy 7, 1, .inr (.inr (.inr (.inl (vf_upd dg 0 FP.dconst0))))) := by rw [hS8]; exact pup_s
  refine lv_goto (tgt := 16) hx hb dL_meanErrors_9 (by decide) ?_
  refine lv_iconst (v := nI 0) hx hb dL_meanErrors_16 (by decide) ?_
  refine vx_ret ?_
  exact (p_iret C hw ((Or.inl ⟨(by first | trivial | assumption | omega), rfl, (by simp only [hS8, hS4, pup, pnew, List.append_nil, List.append_assoc, List.cons_append, List.nil_append]), (fun a_ ha_ hn_0 hn_1 hn_2 hn_3 => ((show S8.2 a_ = S1.2 a_ from by rw [hS8]; exact pup_n hn_3).trans (hfr5 a_ ha_ hn_0 hn_1 hn_2))), hf10⟩)) hr hlocks dL_meanErrors_17)
