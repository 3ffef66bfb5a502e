set_option maxHeartbeats 4000000 in
set_option maxRecDepth 100000 in
theorem e_X12_init (l : Launch) (D : va_G) (cy : Nat → ClassId) (S : pS) (sz : Nat) (st : Nat) (sr : Nat) (w0 : Nat) (w1 : Nat) (w2 : Nat) (hL_st : st ∈ S.1) (hf_st : S.2 st = .inr (12, [.int (nI 0), .int (nI 0), .int (nI 0), .null]))  : Met l yX12_init (Cond.code yX12_init cX12_init 5 none :: lwU) ({ frames := 1, cells := 0, slots := 0, locals := 12 }) (pPc D cy S sz [.ref st, .int (nI w0), .int (nI w1), .int (nI w2), .ref sr]) (pQv D cy S sz (fun S' => S'.1 = S.1 ++ [] ∧ (∀ a_, a_ ∈ S.1 → a_ ≠ st → S'.2 a_ = S.2 a_) ∧ S'.2 st = .inr (12, [.int (nI w0), .int (nI w1), .int (nI w2), .ref sr]))) 0 0 (pA S sz) := by
  refine Met.ofW (cc := cX12_init) (maxL := 5) (ret := none) (by decide) rfl ?_
  intro p e s m args below meth c s₁ B hml hv
  have hin : meth.name = "<init>" := (name_of_methodNamed B.named B.method).1
  obtain ⟨rfl, rfl, C, hw, hA, hr, hlocks⟩ := p_start B hml hv
  have hx := C.1
  have hb := C.2.1
  have hl := lv_entry ([.ref st, .int (nI w0), .int (nI w1), .int (nI w2), .ref sr]) (n := 5) (Nat.le_of_ble_eq_true rfl)
  rw [lg_entry_eq]
  generalize (lg_sl ([.ref st, .int (nI w0), .int (nI w1), .int (nI w2), .ref sr]) ++ List.replicate (5 - (lg_sl ([.ref st, .int (nI w0), .int (nI w1), .int (nI w2), .ref sr])).length) Slot.unset).toArray = ls at hl ⊢
  have hl : lv_has ls 5 [(0, .ref st), (1, .int (nI w0)), (2, .int (nI w1)), (3, .int (nI w2)), (4, .ref sr)] := hl
  have hin_RX12 : ∀ w ∈ u_ws RX12 TX12 4, w ∈ (Cond.code yX12_init cX12_init 5 none :: lwU) := fun w h => mU (sub_RX12 w h)
  refine lv_aload_n hx hb dX12_init_0 rfl (lv_at hl 0 rfl) ?_
  refine W.objInit hx hb C.2.2.2.1 (C.2.2.2.2.1 (.methodLink RX12 3 objectInit) (mU mw_594)) (C.2.2.2.2.1 (.instanceMethod objectInit) (mU mw_12)) (C.2.2.2.2.1 _ (mU mw_13)) rfl (by rw [hml]; exact hl.1) rfl dX12_init_1 (Nat.le_of_ble_eq_true rfl) (Nat.le_of_ble_eq_true rfl) ?_
  refine W.eq (g2 := F0 m 4 ls []) rfl ?_
  refine lv_aload_n hx hb dX12_init_4 rfl (lv_at hl 0 rfl) ?_
  refine lv_iload_n hx hb dX12_init_5 rfl (lv_at hl 1 rfl) ?_
  refine p_putF C hw (ci := 12) (Cn := RX12) (T := TX12) (N := 4) tyX12 tyX12_ok nmX12 hL_st hf_st rfl hin_RX12 0 (by decide) (mU mw_488) rfl rfl hin rfl rfl rfl rfl (by simp) dX12_init_6 rfl (fun H locs hw => ?_)
  obtain ⟨S1, hS1⟩ : ∃ z, z = pup S st (.inr (12, [.int (nI w0), .int (nI 0), .int (nI 0), .null])) := ⟨_, rfl⟩
  replace hw : pW D (pA S s.heap.size) s.heap S1 H locs := by rw [hS1]; exact hw
  have hL2 : st ∈ S1.1 := by rw [hS1]; exact hL_st
  have hf3 : S1.2 st = .inr (12, [.int (nI w0), .int (nI 0), .int (nI 0), .null]) := by rw [hS1]; exact pup_s
  refine lv_aload_n hx hb dX12_init_9 rfl (lv_at hl 0 rfl) ?_
  refine lv_iload_n hx hb dX12_init_10 rfl (lv_at hl 2 rfl) ?_
  refine p_putF C hw (ci := 12) (Cn := RX12) (T := TX12) (N := 4) tyX12 tyX12_ok nmX12 hL2 hf3 rfl hin_RX12 1 (by decide) (mU mw_489) rfl rfl hin rfl rfl rfl rfl (by simp) dX12_init_11 rfl (fun H locs hw => ?_)
  obtain ⟨S4, hS4⟩ : ∃ z, z = pup S1 st (.inr (12, [.int (nI w0), .int (nI w1), .int (nI 0), .null])) := ⟨_, rfl⟩
  replace hw : pW D (pA S s.heap.size) s.heap S4 H locs := by rw [hS4]; exact hw
  have hL5 : st ∈ S4.1 := by rw [hS4]; exact hL2
  have hf6 : S4.2 st = .inr (12, [.int (nI w0), .int (nI w1), .int (nI 0), .null]) := by rw [hS4]; exact pup_s
  refine lv_aload_n hx hb dX12_init_14 rfl (lv_at hl 0 rfl) ?_
  refine lv_iload_n hx hb dX12_init_15 rfl (lv_at hl 3 rfl) ?_
  refine p_putF C hw (ci := 12) (Cn := RX12) (T := TX12) (N := 4) tyX12 tyX12_ok nmX12 hL5 hf6 rfl hin_RX12 2 (by decide) (mU mw_490) rfl rfl hin rfl rfl rfl rfl (by simp) dX12_init_16 rfl (fun H locs hw => ?_)
  obtain ⟨S7, hS7⟩ : ∃ z, z = pup S4 st (.inr (12, [.int (nI w0), .int (nI w1), .int (nI w2), .null])) := ⟨_, rfl⟩
  replace hw : pW D (pA S s.heap.size) s.heap S7 H locs := by rw [hS7]; exact hw
  have hL8 : st ∈ S7.1 := by rw [hS7]; exact hL5
  have hf9 : S7.2 st = .inr (12, [.int (nI w0), .int (nI w1), .int (nI w2), .null]) := by rw [hS7]; exact pup_s
  refine lv_aload_n hx hb dX12_init_19 rfl (lv_at hl 0 rfl) ?_
  refine lv_aload hx hb dX12_init_20 (lv_at hl 4 rfl) ?_
  refine p_putF C hw (ci := 12) (Cn := RX12) (T := TX12) (N := 4) tyX12 tyX12_ok nmX12 hL8 hf9 rfl hin_RX12 3 (by decide) (mU mw_510) rfl rfl hin rfl rfl rfl rfl (by simp) dX12_init_22 rfl (fun H locs hw => ?_)
  obtain ⟨S10, hS10⟩ : ∃ z, z = pup S7 st (.inr (12, [.int (nI w0), .int (nI w1), .int (nI w2), .ref sr])) := ⟨_, rfl⟩
  replace hw : pW D (pA S s.heap.size) s.heap S10 H locs := by rw [hS10]; exact hw
  have hL11 : st ∈ S10.1 := by rw [hS10]; exact hL8
  have hf12 : S10.2 st = .inr (12, [.int (nI w0), .int (nI w1), .int (nI w2), .ref sr]) := by rw [hS10]; exact pup_s
  exact (p_vret C hw (⟨(by simp only [hS10, hS7, hS4, hS1, pup, pnew, List.append_nil, List.append_assoc, List.cons_append, List.nil_append]), (fun a_ ha_ hn_0 => ((show S10.2 a_ = S7.2 a_ from by rw [hS10]; exact pup_n hn_0).trans ((show S7.2 a_ = S4.2 a_ from by rw [hS7]; exact pup_n hn_0).trans ((show S4.2 a_ = S1.2 a_ from by rw [hS4]; exact pup_n hn_0).trans (show S1.2 a_ = S.2 a_ from by rw [hS1]; exact pup_n hn_0))))), hf12⟩) hr hlocks dX12_init_25)

set_option maxHeartbeats 4000000 in
set_option maxRecDepth 100000 in
theorem e_X12_filled0 (l : Launch) (D : va_G) (cy : Nat → ClassId) (S : pS) (sz : Nat) (rw : Nat) (e1 : Nat) (rg : Nat → Int32) (hL_rw : rw ∈ S.1) (hf_rw : S.2 rw = .inl (cy 0, 0, .inl rg)) (he1 : 1 ≤ e1) (he2 : e1 < 2 ^ 31) : Met l yX12_filled (Cond.code yX12_filled cX12_filled 3 (some (.array .int)) :: lwU) ({ frames := 1, cells := 1, slots := 0, locals := 60 }) (pPc D cy S sz [.ref rw, .int (nI e1)]) (pQq D cy S sz (fun r S' => ∃ (fl : Nat), r = some fl ∧ S'.1 = S.1 ++ [fl] ∧ (∀ a_, a_ ∈ S.1 → S'.2 a_ = S.2 a_) ∧ S'.2 fl = .inl (cy 0, 0, .inl (va_cpy rg (fun _ => 0) 0 0 0)))) 1 0 (pA S sz) := by
  refine Met.ofW (cc := cX12_filled) (maxL := 3) (ret := (some (.array .int))) (by decide) rfl ?_
  intro p e s m args below meth c s₁ B hml hv
  obtain ⟨rfl, rfl, C, hw, hA, hr, hlocks⟩ := p_start B hml hv
  have hx := C.1
  have hb := C.2.1
  have hl := lv_entry ([.ref rw, .int (nI e1)]) (n := 3) (Nat.le_of_ble_eq_true rfl)
  rw [lg_entry_eq]
  generalize (lg_sl ([.ref rw, .int (nI e1)]) ++ List.replicate (3 - (lg_sl ([.ref rw, .int (nI e1)])).length) Slot.unset).toArray = ls at hl ⊢
  have hl : lv_has ls 3 [(0, .ref rw), (1, .int (nI e1))] := hl
  refine lv_aload_n hx hb dX12_filled_0 rfl (lv_at hl 0 rfl) ?_
  refine n_len C hw 0 rfl hL_rw hf_rw (n := 0) rfl dX12_filled_1 ?_
  refine lv_iload_n hx hb dX12_filled_2 rfl (lv_at hl 1 rfl) ?_
  refine n_iadd hx hb dX12_filled_3 ?_
  refine n_ren (b := e1) (by first | rfl | omega | simp) ?_
  refine lv_iconst (v := nI 1) hx hb dX12_filled_4 (by decide) ?_
  refine n_isub hx hb (by first | decide | omega) dX12_filled_5 ?_
  refine lv_iload_n hx hb dX12_filled_6 rfl (lv_at hl 1 rfl) ?_
  refine n_idiv hx hb (by omega) (by omega) (by omega) dX12_filled_7 ?_
  refine n_ren (b := 0) (Nat.div_eq_of_lt (by omega)) ?_
  refine lv_iload_n hx hb dX12_filled_8 rfl (lv_at hl 1 rfl) ?_
  refine n_imul hx hb dX12_filled_9 ?_
  refine n_ren (b := 0) (by first | rfl | omega | simp) ?_
  refine p_newa C hw hA (mU mw_59) 0 rfl (n := 0) (by first | decide | omega) (Nat.le_of_ble_eq_true rfl) (Nat.le_of_ble_eq_true rfl) dX12_filled_10 (fun fl H hq_fl hw => ?_)
  obtain ⟨S1, hS1⟩ : ∃ z, z = pnew S fl (.inl (cy 0, 0, .inl (fun _ => 0))) := ⟨_, rfl⟩
  replace hw : pW D (pA S s.heap.size) s.heap S1 H [] := by rw [hS1]; exact hw
  have hL2 : fl ∈ S1.1 := by rw [hS1]; exact List.mem_append_right _ List.mem_cons_self
  have hf3 : S1.2 fl = .inl (cy 0, 0, .inl (fun _ => 0)) := by rw [hS1]; exact pnew_s
  refine lv_astore_n (lv' := [(2, .ref fl), (0, .ref rw), (1, .int (nI e1))]) hx hb dX12_filled_12 rfl hl (by decide) rfl (fun ls hl => ?_)
  refine lv_aload_n hx hb dX12_filled_13 rfl (lv_at hl 1 rfl) ?_
  refine lv_iconst (v := nI 0) hx hb dX12_filled_14 (by decide) ?_
  refine lv_aload_n hx hb dX12_filled_15 rfl (lv_at hl 0 rfl) ?_
  refine lv_iconst (v := nI 0) hx hb dX12_filled_16 (by decide) ?_
  refine lv_aload_n hx hb dX12_filled_17 rfl (lv_at hl 1 rfl) ?_
  have hL4 : rw ∈ S1.1 := by rw [hS1]; exact List.mem_append_left _ hL_rw
  have hf5 : S1.2 rw = .inl (cy 0, 0, .inl rg) := by rw [hS1]; exact (pnew_n (fun z : rw = fl => hq_fl (by rw [← z]; exact hL_rw))).trans hf_rw
  refine n_len C hw 0 rfl hL4 hf5 (n := 0) rfl dX12_filled_18 ?_
  refine p_copy C hw hl.1.symm (C.2.2.2.2.1 _ (mU mw_498)) (C.2.2.2.2.1 _ (mU mw_391)) (C.2.2.2.2.1 _ (mU mw_392)) (C.2.2.2.2.1 _ (mU mw_393)) hL4 hf5 hL2 hf3 (sp := 0) (dp := 0) (k := 0) (by first | decide | omega) (by first | decide | omega) (by first | decide | omega) (by first | decide | omega) (Nat.le_of_ble_eq_true rfl) (Nat.le_of_ble_eq_true rfl) dX12_filled_19 (fun H locs hw => ?_)
  obtain ⟨S6, hS6⟩ : ∃ z, z = pup S1 fl (.inl (cy 0, 0, .inl (va_cpy rg (fun _ => 0) 0 0 0))) := ⟨_, rfl⟩
  replace hw : pW D (pA S s.heap.size) s.heap S6 H locs := by rw [hS6]; exact hw
  have hL7 : fl ∈ S6.1 := by rw [hS6]; exact hL2
  have hf8 : S6.2 fl = .inl (cy 0, 0, .inl (va_cpy rg (fun _ => 0) 0 0 0)) := by rw [hS6]; exact pup_s
  refine lv_aload_n hx hb dX12_filled_22 rfl (lv_at hl 0 rfl) ?_
  exact (p_qret C hw (v := some fl) (⟨fl, rfl, (by simp only [hS6, hS1, pup, pnew, List.append_nil, List.append_assoc, List.cons_append, List.nil_append]), (fun a_ ha_ => ((show S6.2 a_ = S1.2 a_ from by rw [hS6]; exact pup_n (fun z : a_ = fl => hq_fl (by rw [← z]; exact ha_))).trans (show S1.2 a_ = S.2 a_ from by rw [hS1]; exact pnew_n (fun z : a_ = fl => hq_fl (by rw [← z]; exact ha_))))), hf8⟩) hr (by first | exact Or.inl ⟨_, rfl⟩ | exact Or.inr ⟨_, rfl⟩) hlocks dX12_filled_23)

set_option maxHeartbeats 4000000 in
set_option maxRecDepth 100000 in
theorem e_X12_repeated0 (l : Launch) (D : va_G) (cy : Nat → ClassId) (S : pS) (sz : Nat) (st : Nat) (rw : Nat) (sr : Nat) (sa : Nat) (sb : Nat) (rg : Nat → Int32) (hL_st : st ∈ S.1) (hf_st : S.2 st = .inr (12, [.int (nI 0), .int (nI sa), .int (nI sb), .ref sr])) (hL_rw : rw ∈ S.1) (hf_rw : S.2 rw = .inl (cy 0, 0, .inl rg))  : Met l yX12_repeated (Cond.code yX12_repeated cX12_repeated 4 (some (.array .int)) :: lwU) ({ frames := 0, cells := 1, slots := 0, locals := 0 }) (pPc D cy S sz [.ref st, .ref rw]) (pQq D cy S sz (fun r S' => ∃ (w : Nat), r = some w ∧ S'.1 = S.1 ++ [w] ∧ (∀ a_, a_ ∈ S.1 → S'.2 a_ = S.2 a_) ∧ S'.2 w = .inl (cy 0, 0, .inl (fun _ => 0)))) 1 0 (pA S sz) := by
  refine Met.ofW (cc := cX12_repeated) (maxL := 4) (ret := (some (.array .int))) (by decide) rfl ?_
  intro p e s m args below meth c s₁ B hml hv
  obtain ⟨rfl, rfl, C, hw, hA, hr, hlocks⟩ := p_start B hml hv
  have hx := C.1
  have hb := C.2.1
  have hl := lv_entry ([.ref st, .ref rw]) (n := 4) (Nat.le_of_ble_eq_true rfl)
  rw [lg_entry_eq]
  generalize (lg_sl ([.ref st, .ref rw]) ++ List.replicate (4 - (lg_sl ([.ref st, .ref rw])).length) Slot.unset).toArray = ls at hl ⊢
  have hl : lv_has ls 4 [(0, .ref st), (1, .ref rw)] := hl
  have hin_RX12 : ∀ w ∈ u_ws RX12 TX12 4, w ∈ (Cond.code yX12_repeated cX12_repeated 4 (some (.array .int)) :: lwU) := fun w h => mU (sub_RX12 w h)
  refine lv_aload_n hx hb dX12_repeated_0 rfl (lv_at hl 1 rfl) ?_
  refine n_len C hw 0 rfl hL_rw hf_rw (n := 0) rfl dX12_repeated_1 ?_
  refine lv_aload_n hx hb dX12_repeated_2 rfl (lv_at hl 0 rfl) ?_
  refine p_get C hw (ci := 12) (Cn := RX12) (T := TX12) (N := 4) hL_st hf_st rfl hin_RX12 1 (by decide) (mU mw_489) rfl rfl dX12_repeated_3 ?_
  refine n_imul hx hb dX12_repeated_6 ?_
  refine n_ren (b := 0) (by first | rfl | omega | simp) ?_
  refine p_newa C hw hA (mU mw_59) 0 rfl (n := 0) (by first | decide | omega) (Nat.le_of_ble_eq_true rfl) (Nat.le_of_ble_eq_true rfl) dX12_repeated_7 (fun w H hq_w hw => ?_)
  obtain ⟨S1, hS1⟩ : ∃ z, z = pnew S w (.inl (cy 0, 0, .inl (fun _ => 0))) := ⟨_, rfl⟩
  replace hw : pW D (pA S s.heap.size) s.heap S1 H [] := by rw [hS1]; exact hw
  have hL2 : w ∈ S1.1 := by rw [hS1]; exact List.mem_append_right _ List.mem_cons_self
  have hf3 : S1.2 w = .inl (cy 0, 0, .inl (fun _ => 0)) := by rw [hS1]; exact pnew_s
  refine lv_astore_n (lv' := [(2, .ref w), (0, .ref st), (1, .ref rw)]) hx hb dX12_repeated_9 rfl hl (by decide) rfl (fun ls hl => ?_)
  refine lv_iconst (v := nI 0) hx hb dX12_repeated_10 (by decide) ?_
  refine lv_istore_n (lv' := [(3, .int (nI 0)), (2, .ref w), (0, .ref st), (1, .ref rw)]) hx hb dX12_repeated_11 rfl hl (by decide) rfl (fun ls hl => ?_)
  refine lv_iload_n hx hb dX12_repeated_12 rfl (lv_at hl 0 rfl) ?_
  refine lv_aload_n hx hb dX12_repeated_13 rfl (lv_at hl 1 rfl) ?_
  refine n_len C hw 0 rfl hL2 hf3 (n := 0) rfl dX12_repeated_14 ?_
  refine n_icmp_ge (tgt := 35) hx hb (by first | decide | omega) (by first | decide | omega) dX12_repeated_15 (by decide) (fun h_15 => ?_) (fun h_15 => ?_)
  · skip
    refine lv_aload_n hx hb dX12_repeated_35 rfl (lv_at hl 1 rfl) ?_
    exact (p_qret C hw (v := some w) (⟨w, rfl, (by simp only [hS1, pup, pnew, List.append_nil, List.append_assoc, List.cons_append, List.nil_append]), (fun a_ ha_ => (show S1.2 a_ = S.2 a_ from by rw [hS1]; exact pnew_n (fun z : a_ = w => hq_w (by rw [← z]; exact ha_)))), hf3⟩) hr (by first | exact Or.inl ⟨_, rfl⟩ | exact Or.inr ⟨_, rfl⟩) hlocks dX12_repeated_36)
  · exact absurd h_15 (by first | decide | omega)

set_option maxHeartbeats 4000000 in
set_option maxRecDepth 100000 in
theorem e_X12_blocks0 (l : Launch) (D : va_G) (cy : Nat → ClassId) (S : pS) (sz : Nat) (st : Nat) (rw : Nat) (sr : Nat) (sa : Nat) (sb : Nat) (rg : Nat → Int32) (hL_st : st ∈ S.1) (hf_st : S.2 st = .inr (12, [.int (nI 1), .int (nI sa), .int (nI sb), .ref sr])) (hL_rw : rw ∈ S.1) (hf_rw : S.2 rw = .inl (cy 0, 0, .inl rg)) (hsa1 : 1 ≤ sa) (hsa2 : sa < 2 ^ 31) : Met l yX12_blocks (Cond.code yX12_blocks cX12_blocks 4 (some (.array .int)) :: lwU) ({ frames := 0, cells := 1, slots := 0, locals := 0 }) (pPc D cy S sz [.ref st, .ref rw]) (pQq D cy S sz (fun r S' => ∃ (w : Nat), r = some w ∧ S'.1 = S.1 ++ [w] ∧ (∀ a_, a_ ∈ S.1 → S'.2 a_ = S.2 a_) ∧ S'.2 w = .inl (cy 0, 0, .inl (fun _ => 0)))) 1 0 (pA S sz) := by
  refine Met.ofW (cc := cX12_blocks) (maxL := 4) (ret := (some (.array .int))) (by decide) rfl ?_
  intro p e s m args below meth c s₁ B hml hv
  obtain ⟨rfl, rfl, C, hw, hA, hr, hlocks⟩ := p_start B hml hv
  have hx := C.1
  have hb := C.2.1
  have hl := lv_entry ([.ref st, .ref rw]) (n := 4) (Nat.le_of_ble_eq_true rfl)
  rw [lg_entry_eq]
  generalize (lg_sl ([.ref st, .ref rw]) ++ List.replicate (4 - (lg_sl ([.ref st, .ref rw])).length) Slot.unset).toArray = ls at hl ⊢
  have hl : lv_has ls 4 [(0, .ref st), (1, .ref rw)] := hl
  have hin_RX12 : ∀ w ∈ u_ws RX12 TX12 4, w ∈ (Cond.code yX12_blocks cX12_blocks 4 (some (.array .int)) :: lwU) := fun w h => mU (sub_RX12 w h)
  refine lv_aload_n hx hb dX12_blocks_0 rfl (lv_at hl 1 rfl) ?_
  refine n_len C hw 0 rfl hL_rw hf_rw (n := 0) rfl dX12_blocks_1 ?_
  refine lv_aload_n hx hb dX12_blocks_2 rfl (lv_at hl 0 rfl) ?_
  refine p_get C hw (ci := 12) (Cn := RX12) (T := TX12) (N := 4) hL_st hf_st rfl hin_RX12 1 (by decide) (mU mw_489) rfl rfl dX12_blocks_3 ?_
  refine n_idiv hx hb (by omega) (by omega) (by omega) dX12_blocks_6 ?_
  refine n_ren (b := 0) (by first | rfl | omega | simp) ?_
  refine lv_aload_n hx hb dX12_blocks_7 rfl (lv_at hl 0 rfl) ?_
  refine p_get C hw (ci := 12) (Cn := RX12) (T := TX12) (N := 4) hL_st hf_st rfl hin_RX12 2 (by decide) (mU mw_490) rfl rfl dX12_blocks_8 ?_
  refine n_imul hx hb dX12_blocks_11 ?_
  refine n_ren (b := 0) (by first | rfl | omega | simp) ?_
  refine p_newa C hw hA (mU mw_59) 0 rfl (n := 0) (by first | decide | omega) (Nat.le_of_ble_eq_true rfl) (Nat.le_of_ble_eq_true rfl) dX12_blocks_12 (fun w H hq_w hw => ?_)
  obtain ⟨S1, hS1⟩ : ∃ z, z = pnew S w (.inl (cy 0, 0, .inl (fun _ => 0))) := ⟨_, rfl⟩
  replace hw : pW D (pA S s.heap.size) s.heap S1 H [] := by rw [hS1]; exact hw
  have hL2 : w ∈ S1.1 := by rw [hS1]; exact List.mem_append_right _ List.mem_cons_self
  have hf3 : S1.2 w = .inl (cy 0, 0, .inl (fun _ => 0)) := by rw [hS1]; exact pnew_s
  refine lv_astore_n (lv' := [(2, .ref w), (0, .ref st), (1, .ref rw)]) hx hb dX12_blocks_14 rfl hl (by decide) rfl (fun ls hl => ?_)
  refine lv_iconst (v := nI 0) hx hb dX12_blocks_15 (by decide) ?_
  refine lv_istore_n (lv' := [(3, .int (nI 0)), (2, .ref w), (0, .ref st), (1, .ref rw)]) hx hb dX12_blocks_16 rfl hl (by decide) rfl (fun ls hl => ?_)
  refine lv_iload_n hx hb dX12_blocks_17 rfl (lv_at hl 0 rfl) ?_
  refine lv_aload_n hx hb dX12_blocks_18 rfl (lv_at hl 2 rfl) ?_
  have hL4 : st ∈ S1.1 := by rw [hS1]; exact List.mem_append_left _ hL_st
  have hf5 : S1.2 st = .inr (12, [.int (nI 1), .int (nI sa), .int (nI sb), .ref sr]) := by rw [hS1]; exact (pnew_n (fun z : st = w => hq_w (by rw [← z]; exact hL_st))).trans hf_st
  refine p_get C hw (ci := 12) (Cn := RX12) (T := TX12) (N := 4) hL4 hf5 rfl hin_RX12 1 (by decide) (mU mw_489) rfl rfl dX12_blocks_19 ?_
  refine n_imul hx hb dX12_blocks_22 ?_
  refine n_ren (b := 0) (by first | rfl | omega | simp) ?_
  refine lv_aload_n hx hb dX12_blocks_23 rfl (lv_at hl 3 rfl) ?_
  have hL6 : rw ∈ S1.1 := by rw [hS1]; exact List.mem_append_left _ hL_rw
  have hf7 : S1.2 rw = .inl (cy 0, 0, .inl rg) := by rw [hS1]; exact (pnew_n (fun z : rw = w => hq_w (by rw [← z]; exact hL_rw))).trans hf_rw
  refine n_len C hw 0 rfl hL6 hf7 (n := 0) rfl dX12_blocks_24 ?_
  refine n_icmp_ge (tgt := 66) hx hb (by first | decide | omega) (by first | decide | omega) dX12_blocks_25 (by decide) (fun h_25 => ?_) (fun h_25 => ?_)
  · skip
    refine lv_aload_n hx hb dX12_blocks_66 rfl (lv_at hl 1 rfl) ?_
    exact (p_qret C hw (v := some w) (⟨w, rfl, (by simp only [hS1, pup, pnew, List.append_nil, List.append_assoc, List.cons_append, List.nil_append]), (fun a_ ha_ => (show S1.2 a_ = S.2 a_ from by rw [hS1]; exact pnew_n (fun z : a_ = w => hq_w (by rw [← z]; exact ha_)))), hf3⟩) hr (by first | exact Or.inl ⟨_, rfl⟩ | exact Or.inr ⟨_, rfl⟩) hlocks dX12_blocks_67)
  · exact absurd h_25 (by first | decide | omega)

set_option maxHeartbeats 4000000 in
set_option maxRecDepth 100000 in
theorem e_J6_numberOfLeadingZeros_0f7a4 (l : Launch) (D : va_G) (cy : Nat → ClassId) (S : pS) (sz : Nat) (d : Nat)  (hd1 : 1 ≤ d) (hd2 : d < 512) : Met l yJ6_numberOfLeadingZeros_0f7a4 (Cond.code yJ6_numberOfLeadingZeros_0f7a4 cJ6_numberOfLeadingZeros_0f7a4 2 (some .int) :: lwU) ({ frames := 0, cells := 0, slots := 0, locals := 0 }) (pPc D cy S sz [.int (nI d)]) (pQi D cy S sz (fun r S' => ∃ (r9 : Nat), (r9 ≤ 31) ∧ r = (nI r9) ∧ S = S')) 0 0 (pA S sz) := by
  refine Met.ofW (cc := cJ6_numberOfLeadingZeros_0f7a4) (maxL := 2) (ret := (some .int)) (by decide) rfl ?_
  intro p e s m args below meth c s₁ B hml hv
  obtain ⟨rfl, rfl, C, hw, hA, hr, hlocks⟩ := p_start B hml hv
  have hx := C.1
  have hb := C.2.1
  have hl := lv_entry ([.int (nI d)]) (n := 2) (Nat.le_of_ble_eq_true rfl)
  rw [lg_entry_eq]
  generalize (lg_sl ([.int (nI d)]) ++ List.replicate (2 - (lg_sl ([.int (nI d)])).length) Slot.unset).toArray = ls at hl ⊢
  have hl : lv_has ls 2 [(0, .int (nI d))] := hl
  refine lv_iload_n hx hb dJ6_numberOfLeadingZeros_0f7a4_0 rfl (lv_at hl 0 rfl) ?_
  refine n_if_gt (tgt := 15) hx hb (by first | decide | omega) dJ6_numberOfLeadingZeros_0f7a4_1 (by decide) (fun h_1 => ?_) (fun h_1 => ?_)
  · skip
    refine lv_bipush (v := nI 31) hx hb dJ6_numberOfLeadingZeros_0f7a4_15 (by decide) ?_
    refine lv_istore_n (lv' := [(1, .int (nI 31)), (0, .int (nI d))]) hx hb dJ6_numberOfLeadingZeros_0f7a4_17 rfl hl (by decide) rfl (fun ls hl => ?_)
    refine lv_iload_n hx hb dJ6_numberOfLeadingZeros_0f7a4_18 rfl (lv_at hl 1 rfl) ?_
    refine lv_ldcw (v := nI 65536) hx hb C.2.2.2.1 (C.2.2.2.2.1 (.constant RJ6 264 (65536)) (mU mw_523)) dJ6_numberOfLeadingZeros_0f7a4_19 ?_
    refine n_icmp_lt (tgt := 33) hx hb (by first | decide | omega) (by first | decide | omega) dJ6_numberOfLeadingZeros_0f7a4_22 (by decide) (fun h_22 => ?_) (fun h_22 => ?_)
    · skip
      refine lv_iload_n hx hb dJ6_numberOfLeadingZeros_0f7a4_33 rfl (lv_at hl 1 rfl) ?_
      refine lv_sipush (v := nI 256) hx hb dJ6_numberOfLeadingZeros_0f7a4_34 (by decide) ?_
      refine n_icmp_lt (tgt := 48) hx hb (by first | decide | omega) (by first | decide | omega) dJ6_numberOfLeadingZeros_0f7a4_37 (by decide) (fun h_37 => ?_) (fun h_37 => ?_)
      · skip
        refine lv_iload_n hx hb dJ6_numberOfLeadingZeros_0f7a4_48 rfl (lv_at hl 1 rfl) ?_
        refine lv_bipush (v := nI 16) hx hb dJ6_numberOfLeadingZeros_0f7a4_49 (by decide) ?_
        refine n_icmp_lt (tgt := 61) hx hb (by first | decide | omega) (by first | decide | omega) dJ6_numberOfLeadingZeros_0f7a4_51 (by decide) (fun h_51 => ?_) (fun h_51 => ?_)
        · skip
          refine lv_iload_n hx hb dJ6_numberOfLeadingZeros_0f7a4_61 rfl (lv_at hl 1 rfl) ?_
          refine lv_iconst (v := nI 4) hx hb dJ6_numberOfLeadingZeros_0f7a4_62 (by decide) ?_
          refine n_icmp_lt (tgt := 73) hx hb (by first | decide | omega) (by first | decide | omega) dJ6_numberOfLeadingZeros_0f7a4_63 (by decide) (fun h_63 => ?_) (fun h_63 => ?_)
          · skip
            refine lv_iload_n hx hb dJ6_numberOfLeadingZeros_0f7a4_73 rfl (lv_at hl 0 rfl) ?_
            refine lv_iload_n hx hb dJ6_numberOfLeadingZeros_0f7a4_74 rfl (lv_at hl 1 rfl) ?_
            refine lv_iconst (v := nI 1) hx hb dJ6_numberOfLeadingZeros_0f7a4_75 (by decide) ?_
            refine n_iushr hx hb (by first | decide | omega) (by first | decide | omega) dJ6_numberOfLeadingZeros_0f7a4_76 ?_
            refine n_isub hx hb (by first | decide | omega) dJ6_numberOfLeadingZeros_0f7a4_77 ?_
            exact (p_iret C hw (⟨31 - (d / 2 ^ 1), (by omega), rfl, rfl⟩) hr hlocks dJ6_numberOfLeadingZeros_0f7a4_78)
          · skip
            refine lv_iinc (v := (nI 29)) (lv' := [(1, .int (nI 29)), (0, .int (nI d))]) hx hb dJ6_numberOfLeadingZeros_0f7a4_66 hl (k := 0) rfl (by decide) (by decide) rfl (fun ls hl => ?_)
            refine lv_iload_n hx hb dJ6_numberOfLeadingZeros_0f7a4_69 rfl (lv_at hl 1 rfl) ?_
            refine lv_iconst (v := nI 2) hx hb dJ6_numberOfLeadingZeros_0f7a4_70 (by decide) ?_
            refine n_iushr hx hb (by first | decide | omega) (by first | decide | omega) dJ6_numberOfLeadingZeros_0f7a4_71 ?_
            refine lv_istore_n (lv' := [(0, .int (nI (d / 2 ^ 2))), (1, .int (nI 29))]) hx hb dJ6_numberOfLeadingZeros_0f7a4_72 rfl hl (by decide) rfl (fun ls hl => ?_)
            refine lv_iload_n hx hb dJ6_numberOfLeadingZeros_0f7a4_73 rfl (lv_at hl 1 rfl) ?_
            refine lv_iload_n hx hb dJ6_numberOfLeadingZeros_0f7a4_74 rfl (lv_at hl 0 rfl) ?_
            refine lv_iconst (v := nI 1) hx hb dJ6_numberOfLeadingZeros_0f7a4_75 (by decide) ?_
            refine n_iushr hx hb (by first | decide | omega) (by first | decide | omega) dJ6_numberOfLeadingZeros_0f7a4_76 ?_
            refine n_isub hx hb (by first | decide | omega) dJ6_numberOfLeadingZeros_0f7a4_77 ?_
            exact (p_iret C hw (⟨29 - ((d / 2 ^ 2) / 2 ^ 1), (by omega), rfl, rfl⟩) hr hlocks dJ6_numberOfLeadingZeros_0f7a4_78)
        · skip
          refine lv_iinc (v := (nI 27)) (lv' := [(1, .int (nI 27)), (0, .int (nI d))]) hx hb dJ6_numberOfLeadingZeros_0f7a4_54 hl (k := 0) rfl (by decide) (by decide) rfl (fun ls hl => ?_)
          refine lv_iload_n hx hb dJ6_numberOfLeadingZeros_0f7a4_57 rfl (lv_at hl 1 rfl) ?_
          refine lv_iconst (v := nI 4) hx hb dJ6_numberOfLeadingZeros_0f7a4_58 (by decide) ?_
          refine n_iushr hx hb (by first | decide | omega) (by first | decide | omega) dJ6_numberOfLeadingZeros_0f7a4_59 ?_
          refine lv_istore_n (lv' := [(0, .int (nI (d / 2 ^ 4))), (1, .int (nI 27))]) hx hb dJ6_numberOfLeadingZeros_0f7a4_60 rfl hl (by decide) rfl (fun ls hl => ?_)
          refine lv_iload_n hx hb dJ6_numberOfLeadingZeros_0f7a4_61 rfl (lv_at hl 0 rfl) ?_
          refine lv_iconst (v := nI 4) hx hb dJ6_numberOfLeadingZeros_0f7a4_62 (by decide) ?_
          refine n_icmp_lt (tgt := 73) hx hb (by first | decide | omega) (by first | decide | omega) dJ6_numberOfLeadingZeros_0f7a4_63 (by decide) (fun h_63 => ?_) (fun h_63 => ?_)
          · skip
            refine lv_iload_n hx hb dJ6_numberOfLeadingZeros_0f7a4_73 rfl (lv_at hl 1 rfl) ?_
            refine lv_iload_n hx hb dJ6_numberOfLeadingZeros_0f7a4_74 rfl (lv_at hl 0 rfl) ?_
            refine lv_iconst (v := nI 1) hx hb dJ6_numberOfLeadingZeros_0f7a4_75 (by decide) ?_
            refine n_iushr hx hb (by first | decide | omega) (by first | decide | omega) dJ6_numberOfLeadingZeros_0f7a4_76 ?_
            refine n_isub hx hb (by first | decide | omega) dJ6_numberOfLeadingZeros_0f7a4_77 ?_
            exact (p_iret C hw (⟨27 - ((d / 2 ^ 4) / 2 ^ 1), (by omega), rfl, rfl⟩) hr hlocks dJ6_numberOfLeadingZeros_0f7a4_78)
          · skip
            refine lv_iinc (v := (nI 25)) (lv' := [(1, .int (nI 25)), (0, .int (nI (d / 2 ^ 4)))]) hx hb dJ6_numberOfLeadingZeros_0f7a4_66 hl (k := 1) rfl (by decide) (by decide) rfl (fun ls hl => ?_)
            refine lv_iload_n hx hb dJ6_numberOfLeadingZeros_0f7a4_69 rfl (lv_at hl 1 rfl) ?_
            refine lv_iconst (v := nI 2) hx hb dJ6_numberOfLeadingZeros_0f7a4_70 (by decide) ?_
            refine n_iushr hx hb (by first | decide | omega) (by first | decide | omega) dJ6_numberOfLeadingZeros_0f7a4_71 ?_
            refine lv_istore_n (lv' := [(0, .int (nI ((d / 2 ^ 4) / 2 ^ 2))), (1, .int (nI 25))]) hx hb dJ6_numberOfLeadingZeros_0f7a4_72 rfl hl (by decide) rfl (fun ls hl => ?_)
            refine lv_iload_n hx hb dJ6_numberOfLeadingZeros_0f7a4_73 rfl (lv_at hl 1 rfl) ?_
            refine lv_iload_n hx hb dJ6_numberOfLeadingZeros_0f7a4_74 rfl (lv_at hl 0 rfl) ?_
            refine lv_iconst (v := nI 1) hx hb dJ6_numberOfLeadingZeros_0f7a4_75 (by decide) ?_
            refine n_iushr hx hb (by first | decide | omega) (by first | decide | omega) dJ6_numberOfLeadingZeros_0f7a4_76 ?_
            refine n_isub hx hb (by first | decide | omega) dJ6_numberOfLeadingZeros_0f7a4_77 ?_
            exact (p_iret C hw (⟨25 - (((d / 2 ^ 4) / 2 ^ 2) / 2 ^ 1), (by omega), rfl, rfl⟩) hr hlocks dJ6_numberOfLeadingZeros_0f7a4_78)
      · skip
        refine lv_iinc (v := (nI 23)) (lv' := [(1, .int (nI 23)), (0, .int (nI d))]) hx hb dJ6_numberOfLeadingZeros_0f7a4_40 hl (k := 0) rfl (by decide) (by decide) rfl (fun ls hl => ?_)
        refine lv_iload_n hx hb dJ6_numberOfLeadingZeros_0f7a4_43 rfl (lv_at hl 1 rfl) ?_
        refine lv_bipush (v := nI 8) hx hb dJ6_numberOfLeadingZeros_0f7a4_44 (by decide) ?_
        refine n_iushr hx hb (by first | decide | omega) (by first | decide | omega) dJ6_numberOfLeadingZeros_0f7a4_46 ?_
        refine lv_istore_n (lv' := [(0, .int (nI (d / 2 ^ 8))), (1, .int (nI 23))]) hx hb dJ6_numberOfLeadingZeros_0f7a4_47 rfl hl (by decide) rfl (fun ls hl => ?_)
        refine lv_iload_n hx hb dJ6_numberOfLeadingZeros_0f7a4_48 rfl (lv_at hl 0 rfl) ?_
        refine lv_bipush (v := nI 16) hx hb dJ6_numberOfLeadingZeros_0f7a4_49 (by decide) ?_
        refine n_icmp_lt (tgt := 61) hx hb (by first | decide | omega) (by first | decide | omega) dJ6_numberOfLeadingZeros_0f7a4_51 (by decide) (fun h_51 => ?_) (fun h_51 => ?_)
        · skip
          refine lv_iload_n hx hb dJ6_numberOfLeadingZeros_0f7a4_61 rfl (lv_at hl 0 rfl) ?_
          refine lv_iconst (v := nI 4) hx hb dJ6_numberOfLeadingZeros_0f7a4_62 (by decide) ?_
          refine n_icmp_lt (tgt := 73) hx hb (by first | decide | omega) (by first | decide | omega) dJ6_numberOfLeadingZeros_0f7a4_63 (by decide) (fun h_63 => ?_) (fun h_63 => ?_)
          · skip
            refine lv_iload_n hx hb dJ6_numberOfLeadingZeros_0f7a4_73 rfl (lv_at hl 1 rfl) ?_
            refine lv_iload_n hx hb dJ6_numberOfLeadingZeros_0f7a4_74 rfl (lv_at hl 0 rfl) ?_
            refine lv_iconst (v := nI 1) hx hb dJ6_numberOfLeadingZeros_0f7a4_75 (by decide) ?_
            refine n_iushr hx hb (by first | decide | omega) (by first | decide | omega) dJ6_numberOfLeadingZeros_0f7a4_76 ?_
            refine n_isub hx hb (by first | decide | omega) dJ6_numberOfLeadingZeros_0f7a4_77 ?_
            exact (p_iret C hw (⟨23 - ((d / 2 ^ 8) / 2 ^ 1), (by omega), rfl, rfl⟩) hr hlocks dJ6_numberOfLeadingZeros_0f7a4_78)
          · skip
            refine lv_iinc (v := (nI 21)) (lv' := [(1, .int (nI 21)), (0, .int (nI (d / 2 ^ 8)))]) hx hb dJ6_numberOfLeadingZeros_0f7a4_66 hl (k := 1) rfl (by decide) (by decide) rfl (fun ls hl => ?_)
            refine lv_iload_n hx hb dJ6_numberOfLeadingZeros_0f7a4_69 rfl (lv_at hl 1 rfl) ?_
            refine lv_iconst (v := nI 2) hx hb dJ6_numberOfLeadingZeros_0f7a4_70 (by decide) ?_
            refine n_iushr hx hb (by first | decide | omega) (by first | decide | omega) dJ6_numberOfLeadingZeros_0f7a4_71 ?_
            refine lv_istore_n (lv' := [(0, .int (nI ((d / 2 ^ 8) / 2 ^ 2))), (1, .int (nI 21))]) hx hb dJ6_numberOfLeadingZeros_0f7a4_72 rfl hl (by decide) rfl (fun ls hl => ?_)
            refine lv_iload_n hx hb dJ6_numberOfLeadingZeros_0f7a4_73 rfl (lv_at hl 1 rfl) ?_
            refine lv_iload_n hx hb dJ6_numberOfLeadingZeros_0f7a4_74 rfl (lv_at hl 0 rfl) ?_
            refine lv_iconst (v := nI 1) hx hb dJ6_numberOfLeadingZeros_0f7a4_75 (by decide) ?_
            refine n_iushr hx hb (by first | decide | omega) (by first | decide | omega) dJ6_numberOfLeadingZeros_0f7a4_76 ?_
            refine n_isub hx hb (by first | decide | omega) dJ6_numberOfLeadingZeros_0f7a4_77 ?_
            exact (p_iret C hw (⟨21 - (((d / 2 ^ 8) / 2 ^ 2) / 2 ^ 1), (by omega), rfl, rfl⟩) hr hlocks dJ6_numberOfLeadingZeros_0f7a4_78)
        · skip
          refine lv_iinc (v := (nI 19)) (lv' := [(1, .int (nI 19)), (0, .int (nI (d / 2 ^ 8)))]) hx hb dJ6_numberOfLeadingZeros_0f7a4_54 hl (k := 1) rfl (by decide) (by decide) rfl (fun ls hl => ?_)
          refine lv_iload_n hx hb dJ6_numberOfLeadingZeros_0f7a4_57 rfl (lv_at hl 1 rfl) ?_
          refine lv_iconst (v := nI 4) hx hb dJ6_numberOfLeadingZeros_0f7a4_58 (by decide) ?_
          refine n_iushr hx hb (by first | decide | omega) (by first | decide | omega) dJ6_numberOfLeadingZeros_0f7a4_59 ?_
          refine lv_istore_n (lv' := [(0, .int (nI ((d / 2 ^ 8) / 2 ^ 4))), (1, .int (nI 19))]) hx hb dJ6_numberOfLeadingZeros_0f7a4_60 rfl hl (by decide) rfl (fun ls hl => ?_)
          refine lv_iload_n hx hb dJ6_numberOfLeadingZeros_0f7a4_61 rfl (lv_at hl 0 rfl) ?_
          refine lv_iconst (v := nI 4) hx hb dJ6_numberOfLeadingZeros_0f7a4_62 (by decide) ?_
          refine n_icmp_lt (tgt := 73) hx hb (by first | decide | omega) (by first | decide | omega) dJ6_numberOfLeadingZeros_0f7a4_63 (by decide) (fun h_63 => ?_) (fun h_63 => ?_)
          · skip
            refine lv_iload_n hx hb dJ6_numberOfLeadingZeros_0f7a4_73 rfl (lv_at hl 1 rfl) ?_
            refine lv_iload_n hx hb dJ6_numberOfLeadingZeros_0f7a4_74 rfl (lv_at hl 0 rfl) ?_
            refine lv_iconst (v := nI 1) hx hb dJ6_numberOfLeadingZeros_0f7a4_75 (by decide) ?_
            refine n_iushr hx hb (by first | decide | omega) (by first | decide | omega) dJ6_numberOfLeadingZeros_0f7a4_76 ?_
            refine n_isub hx hb (by first | decide | omega) dJ6_numberOfLeadingZeros_0f7a4_77 ?_
            exact (p_iret C hw (⟨19 - (((d / 2 ^ 8) / 2 ^ 4) / 2 ^ 1), (by omega), rfl, rfl⟩) hr hlocks dJ6_numberOfLeadingZeros_0f7a4_78)
          · skip
            refine lv_iinc (v := (nI 17)) (lv' := [(1, .int (nI 17)), (0, .int (nI ((d / 2 ^ 8) / 2 ^ 4)))]) hx hb dJ6_numberOfLeadingZeros_0f7a4_66 hl (k := 1) rfl (by decide) (by decide) rfl (fun ls hl => ?_)
            refine lv_iload_n hx hb dJ6_numberOfLeadingZeros_0f7a4_69 rfl (lv_at hl 1 rfl) ?_
            refine lv_iconst (v := nI 2) hx hb dJ6_numberOfLeadingZeros_0f7a4_70 (by decide) ?_
            refine n_iushr hx hb (by first | decide | omega) (by first | decide | omega) dJ6_numberOfLeadingZeros_0f7a4_71 ?_
            refine lv_istore_n (lv' := [(0, .int (nI (((d / 2 ^ 8) / 2 ^ 4) / 2 ^ 2))), (1, .int (nI 17))]) hx hb dJ6_numberOfLeadingZeros_0f7a4_72 rfl hl (by decide) rfl (fun ls hl => ?_)
            refine lv_iload_n hx hb dJ6_numberOfLeadingZeros_0f7a4_73 rfl (lv_at hl 1 rfl) ?_
            refine lv_iload_n hx hb dJ6_numberOfLeadingZeros_0f7a4_74 rfl (lv_at hl 0 rfl) ?_
            refine lv_iconst (v := nI 1) hx hb dJ6_numberOfLeadingZeros_0f7a4_75 (by decide) ?_
            refine n_iushr hx hb (by first | decide | omega) (by first | decide | omega) dJ6_numberOfLeadingZeros_0f7a4_76 ?_
            refine n_isub hx hb (by first | decide | omega) dJ6_numberOfLeadingZeros_0f7a4_77 ?_
            exact (p_iret C hw (⟨17 - ((((d / 2 ^ 8) / 2 ^ 4) / 2 ^ 2) / 2 ^ 1), (by omega), rfl, rfl⟩) hr hlocks dJ6_numberOfLeadingZeros_0f7a4_78)
    · exfalso; omega
  · exfalso; omega

theorem hde_X12_checks_S_0 : yJ6_numberOfLeadingZeros_0f7a4.cls ≠ "java/lang/invoke/MethodHandle" ∧ yJ6_numberOfLeadingZeros_0f7a4.cls ≠ "java/lang/invoke/VarHandle" ∧ (parseMethodDescriptor yJ6_numberOfLeadingZeros_0f7a4.desc).map (fun d => d.parameters.length) = some 1 := by decide +kernel
set_option maxHeartbeats 4000000 in
set_option maxRecDepth 100000 in
theorem e_X12_checks (l : Launch) (D : va_G) (cy : Nat → ClassId) (S : pS) (sz : Nat) (st : Nat) (sr : Nat) (sa : Nat) (sb : Nat) (hL_st : st ∈ S.1) (hf_st : S.2 st = .inr (12, [.int (nI 2), .int (nI sa), .int (nI sb), .ref sr])) (hsa1 : 1 ≤ sa) (hsa2 : sa < 512) (hsb1 : 1 ≤ sb) (hsb2 : sb < 2 ^ 31) : Met l yX12_checks (Cond.code yX12_checks cX12_checks 1 (some .int) :: lwU) ({ frames := 1, cells := 0, slots := 0, locals := 21 }) (pPc D cy S sz [.ref st]) (pQi D cy S sz (fun r S' => ∃ (r9 : Nat), (r9 ≤ 31) ∧ r = (nI r9) ∧ S = S')) 0 0 (pA S sz) := by
  refine Met.ofW (cc := cX12_checks) (maxL := 1) (ret := (some .int)) (by decide) rfl ?_
  intro p e s m args below meth c s₁ B hml hv
  obtain ⟨rfl, rfl, C, hw, hA, hr, hlocks⟩ := p_start B hml hv
  have hx := C.1
  have hb := C.2.1
  have hl := lv_entry ([.ref st]) (n := 1) (Nat.le_of_ble_eq_true rfl)
  rw [lg_entry_eq]
  generalize (lg_sl ([.ref st]) ++ List.replicate (1 - (lg_sl ([.ref st])).length) Slot.unset).toArray = ls at hl ⊢
  have hl : lv_has ls 1 [(0, .ref st)] := hl
  have hin_RX12 : ∀ w ∈ u_ws RX12 TX12 4, w ∈ (Cond.code yX12_checks cX12_checks 1 (some .int) :: lwU) := fun w h => mU (sub_RX12 w h)
  refine lv_bipush (v := nI 31) hx hb dX12_checks_0 (by decide) ?_
  refine lv_aload_n hx hb dX12_checks_2 rfl (lv_at hl 0 rfl) ?_
  refine p_get C hw (ci := 12) (Cn := RX12) (T := TX12) (N := 4) hL_st hf_st rfl hin_RX12 1 (by decide) (mU mw_489) rfl rfl dX12_checks_3 ?_
  refine p_calli (va_runS (As := [.int (nI sa)]) (rest := [.int (nI 31)]) C.fix (e_J6_numberOfLeadingZeros_0f7a4 l D cy S s.heap.size sa  (by first | assumption | decide | omega) (by first | assumption | decide | omega)) (va_cwS 1 C.2.2.2.2.1 (gU_S mw_520 mw_521 mw_324 (subU mw_522)) rfl rfl rfl hde_X12_checks_S_0 ⟨Nat.le_of_ble_eq_true rfl, Nat.le_of_ble_eq_true rfl⟩) (p_preS C hw) rfl rfl hl.1 rfl (lv_room (Nat.le_of_ble_eq_true rfl)) dX12_checks_6 ⟨(Nat.le_of_ble_eq_true rfl), (Nat.le_of_ble_eq_true rfl)⟩) hw hA (fun r2 S1 H locs hpost hw => ?_)
  obtain ⟨r93, hc4, hr_, hS_⟩ := hpost
  subst hr_
  subst hS_
  have hr9 := hc4
  refine n_isub hx hb (by omega) dX12_checks_9 ?_
  exact (p_iret C hw (⟨31 - r93, (by omega), rfl, rfl⟩) hr hlocks dX12_checks_10)

theorem hde_X12_checked0_V_0 : yX12_checks.cls = RX12 ∧ yX12_checks.cls ≠ "java/lang/invoke/MethodHandle" ∧ yX12_checks.cls ≠ "java/lang/invoke/VarHandle" ∧ (parseMethodDescriptor yX12_checks.desc).map (fun d => d.parameters.length) = some 0 := by decide +kernel
set_option maxHeartbeats 4000000 in
set_option maxRecDepth 100000 in
theorem e_X12_checked0 (l : Launch) (D : va_G) (cy : Nat → ClassId) (S : pS) (sz : Nat) (st : Nat) (rw : Nat) (sr : Nat) (sa : Nat) (sb : Nat) (rg : Nat → Int32) (hL_st : st ∈ S.1) (hf_st : S.2 st = .inr (12, [.int (nI 2), .int (nI sa), .int (nI sb), .ref sr])) (hL_rw : rw ∈ S.1) (hf_rw : S.2 rw = .inl (cy 0, 0, .inl rg)) (hsa1 : 1 ≤ sa) (hsa2 : sa < 512) (hsb1 : 1 ≤ sb) (hsb2 : sb < 2 ^ 31) : Met l yX12_checked (Cond.code yX12_checked cX12_checked 5 (some (.array .int)) :: lwU) ({ frames := 2, cells := 1, slots := 0, locals := 41 }) (pPc D cy S sz [.ref st, .ref rw]) (pQq D cy S sz (fun r S' => ∃ (w : Nat), r = some w ∧ S'.1 = S.1 ++ [w] ∧ (∀ a_, a_ ∈ S.1 → S'.2 a_ = S.2 a_) ∧ S'.2 w = .inl (cy 0, 0, .inl (fun _ => 0)))) 1 0 (pA S sz) := by
  refine Met.ofW (cc := cX12_checked) (maxL := 5) (ret := (some (.array .int))) (by decide) rfl ?_
  intro p e s m args below meth c s₁ B hml hv
  obtain ⟨rfl, rfl, C, hw, hA, hr, hlocks⟩ := p_start B hml hv
  have hx := C.1
  have hb := C.2.1
  have hl := lv_entry ([.ref st, .ref rw]) (n := 5) (Nat.le_of_ble_eq_true rfl)
  rw [lg_entry_eq]
  generalize (lg_sl ([.ref st, .ref rw]) ++ List.replicate (5 - (lg_sl ([.ref st, .ref rw])).length) Slot.unset).toArray = ls at hl ⊢
  have hl : lv_has ls 5 [(0, .ref st), (1, .ref rw)] := hl
  have hin_RX12 : ∀ w ∈ u_ws RX12 TX12 4, w ∈ (Cond.code yX12_checked cX12_checked 5 (some (.array .int)) :: lwU) := fun w h => mU (sub_RX12 w h)
  refine lv_aload_n hx hb dX12_checked_0 rfl (lv_at hl 0 rfl) ?_
  refine p_get C hw (ci := 12) (Cn := RX12) (T := TX12) (N := 4) hL_st hf_st rfl hin_RX12 2 (by decide) (mU mw_490) rfl rfl dX12_checked_1 ?_
  refine lv_aload_n hx hb dX12_checked_4 rfl (lv_at hl 0 rfl) ?_
  refine p_calli (va_runV (As := []) (rest := [.int (nI sb)]) C.fix (e_X12_checks l D cy S s.heap.size st sr sa sb hL_st hf_st (by first | assumption | decide | omega) (by first | assumption | decide | omega) (by first | assumption | decide | omega) (by first | assumption | decide | omega)) (cwV 0 C.2.2.2.2.1 (gU_V mw_516 mw_517 mw_518 mw_407 (subU mw_519)) rfl rfl rfl hde_X12_checked0_V_0 ⟨Nat.le_of_ble_eq_true rfl, Nat.le_of_ble_eq_true rfl⟩) (p_preV C hw hL_st hf_st rfl) rfl rfl hl.1 rfl (lv_room (Nat.le_of_ble_eq_true rfl)) dX12_checked_5 ⟨(Nat.le_of_ble_eq_true rfl), (Nat.le_of_ble_eq_true rfl)⟩) hw hA (fun r2 S1 H locs hpost hw => ?_)
  obtain ⟨r93, hc4, hr_, hS_⟩ := hpost
  subst hr_
  subst hS_
  refine n_iadd hx hb dX12_checked_8 ?_
  refine lv_istore_n (lv' := [(2, .int (nI (sb + r93))), (0, .ref st), (1, .ref rw)]) hx hb dX12_checked_9 rfl hl (by decide) rfl (fun ls hl => ?_)
  refine lv_aload_n hx hb dX12_checked_10 rfl (lv_at hl 2 rfl) ?_
  refine n_len C hw 0 rfl hL_rw hf_rw (n := 0) rfl dX12_checked_11 ?_
  refine lv_aload_n hx hb dX12_checked_12 rfl (lv_at hl 1 rfl) ?_
  refine p_get C hw (ci := 12) (Cn := RX12) (T := TX12) (N := 4) hL_st hf_st rfl hin_RX12 2 (by decide) (mU mw_490) rfl rfl dX12_checked_13 ?_
  refine n_idiv hx hb (by omega) (by omega) (by omega) dX12_checked_16 ?_
  refine n_ren (b := 0) (by first | rfl | omega | simp) ?_
  refine lv_iload_n hx hb dX12_checked_17 rfl (lv_at hl 0 rfl) ?_
  refine n_imul hx hb dX12_checked_18 ?_
  refine n_ren (b := 0) (by first | rfl | omega | simp) ?_
  refine p_newa C hw hA (mU mw_59) 0 rfl (n := 0) (by first | decide | omega) (Nat.le_of_ble_eq_true rfl) (Nat.le_of_ble_eq_true rfl) dX12_checked_19 (fun w H hq_w hw => ?_)
  obtain ⟨S5, hS5⟩ : ∃ z, z = pnew S w (.inl (cy 0, 0, .inl (fun _ => 0))) := ⟨_, rfl⟩
  replace hw : pW D (pA S s.heap.size) s.heap S5 H locs := by rw [hS5]; exact hw
  have hL6 : w ∈ S5.1 := by rw [hS5]; exact List.mem_append_right _ List.mem_cons_self
  have hf7 : S5.2 w = .inl (cy 0, 0, .inl (fun _ => 0)) := by rw [hS5]; exact pnew_s
  refine lv_astore_n (lv' := [(3, .ref w), (2, .int (nI (sb + r93))), (0, .ref st), (1, .ref rw)]) hx hb dX12_checked_21 rfl hl (by decide) rfl (fun ls hl => ?_)
  refine lv_iconst (v := nI 0) hx hb dX12_checked_22 (by decide) ?_
  refine lv_istore (lv' := [(4, .int (nI 0)), (3, .ref w), (2, .int (nI (sb + r93))), (0, .ref st), (1, .ref rw)]) hx hb dX12_checked_23 hl (by decide) rfl (fun ls hl => ?_)
  refine lv_iload hx hb dX12_checked_25 (lv_at hl 0 rfl) ?_
  refine lv_aload_n hx hb dX12_checked_27 rfl (lv_at hl 3 rfl) ?_
  have hL8 : st ∈ S5.1 := by rw [hS5]; exact List.mem_append_left _ hL_st
  have hf9 : S5.2 st = .inr (12, [.int (nI 2), .int (nI sa), .int (nI sb), .ref sr]) := by rw [hS5]; exact (pnew_n (fun z : st = w => hq_w (by rw [← z]; exact hL_st))).trans hf_st
  refine p_get C hw (ci := 12) (Cn := RX12) (T := TX12) (N := 4) hL8 hf9 rfl hin_RX12 2 (by decide) (mU mw_490) rfl rfl dX12_checked_28 ?_
  refine n_imul hx hb dX12_checked_31 ?_
  refine n_ren (b := 0) (by first | rfl | omega | simp) ?_
  refine lv_aload_n hx hb dX12_checked_32 rfl (lv_at hl 4 rfl) ?_
  have hL10 : rw ∈ S5.1 := by rw [hS5]; exact List.mem_append_left _ hL_rw
  have hf11 : S5.2 rw = .inl (cy 0, 0, .inl rg) := by rw [hS5]; exact (pnew_n (fun z : rw = w => hq_w (by rw [← z]; exact hL_rw))).trans hf_rw
  refine n_len C hw 0 rfl hL10 hf11 (n := 0) rfl dX12_checked_33 ?_
  refine n_icmp_ge (tgt := 93) hx hb (by first | decide | omega) (by first | decide | omega) dX12_checked_34 (by decide) (fun h_34 => ?_) (fun h_34 => ?_)
  · skip
    refine lv_aload_n hx hb dX12_checked_93 rfl (lv_at hl 1 rfl) ?_
    exact (p_qret C hw (v := some w) (⟨w, rfl, (by simp only [hS5, pup, pnew, List.append_nil, List.append_assoc, List.cons_append, List.nil_append]), (fun a_ ha_ => (show S5.2 a_ = S.2 a_ from by rw [hS5]; exact pnew_n (fun z : a_ = w => hq_w (by rw [← z]; exact ha_)))), hf7⟩) hr (by first | exact Or.inl ⟨_, rfl⟩ | exact Or.inr ⟨_, rfl⟩) hlocks dX12_checked_94)
  · exact absurd h_34 (by first | decide | omega)

set_option maxHeartbeats 4000000 in
set_option maxRecDepth 100000 in
theorem e_X12_trailed0 (l : Launch) (D : va_G) (cy : Nat → ClassId) (S : pS) (sz : Nat) (st : Nat) (rw : Nat) (rg : Nat → Int32) (hL_rw : rw ∈ S.1) (hf_rw : S.2 rw = .inl (cy 0, 0, .inl rg))  : Met l yX12_trailed (Cond.code yX12_trailed cX12_trailed 7 (some (.array .int)) :: lwU) ({ frames := 0, cells := 0, slots := 0, locals := 0 }) (pPc D cy S sz [.ref st, .ref rw]) (pQq D cy S sz (fun r S' => r = some rw ∧ S = S')) 0 0 (pA S sz) := by
  refine Met.ofW (cc := cX12_trailed) (maxL := 7) (ret := (some (.array .int))) (by decide) rfl ?_
  intro p e s m args below meth c s₁ B hml hv
  obtain ⟨rfl, rfl, C, hw, hA, hr, hlocks⟩ := p_start B hml hv
  have hx := C.1
  have hb := C.2.1
  have hl := lv_entry ([.ref st, .ref rw]) (n := 7) (Nat.le_of_ble_eq_true rfl)
  rw [lg_entry_eq]
  generalize (lg_sl ([.ref st, .ref rw]) ++ List.replicate (7 - (lg_sl ([.ref st, .ref rw])).length) Slot.unset).toArray = ls at hl ⊢
  have hl : lv_has ls 7 [(0, .ref st), (1, .ref rw)] := hl
  refine lv_aload_n hx hb dX12_trailed_0 rfl (lv_at hl 1 rfl) ?_
  refine n_len C hw 0 rfl hL_rw hf_rw (n := 0) rfl dX12_trailed_1 ?_
  refine n_if_ne (tgt := 7) hx hb (by first | decide | omega) dX12_trailed_2 (by decide) (fun h_2 => ?_) (fun h_2 => ?_)
  · exact absurd h_2 (by first | decide | omega)
  · skip
    refine lv_aload_n hx hb dX12_trailed_5 rfl (lv_at hl 1 rfl) ?_
    exact (p_qret C hw (v := some rw) (⟨rfl, rfl⟩) hr (by first | exact Or.inl ⟨_, rfl⟩ | exact Or.inr ⟨_, rfl⟩) hlocks dX12_trailed_6)

set_option maxHeartbeats 4000000 in
set_option maxRecDepth 100000 in
theorem e_X12_woven_0 (l : Launch) (D : va_G) (cy : Nat → ClassId) (S : pS) (sz : Nat) (st : Nat) (rw : Nat) (rg : Nat → Int32) (hL_rw : rw ∈ S.1) (hf_rw : S.2 rw = .inl (cy 0, 0, .inl rg))  : Met l yX12_woven_ (Cond.code yX12_woven_ cX12_woven_ 4 (some (.array .int)) :: lwU) ({ frames := 0, cells := 1, slots := 0, locals := 0 }) (pPc D cy S sz [.ref st, .ref rw]) (pQq D cy S sz (fun r S' => ∃ (w : Nat), r = some w ∧ S'.1 = S.1 ++ [w] ∧ (∀ a_, a_ ∈ S.1 → S'.2 a_ = S.2 a_) ∧ S'.2 w = .inl (cy 0, 0, .inl (fun _ => 0)))) 1 0 (pA S sz) := by
  refine Met.ofW (cc := cX12_woven_) (maxL := 4) (ret := (some (.array .int))) (by decide) rfl ?_
  intro p e s m args below meth c s₁ B hml hv
  obtain ⟨rfl, rfl, C, hw, hA, hr, hlocks⟩ := p_start B hml hv
  have hx := C.1
  have hb := C.2.1
  have hl := lv_entry ([.ref st, .ref rw]) (n := 4) (Nat.le_of_ble_eq_true rfl)
  rw [lg_entry_eq]
  generalize (lg_sl ([.ref st, .ref rw]) ++ List.replicate (4 - (lg_sl ([.ref st, .ref rw])).length) Slot.unset).toArray = ls at hl ⊢
  have hl : lv_has ls 4 [(0, .ref st), (1, .ref rw)] := hl
  refine lv_aload_n hx hb dX12_woven__0 rfl (lv_at hl 1 rfl) ?_
  refine n_len C hw 0 rfl hL_rw hf_rw (n := 0) rfl dX12_woven__1 ?_
  refine p_newa C hw hA (mU mw_59) 0 rfl (n := 0) (by first | decide | omega) (Nat.le_of_ble_eq_true rfl) (Nat.le_of_ble_eq_true rfl) dX12_woven__2 (fun w H hq_w hw => ?_)
  obtain ⟨S1, hS1⟩ : ∃ z, z = pnew S w (.inl (cy 0, 0, .inl (fun _ => 0))) := ⟨_, rfl⟩
  replace hw : pW D (pA S s.heap.size) s.heap S1 H [] := by rw [hS1]; exact hw
  have hL2 : w ∈ S1.1 := by rw [hS1]; exact List.mem_append_right _ List.mem_cons_self
  have hf3 : S1.2 w = .inl (cy 0, 0, .inl (fun _ => 0)) := by rw [hS1]; exact pnew_s
  refine lv_astore_n (lv' := [(2, .ref w), (0, .ref st), (1, .ref rw)]) hx hb dX12_woven__4 rfl hl (by decide) rfl (fun ls hl => ?_)
  refine lv_iconst (v := nI 0) hx hb dX12_woven__5 (by decide) ?_
  refine lv_istore_n (lv' := [(3, .int (nI 0)), (2, .ref w), (0, .ref st), (1, .ref rw)]) hx hb dX12_woven__6 rfl hl (by decide) rfl (fun ls hl => ?_)
  refine lv_iload_n hx hb dX12_woven__7 rfl (lv_at hl 0 rfl) ?_
  refine lv_aload_n hx hb dX12_woven__8 rfl (lv_at hl 3 rfl) ?_
  have hL4 : rw ∈ S1.1 := by rw [hS1]; exact List.mem_append_left _ hL_rw
  have hf5 : S1.2 rw = .inl (cy 0, 0, .inl rg) := by rw [hS1]; exact (pnew_n (fun z : rw = w => hq_w (by rw [← z]; exact hL_rw))).trans hf_rw
  refine n_len C hw 0 rfl hL4 hf5 (n := 0) rfl dX12_woven__9 ?_
  refine n_icmp_ge (tgt := 29) hx hb (by first | decide | omega) (by first | decide | omega) dX12_woven__10 (by decide) (fun h_10 => ?_) (fun h_10 => ?_)
  · skip
    refine lv_aload_n hx hb dX12_woven__29 rfl (lv_at hl 1 rfl) ?_
    exact (p_qret C hw (v := some w) (⟨w, rfl, (by simp only [hS1, pup, pnew, List.append_nil, List.append_assoc, List.cons_append, List.nil_append]), (fun a_ ha_ => (show S1.2 a_ = S.2 a_ from by rw [hS1]; exact pnew_n (fun z : a_ = w => hq_w (by rw [← z]; exact ha_)))), hf3⟩) hr (by first | exact Or.inl ⟨_, rfl⟩ | exact Or.inr ⟨_, rfl⟩) hlocks dX12_woven__30)
  · exact absurd h_10 (by first | decide | omega)

theorem hde_X12_coderep_V_0 : yX12_repeated.cls = RX12 ∧ yX12_repeated.cls ≠ "java/lang/invoke/MethodHandle" ∧ yX12_repeated.cls ≠ "java/lang/invoke/VarHandle" ∧ (parseMethodDescriptor yX12_repeated.desc).map (fun d => d.parameters.length) = some 1 := by decide +kernel
set_option maxHeartbeats 4000000 in
set_option maxRecDepth 100000 in
theorem e_X12_coderep (l : Launch) (D : va_G) (cy : Nat → ClassId) (S : pS) (sz : Nat) (st : Nat) (rw : Nat) (sr : Nat) (sa : Nat) (sb : Nat) (rg : Nat → Int32) (hL_st : st ∈ S.1) (hf_st : S.2 st = .inr (12, [.int (nI 0), .int (nI sa), .int (nI sb), .ref sr])) (hL_rw : rw ∈ S.1) (hf_rw : S.2 rw = .inl (cy 0, 0, .inl rg))  : Met l yX12_code (Cond.code yX12_code cX12_code 2 (some (.array .int)) :: lwU) ({ frames := 1, cells := 1, slots := 0, locals := 23 }) (pPc D cy S sz [.ref st, .ref rw]) (pQq D cy S sz (fun r S' => ∃ (w : Nat), r = some w ∧ S'.1 = S.1 ++ [w] ∧ (∀ a_, a_ ∈ S.1 → S'.2 a_ = S.2 a_) ∧ S'.2 w = .inl (cy 0, 0, .inl (fun _ => 0)))) 1 0 (pA S sz) := by
  refine Met.ofW (cc := cX12_code) (maxL := 2) (ret := (some (.array .int))) (by decide) rfl ?_
  intro p e s m args below meth c s₁ B hml hv
  obtain ⟨rfl, rfl, C, hw, hA, hr, hlocks⟩ := p_start B hml hv
  have hx := C.1
  have hb := C.2.1
  have hl := lv_entry ([.ref st, .ref rw]) (n := 2) (Nat.le_of_ble_eq_true rfl)
  rw [lg_entry_eq]
  generalize (lg_sl ([.ref st, .ref rw]) ++ List.replicate (2 - (lg_sl ([.ref st, .ref rw])).length) Slot.unset).toArray = ls at hl ⊢
  have hl : lv_has ls 2 [(0, .ref st), (1, .ref rw)] := hl
  have hin_RX12 : ∀ w ∈ u_ws RX12 TX12 4, w ∈ (Cond.code yX12_code cX12_code 2 (some (.array .int)) :: lwU) := fun w h => mU (sub_RX12 w h)
  refine lv_aload_n hx hb dX12_code_0 rfl (lv_at hl 0 rfl) ?_
  refine p_get C hw (ci := 12) (Cn := RX12) (T := TX12) (N := 4) hL_st hf_st rfl hin_RX12 0 (by decide) (mU mw_488) rfl rfl dX12_code_1 ?_
  refine lv_tableIn (tgt := 36) (off := 32) hx hb dX12_code_4 (by decide) (by decide) (by decide) (by decide) ?_
  refine lv_aload_n hx hb dX12_code_36 rfl (lv_at hl 0 rfl) ?_
  refine lv_aload_n hx hb dX12_code_37 rfl (lv_at hl 1 rfl) ?_
  refine p_callq (va_runV (As := [.ref rw]) (rest := []) C.fix (e_X12_repeated0 l D cy S s.heap.size st rw sr sa sb rg hL_st hf_st hL_rw hf_rw ) (cwV 1 C.2.2.2.2.1 (gU_V mw_491 mw_492 mw_493 mw_407 (subU mw_494)) rfl rfl rfl hde_X12_coderep_V_0 ⟨Nat.le_of_ble_eq_true rfl, Nat.le_of_ble_eq_true rfl⟩) (p_preV C hw hL_st hf_st rfl) rfl rfl hl.1 rfl (lv_room (Nat.le_of_ble_eq_true rfl)) dX12_code_38 ⟨(Nat.le_of_ble_eq_true rfl), (Nat.le_of_ble_eq_true rfl)⟩) hw hA (fun r2 S1 H locs hpost hw => ?_)
  obtain ⟨w, hr_, hS3, hfr4, hf5⟩ := hpost
  subst hr_
  have hq6 : w ∉ S.1 := p_fresh hw hS3 0 rfl
  have hL7 : w ∈ S1.1 := by rw [hS3]; exact List.mem_append_right _ (List.mem_of_getElem? (i := 0) rfl)
  exact (p_qret C hw (v := some w) (⟨w, rfl, (by simp only [hS3, pup, pnew, List.append_nil, List.append_assoc, List.cons_append, List.nil_append]), (fun a_ ha_ => (hfr4 a_ ha_ )), hf5⟩) hr (by first | exact Or.inl ⟨_, rfl⟩ | exact Or.inr ⟨_, rfl⟩) hlocks dX12_code_41)

theorem hde_X12_codeblk_S_0 : yX12_filled.cls ≠ "java/lang/invoke/MethodHandle" ∧ yX12_filled.cls ≠ "java/lang/invoke/VarHandle" ∧ (parseMethodDescriptor yX12_filled.desc).map (fun d => d.parameters.length) = some 2 := by decide +kernel
theorem hde_X12_codeblk_V_1 : yX12_blocks.cls = RX12 ∧ yX12_blocks.cls ≠ "java/lang/invoke/MethodHandle" ∧ yX12_blocks.cls ≠ "java/lang/invoke/VarHandle" ∧ (parseMethodDescriptor yX12_blocks.desc).map (fun d => d.parameters.length) = some 1 := by decide +kernel
set_option maxHeartbeats 4000000 in
set_option maxRecDepth 100000 in
theorem e_X12_codeblk (l : Launch) (D : va_G) (cy : Nat → ClassId) (S : pS) (sz : Nat) (st : Nat) (rw : Nat) (sr : Nat) (sa : Nat) (sb : Nat) (rg : Nat → Int32) (hL_st : st ∈ S.1) (hf_st : S.2 st = .inr (12, [.int (nI 1), .int (nI sa), .int (nI sb), .ref sr])) (hL_rw : rw ∈ S.1) (hf_rw : S.2 rw = .inl (cy 0, 0, .inl rg)) (hsa1 : 1 ≤ sa) (hsa2 : sa < 2 ^ 31) : Met l yX12_code (Cond.code yX12_code cX12_code 2 (some (.array .int)) :: lwU) ({ frames := 2, cells := 2, slots := 0, locals := 82 }) (pPc D cy S sz [.ref st, .ref rw]) (pQq D cy S sz (fun r S' => ∃ (fl : Nat) (w : Nat), r = some w ∧ S'.1 = S.1 ++ [fl, w] ∧ (∀ a_, a_ ∈ S.1 → S'.2 a_ = S.2 a_) ∧ S'.2 w = .inl (cy 0, 0, .inl (fun _ => 0)))) 2 0 (pA S sz) := by
  refine Met.ofW (cc := cX12_code) (maxL := 2) (ret := (some (.array .int))) (by decide) rfl ?_
  intro p e s m args below meth c s₁ B hml hv
  obtain ⟨rfl, rfl, C, hw, hA, hr, hlocks⟩ := p_start B hml hv
  have hx := C.1
  have hb := C.2.1
  have hl := lv_entry ([.ref st, .ref rw]) (n := 2) (Nat.le_of_ble_eq_true rfl)
  rw [lg_entry_eq]
  generalize (lg_sl ([.ref st, .ref rw]) ++ List.replicate (2 - (lg_sl ([.ref st, .ref rw])).length) Slot.unset).toArray = ls at hl ⊢
  have hl : lv_has ls 2 [(0, .ref st), (1, .ref rw)] := hl
  have hin_RX12 : ∀ w ∈ u_ws RX12 TX12 4, w ∈ (Cond.code yX12_code cX12_code 2 (some (.array .int)) :: lwU) := fun w h => mU (sub_RX12 w h)
  refine lv_aload_n hx hb dX12_code_0 rfl (lv_at hl 0 rfl) ?_
  refine p_get C hw (ci := 12) (Cn := RX12) (T := TX12) (N := 4) hL_st hf_st rfl hin_RX12 0 (by decide) (mU mw_488) rfl rfl dX12_code_1 ?_
  refine lv_tableIn (tgt := 42) (off := 38) hx hb dX12_code_4 (by decide) (by decide) (by decide) (by decide) ?_
  refine lv_aload_n hx hb dX12_code_42 rfl (lv_at hl 0 rfl) ?_
  refine lv_aload_n hx hb dX12_code_43 rfl (lv_at hl 1 rfl) ?_
  refine lv_aload_n hx hb dX12_code_44 rfl (lv_at hl 0 rfl) ?_
  refine p_get C hw (ci := 12) (Cn := RX12) (T := TX12) (N := 4) hL_st hf_st rfl hin_RX12 1 (by decide) (mU mw_489) rfl rfl dX12_code_45 ?_
  refine p_callq (va_runS (As := [.ref rw, .int (nI sa)]) (rest := [.ref st]) C.fix (e_X12_filled0 l D cy S s.heap.size rw sa rg hL_rw hf_rw (by first | assumption | decide | omega) (by first | assumption | decide | omega)) (va_cwS 2 C.2.2.2.2.1 (gU_S mw_495 mw_496 mw_407 (subU mw_497)) rfl rfl rfl hde_X12_codeblk_S_0 ⟨Nat.le_of_ble_eq_true rfl, Nat.le_of_ble_eq_true rfl⟩) (p_preS C hw) rfl rfl hl.1 rfl (lv_room (Nat.le_of_ble_eq_true rfl)) dX12_code_48 ⟨(Nat.le_of_ble_eq_true rfl), (Nat.le_of_ble_eq_true rfl)⟩) hw hA (fun r2 S1 H locs hpost hw => ?_)
  obtain ⟨fl, hr_, hS3, hfr4, hf5⟩ := hpost
  subst hr_
  have hq6 : fl ∉ S.1 := p_fresh hw hS3 0 rfl
  have hL7 : fl ∈ S1.1 := by rw [hS3]; exact List.mem_append_right _ (List.mem_of_getElem? (i := 0) rfl)
  have hL8 : st ∈ S1.1 := by rw [hS3]; exact List.mem_append_left _ hL_st
  have hf9 : S1.2 st = .inr (12, [.int (nI 1), .int (nI sa), .int (nI sb), .ref sr]) := (hfr4 st hL_st ).trans hf_st
  refine p_callq (va_runV (As := [.ref fl]) (rest := []) C.fix (e_X12_blocks0 l D cy S1 H.size st fl sr sa sb (va_cpy rg (fun _ => 0) 0 0 0) hL8 hf9 hL7 hf5 (by first | assumption | decide | omega) (by first | assumption | decide | omega)) (cwV 1 C.2.2.2.2.1 (gU_V mw_499 mw_500 mw_501 mw_407 (subU mw_502)) rfl rfl rfl hde_X12_codeblk_V_1 ⟨Nat.le_of_ble_eq_true rfl, Nat.le_of_ble_eq_true rfl⟩) (p_preV C hw hL8 hf9 rfl) rfl rfl hl.1 rfl (lv_room (Nat.le_of_ble_eq_true rfl)) dX12_code_51 ⟨(Nat.le_of_ble_eq_true rfl), (Nat.le_of_ble_eq_true rfl)⟩) hw hA (fun r11 S10 H locs hpost hw => ?_)
  obtain ⟨w, hr_, hS12, hfr13, hf14⟩ := hpost
  subst hr_
  have hq15 : w ∉ S1.1 := p_fresh hw hS12 0 rfl
  have hL16 : w ∈ S10.1 := by rw [hS12]; exact List.mem_append_right _ (List.mem_of_getElem? (i := 0) rfl)
  exact (p_qret C hw (v := some w) (⟨fl, w, rfl, (by simp only [hS12, hS3, pup, pnew, List.append_nil, List.append_assoc, List.cons_append, List.nil_append]), (fun a_ ha_ => ((hfr13 a_ (show a_ ∈ S1.1 from by rw [hS3]; exact List.mem_append_left _ ha_) ).trans (hfr4 a_ ha_ ))), hf14⟩) hr (by first | exact Or.inl ⟨_, rfl⟩ | exact Or.inr ⟨_, rfl⟩) hlocks dX12_code_54)

theorem hde_X12_codechk_S_0 : yX12_filled.cls ≠ "java/lang/invoke/MethodHandle" ∧ yX12_filled.cls ≠ "java/lang/invoke/VarHandle" ∧ (parseMethodDescriptor yX12_filled.desc).map (fun d => d.parameters.length) = some 2 := by decide +kernel
theorem hde_X12_codechk_V_1 : yX12_checked.cls = RX12 ∧ yX12_checked.cls ≠ "java/lang/invoke/MethodHandle" ∧ yX12_checked.cls ≠ "java/lang/invoke/VarHandle" ∧ (parseMethodDescriptor yX12_checked.desc).map (fun d => d.parameters.length) = some 1 := by decide +kernel
set_option maxHeartbeats 4000000 in
set_option maxRecDepth 100000 in
theorem e_X12_codechk (l : Launch) (D : va_G) (cy : Nat → ClassId) (S : pS) (sz : Nat) (st : Nat) (rw : Nat) (sr : Nat) (sa : Nat) (sb : Nat) (rg : Nat → Int32) (hL_st : st ∈ S.1) (hf_st : S.2 st = .inr (12, [.int (nI 2), .int (nI sa), .int (nI sb), .ref sr])) (hL_rw : rw ∈ S.1) (hf_rw : S.2 rw = .inl (cy 0, 0, .inl rg)) (hsa1 : 1 ≤ sa) (hsa2 : sa < 512) (hsb1 : 1 ≤ sb) (hsb2 : sb < 2 ^ 31) : Met l yX12_code (Cond.code yX12_code cX12_code 2 (some (.array .int)) :: lwU) ({ frames := 3, cells := 2, slots := 0, locals := 82 }) (pPc D cy S sz [.ref st, .ref rw]) (pQq D cy S sz (fun r S' => ∃ (fl : Nat) (w : Nat), r = some w ∧ S'.1 = S.1 ++ [fl, w] ∧ (∀ a_, a_ ∈ S.1 → S'.2 a_ = S.2 a_) ∧ S'.2 w = .inl (cy 0, 0, .inl (fun _ => 0)))) 2 0 (pA S sz) := by
  refine Met.ofW (cc := cX12_code) (maxL := 2) (ret := (some (.array .int))) (by decide) rfl ?_
  intro p e s m args below meth c s₁ B hml hv
  obtain ⟨rfl, rfl, C, hw, hA, hr, hlocks⟩ := p_start B hml hv
  have hx := C.1
  have hb := C.2.1
  have hl := lv_entry ([.ref st, .ref rw]) (n := 2) (Nat.le_of_ble_eq_true rfl)
  rw [lg_entry_eq]
  generalize (lg_sl ([.ref st, .ref rw]) ++ List.replicate (2 - (lg_sl ([.ref st, .ref rw])).length) Slot.unset).toArray = ls at hl ⊢
  have hl : lv_has ls 2 [(0, .ref st), (1, .ref rw)] := hl
  have hin_RX12 : ∀ w ∈ u_ws RX12 TX12 4, w ∈ (Cond.code yX12_code cX12_code 2 (some (.array .int)) :: lwU) := fun w h => mU (sub_RX12 w h)
  refine lv_aload_n hx hb dX12_code_0 rfl (lv_at hl 0 rfl) ?_
  refine p_get C hw (ci := 12) (Cn := RX12) (T := TX12) (N := 4) hL_st hf_st rfl hin_RX12 0 (by decide) (mU mw_488) rfl rfl dX12_code_1 ?_
  refine lv_tableIn (tgt := 55) (off := 51) hx hb dX12_code_4 (by decide) (by decide) (by decide) (by decide) ?_
  refine lv_aload_n hx hb dX12_code_55 rfl (lv_at hl 0 rfl) ?_
  refine lv_aload_n hx hb dX12_code_56 rfl (lv_at hl 1 rfl) ?_
  refine lv_aload_n hx hb dX12_code_57 rfl (lv_at hl 0 rfl) ?_
  refine p_get C hw (ci := 12) (Cn := RX12) (T := TX12) (N := 4) hL_st hf_st rfl hin_RX12 2 (by decide) (mU mw_490) rfl rfl dX12_code_58 ?_
  refine p_callq (va_runS (As := [.ref rw, .int (nI sb)]) (rest := [.ref st]) C.fix (e_X12_filled0 l D cy S s.heap.size rw sb rg hL_rw hf_rw (by first | assumption | decide | omega) (by first | assumption | decide | omega)) (va_cwS 2 C.2.2.2.2.1 (gU_S mw_495 mw_496 mw_407 (subU mw_497)) rfl rfl rfl hde_X12_codechk_S_0 ⟨Nat.le_of_ble_eq_true rfl, Nat.le_of_ble_eq_true rfl⟩) (p_preS C hw) rfl rfl hl.1 rfl (lv_room (Nat.le_of_ble_eq_true rfl)) dX12_code_61 ⟨(Nat.le_of_ble_eq_true rfl), (Nat.le_of_ble_eq_true rfl)⟩) hw hA (fun r2 S1 H locs hpost hw => ?_)
  obtain ⟨fl, hr_, hS3, hfr4, hf5⟩ := hpost
  subst hr_
  have hq6 : fl ∉ S.1 := p_fresh hw hS3 0 rfl
  have hL7 : fl ∈ S1.1 := by rw [hS3]; exact List.mem_append_right _ (List.mem_of_getElem? (i := 0) rfl)
  have hL8 : st ∈ S1.1 := by rw [hS3]; exact List.mem_append_left _ hL_st
  have hf9 : S1.2 st = .inr (12, [.int (nI 2), .int (nI sa), .int (nI sb), .ref sr]) := (hfr4 st hL_st ).trans hf_st
  refine p_callq (va_runV (As := [.ref fl]) (rest := []) C.fix (e_X12_checked0 l D cy S1 H.size st fl sr sa sb (va_cpy rg (fun _ => 0) 0 0 0) hL8 hf9 hL7 hf5 (by first | assumption | decide | omega) (by first | assumption | decide | omega) (by first | assumption | decide | omega) (by first | assumption | decide | omega)) (cwV 1 C.2.2.2.2.1 (gU_V mw_512 mw_513 mw_514 mw_407 (subU mw_515)) rfl rfl rfl hde_X12_codechk_V_1 ⟨Nat.le_of_ble_eq_true rfl, Nat.le_of_ble_eq_true rfl⟩) (p_preV C hw hL8 hf9 rfl) rfl rfl hl.1 rfl (lv_room (Nat.le_of_ble_eq_true rfl)) dX12_code_64 ⟨(Nat.le_of_ble_eq_true rfl), (Nat.le_of_ble_eq_true rfl)⟩) hw hA (fun r11 S10 H locs hpost hw => ?_)
  obtain ⟨w, hr_, hS12, hfr13, hf14⟩ := hpost
  subst hr_
  have hq15 : w ∉ S1.1 := p_fresh hw hS12 0 rfl
  have hL16 : w ∈ S10.1 := by rw [hS12]; exact List.mem_append_right _ (List.mem_of_getElem? (i := 0) rfl)
  exact (p_qret C hw (v := some w) (⟨fl, w, rfl, (by simp only [hS12, hS3, pup, pnew, List.append_nil, List.append_assoc, List.cons_append, List.nil_append]), (fun a_ ha_ => ((hfr13 a_ (show a_ ∈ S1.1 from by rw [hS3]; exact List.mem_append_left _ ha_) ).trans (hfr4 a_ ha_ ))), hf14⟩) hr (by first | exact Or.inl ⟨_, rfl⟩ | exact Or.inr ⟨_, rfl⟩) hlocks dX12_code_67)

theorem hde_X12_codetrl_V_0 : yX12_trailed.cls = RX12 ∧ yX12_trailed.cls ≠ "java/lang/invoke/MethodHandle" ∧ yX12_trailed.cls ≠ "java/lang/invoke/VarHandle" ∧ (parseMethodDescriptor yX12_trailed.desc).map (fun d => d.parameters.length) = some 1 := by decide +kernel
set_option maxHeartbeats 4000000 in
set_option maxRecDepth 100000 in
theorem e_X12_codetrl (l : Launch) (D : va_G) (cy : Nat → ClassId) (S : pS) (sz : Nat) (st : Nat) (rw : Nat) (sr : Nat) (sa : Nat) (sb : Nat) (rg : Nat → Int32) (hL_st : st ∈ S.1) (hf_st : S.2 st = .inr (12, [.int (nI 3), .int (nI sa), .int (nI sb), .ref sr])) (hL_rw : rw ∈ S.1) (hf_rw : S.2 rw = .inl (cy 0, 0, .inl rg))  : Met l yX12_code (Cond.code yX12_code cX12_code 2 (some (.array .int)) :: lwU) ({ frames := 1, cells := 0, slots := 0, locals := 26 }) (pPc D cy S sz [.ref st, .ref rw]) (pQq D cy S sz (fun r S' => r = some rw ∧ S = S')) 0 0 (pA S sz) := by
  refine Met.ofW (cc := cX12_code) (maxL := 2) (ret := (some (.array .int))) (by decide) rfl ?_
  intro p e s m args below meth c s₁ B hml hv
  obtain ⟨rfl, rfl, C, hw, hA, hr, hlocks⟩ := p_start B hml hv
  have hx := C.1
  have hb := C.2.1
  have hl := lv_entry ([.ref st, .ref rw]) (n := 2) (Nat.le_of_ble_eq_true rfl)
  rw [lg_entry_eq]
  generalize (lg_sl ([.ref st, .ref rw]) ++ List.replicate (2 - (lg_sl ([.ref st, .ref rw])).length) Slot.unset).toArray = ls at hl ⊢
  have hl : lv_has ls 2 [(0, .ref st), (1, .ref rw)] := hl
  have hin_RX12 : ∀ w ∈ u_ws RX12 TX12 4, w ∈ (Cond.code yX12_code cX12_code 2 (some (.array .int)) :: lwU) := fun w h => mU (sub_RX12 w h)
  refine lv_aload_n hx hb dX12_code_0 rfl (lv_at hl 0 rfl) ?_
  refine p_get C hw (ci := 12) (Cn := RX12) (T := TX12) (N := 4) hL_st hf_st rfl hin_RX12 0 (by decide) (mU mw_488) rfl rfl dX12_code_1 ?_
  refine lv_tableIn (tgt := 68) (off := 64) hx hb dX12_code_4 (by decide) (by decide) (by decide) (by decide) ?_
  refine lv_aload_n hx hb dX12_code_68 rfl (lv_at hl 0 rfl) ?_
  refine lv_aload_n hx hb dX12_code_69 rfl (lv_at hl 1 rfl) ?_
  refine p_callq (va_runV (As := [.ref rw]) (rest := []) C.fix (e_X12_trailed0 l D cy S s.heap.size st rw rg hL_rw hf_rw ) (cwV 1 C.2.2.2.2.1 (gU_V mw_528 mw_529 mw_530 mw_407 (subU mw_531)) rfl rfl rfl hde_X12_codetrl_V_0 ⟨Nat.le_of_ble_eq_true rfl, Nat.le_of_ble_eq_true rfl⟩) (p_preV C hw hL_st hf_st rfl) rfl rfl hl.1 rfl (lv_room (Nat.le_of_ble_eq_true rfl)) dX12_code_70 ⟨(Nat.le_of_ble_eq_true rfl), (Nat.le_of_ble_eq_true rfl)⟩) hw hA (fun r2 S1 H locs hpost hw => ?_)
  obtain ⟨hr_, hS_⟩ := hpost
  subst hr_
  subst hS_
  exact (p_qret C hw (v := some rw) (⟨rfl, rfl⟩) hr (by first | exact Or.inl ⟨_, rfl⟩ | exact Or.inr ⟨_, rfl⟩) hlocks dX12_code_73)

theorem hde_X12_codewev_S_0 : yX12_filled.cls ≠ "java/lang/invoke/MethodHandle" ∧ yX12_filled.cls ≠ "java/lang/invoke/VarHandle" ∧ (parseMethodDescriptor yX12_filled.desc).map (fun d => d.parameters.length) = some 2 := by decide +kernel
theorem hde_X12_codewev_V_1 : yX12_woven_.cls = RX12 ∧ yX12_woven_.cls ≠ "java/lang/invoke/MethodHandle" ∧ yX12_woven_.cls ≠ "java/lang/invoke/VarHandle" ∧ (parseMethodDescriptor yX12_woven_.desc).map (fun d => d.parameters.length) = some 1 := by decide +kernel
set_option maxHeartbeats 4000000 in
set_option maxRecDepth 100000 in
theorem e_X12_codewev (l : Launch) (D : va_G) (cy : Nat → ClassId) (S : pS) (sz : Nat) (st : Nat) (rw : Nat) (sr : Nat) (sa : Nat) (sb : Nat) (rg : Nat → Int32) (hL_st : st ∈ S.1) (hf_st : S.2 st = .inr (12, [.int (nI 4), .int (nI sa), .int (nI sb), .ref sr])) (hL_rw : rw ∈ S.1) (hf_rw : S.2 rw = .inl (cy 0, 0, .inl rg)) (hs1 : 1 ≤ sa * sb) (hs2 : sa * sb < 2 ^ 31) : Met l yX12_code (Cond.code yX12_code cX12_code 2 (some (.array .int)) :: lwU) ({ frames := 2, cells := 2, slots := 0, locals := 82 }) (pPc D cy S sz [.ref st, .ref rw]) (pQq D cy S sz (fun r S' => ∃ (fl : Nat) (w : Nat), r = some w ∧ S'.1 = S.1 ++ [fl, w] ∧ (∀ a_, a_ ∈ S.1 → S'.2 a_ = S.2 a_) ∧ S'.2 w = .inl (cy 0, 0, .inl (fun _ => 0)))) 2 0 (pA S sz) := by
  refine Met.ofW (cc := cX12_code) (maxL := 2) (ret := (some (.array .int))) (by decide) rfl ?_
  intro p e s m args below meth c s₁ B hml hv
  obtain ⟨rfl, rfl, C, hw, hA, hr, hlocks⟩ := p_start B hml hv
  have hx := C.1
  have hb := C.2.1
  have hl := lv_entry ([.ref st, .ref rw]) (n := 2) (Nat.le_of_ble_eq_true rfl)
  rw [lg_entry_eq]
  generalize (lg_sl ([.ref st, .ref rw]) ++ List.replicate (2 - (lg_sl ([.ref st, .ref rw])).length) Slot.unset).toArray = ls at hl ⊢
  have hl : lv_has ls 2 [(0, .ref st), (1, .ref rw)] := hl
  have hin_RX12 : ∀ w ∈ u_ws RX12 TX12 4, w ∈ (Cond.code yX12_code cX12_code 2 (some (.array .int)) :: lwU) := fun w h => mU (sub_RX12 w h)
  refine lv_aload_n hx hb dX12_code_0 rfl (lv_at hl 0 rfl) ?_
  refine p_get C hw (ci := 12) (Cn := RX12) (T := TX12) (N := 4) hL_st hf_st rfl hin_RX12 0 (by decide) (mU mw_488) rfl rfl dX12_code_1 ?_
  refine lv_tableOut (tgt := 74) hx hb dX12_code_4 (by decide) (by decide) ?_
  refine lv_aload_n hx hb dX12_code_74 rfl (lv_at hl 0 rfl) ?_
  refine lv_aload_n hx hb dX12_code_75 rfl (lv_at hl 1 rfl) ?_
  refine lv_aload_n hx hb dX12_code_76 rfl (lv_at hl 0 rfl) ?_
  refine p_get C hw (ci := 12) (Cn := RX12) (T := TX12) (N := 4) hL_st hf_st rfl hin_RX12 1 (by decide) (mU mw_489) rfl rfl dX12_code_77 ?_
  refine lv_aload_n hx hb dX12_code_80 rfl (lv_at hl 0 rfl) ?_
  refine p_get C hw (ci := 12) (Cn := RX12) (T := TX12) (N := 4) hL_st hf_st rfl hin_RX12 2 (by decide) (mU mw_490) rfl rfl dX12_code_81 ?_
  refine n_imul hx hb dX12_code_84 ?_
  refine p_callq (va_runS (As := [.ref rw, .int (nI (sa * sb))]) (rest := [.ref st]) C.fix (e_X12_filled0 l D cy S s.heap.size rw (sa * sb) rg hL_rw hf_rw (by first | assumption | decide | omega) (by first | assumption | decide | omega)) (va_cwS 2 C.2.2.2.2.1 (gU_S mw_495 mw_496 mw_407 (subU mw_497)) rfl rfl rfl hde_X12_codewev_S_0 ⟨Nat.le_of_ble_eq_true rfl, Nat.le_of_ble_eq_true rfl⟩) (p_preS C hw) rfl rfl hl.1 rfl (lv_room (Nat.le_of_ble_eq_true rfl)) dX12_code_85 ⟨(Nat.le_of_ble_eq_true rfl), (Nat.le_of_ble_eq_true rfl)⟩) hw hA (fun r2 S1 H locs hpost hw => ?_)
  obtain ⟨fl, hr_, hS3, hfr4, hf5⟩ := hpost
  subst hr_
  have hq6 : fl ∉ S.1 := p_fresh hw hS3 0 rfl
  have hL7 : fl ∈ S1.1 := by rw [hS3]; exact List.mem_append_right _ (List.mem_of_getElem? (i := 0) rfl)
  have hL8 : st ∈ S1.1 := by rw [hS3]; exact List.mem_append_left _ hL_st
  have hf9 : S1.2 st = .inr (12, [.int (nI 4), .int (nI sa), .int (nI sb), .ref sr]) := (hfr4 st hL_st ).trans hf_st
  refine p_callq (va_runV (As := [.ref fl]) (rest := []) C.fix (e_X12_woven_0 l D cy S1 H.size st fl (va_cpy rg (fun _ => 0) 0 0 0) hL7 hf5 ) (cwV 1 C.2.2.2.2.1 (gU_V mw_536 mw_537 mw_538 mw_407 (subU mw_539)) rfl rfl rfl hde_X12_codewev_V_1 ⟨Nat.le_of_ble_eq_true rfl, Nat.le_of_ble_eq_true rfl⟩) (p_preV C hw hL8 hf9 rfl) rfl rfl hl.1 rfl (lv_room (Nat.le_of_ble_eq_true rfl)) dX12_code_88 ⟨(Nat.le_of_ble_eq_true rfl), (Nat.le_of_ble_eq_true rfl)⟩) hw hA (fun r11 S10 H locs hpost hw => ?_)
  obtain ⟨w, hr_, hS12, hfr13, hf14⟩ := hpost
  subst hr_
  have hq15 : w ∉ S1.1 := p_fresh hw hS12 0 rfl
  have hL16 : w ∈ S10.1 := by rw [hS12]; exact List.mem_append_right _ (List.mem_of_getElem? (i := 0) rfl)
  exact (p_qret C hw (v := some w) (⟨fl, w, rfl, (by simp only [hS12, hS3, pup, pnew, List.append_nil, List.append_assoc, List.cons_append, List.nil_append]), (fun a_ ha_ => ((hfr13 a_ (show a_ ∈ S1.1 from by rw [hS3]; exact List.mem_append_left _ ha_) ).trans (hfr4 a_ ha_ ))), hf14⟩) hr (by first | exact Or.inl ⟨_, rfl⟩ | exact Or.inr ⟨_, rfl⟩) hlocks dX12_code_91)

theorem hde_X13_rows0_V_0 : yJx4a65c_add_9ea2d.cls = RJx4a65c ∧ yJx4a65c_add_9ea2d.cls ≠ "java/lang/invoke/MethodHandle" ∧ yJx4a65c_add_9ea2d.cls ≠ "java/lang/invoke/VarHandle" ∧ (parseMethodDescriptor yJx4a65c_add_9ea2d.desc).map (fun d => d.parameters.length) = some 1 := by decide +kernel
theorem hde_X13_rows0_V_1 : yJx4a65c_size_8abf5.cls = RJx4a65c ∧ yJx4a65c_size_8abf5.cls ≠ "java/lang/invoke/MethodHandle" ∧ yJx4a65c_size_8abf5.cls ≠ "java/lang/invoke/VarHandle" ∧ (parseMethodDescriptor yJx4a65c_size_8abf5.desc).map (fun d => d.parameters.length) = some 0 := by decide +kernel
set_option maxHeartbeats 4000000 in
set_option maxRecDepth 100000 in
theorem e_X13_rows0 (l : Launch) (D : va_G) (cy : Nat → ClassId) (ed : Nat) (S : pS) (sz : Nat) (mm : Nat) (bt : Nat) (me : Nat) (sg : Nat) (cn : Nat) (im : Nat) (t0 : Nat) (bn : Nat) (bg : Nat → Int32) (hL_mm : mm ∈ S.1) (hf_mm : S.2 mm = .inr (13, [.int (nI t0), .ref me, .ref sg, .ref cn, .ref im])) (hL_sg : sg ∈ S.1) (hf_sg : S.2 sg = .inr (0, [.int (nI 0), .ref ed, .int (nI 0)])) (hL_bt : bt ∈ S.1) (hf_bt : S.2 bt = .inl (cy 0, bn, .inl bg))  : Met l yX13_rows (Cond.code yX13_rows cX13_rows 4 (some (.object "java/util/ArrayList")) :: lwU) ({ frames := 5, cells := 2, slots := 13, locals := 108 }) (ePc D cy ed S sz [.ref mm, .ref bt]) (pQq D cy S sz (fun r S' => ∃ (rl : Nat) (ra : Nat), r = some rl ∧ S'.1 = S.1 ++ [rl, ra] ∧ (∀ a_, a_ ∈ S.1 → S'.2 a_ = S.2 a_) ∧ S'.2 rl = .inr (0, [.int (nI 1), .ref ra, .int (nI 1)]) ∧ S'.2 ra = aQ (cy 4) 10 (va_up (fun _ => none) 0 (some bt)))) 2 13 (pA S sz) := by
  refine Met.ofW (cc := cX13_rows) (maxL := 4) (ret := (some (.object "java/util/ArrayList"))) (by decide) rfl ?_
  intro p e s m args below meth c s₁ B hml hv
  obtain ⟨rfl, rfl, C, hw, hA, hr, hlocks, hE⟩ := e_start B hml hv
  have hx := C.1
  have hb := C.2.1
  have hl := lv_entry ([.ref mm, .ref bt]) (n := 4) (Nat.le_of_ble_eq_true rfl)
  rw [lg_entry_eq]
  generalize (lg_sl ([.ref mm, .ref bt]) ++ List.replicate (4 - (lg_sl ([.ref mm, .ref bt])).length) Slot.unset).toArray = ls at hl ⊢
  have hl : lv_has ls 4 [(0, .ref mm), (1, .ref bt)] := hl
  have hin_RJx4a65c : ∀ w ∈ u_ws RJx4a65c TJx4a65c 3, w ∈ (Cond.code yX13_rows cX13_rows 4 (some (.object "java/util/ArrayList")) :: lwU) := fun w h => mU (sub_RJx4a65c w h)
  have hin_RX13 : ∀ w ∈ u_ws RX13 TX13 5, w ∈ (Cond.code yX13_rows cX13_rows 4 (some (.object "java/util/ArrayList")) :: lwU) := fun w h => mU (sub_RX13 w h)
  refine p_new C hw hA (ci := 0) (Cn := RJx4a65c) (T := TJx4a65c) (N := 3) (fs := [.int (nI 0), .null, .int (nI 0)]) tyJx4a65c tyJx4a65c_ok rfl hin_RJx4a65c (mU mw_87) (mU mw_88) (mU mw_89) (fun j hj => by rcases (show j = 0 ∨ j = 1 ∨ j = 2 by omega) with rfl | rfl | rfl <;> rfl) (Nat.le_of_ble_eq_true rfl) (Nat.le_of_ble_eq_true rfl) dX13_rows_0 (fun rl H hq_rl hw => ?_)
  obtain ⟨S1, hS1⟩ : ∃ z, z = pnew S rl (.inr (0, [.int (nI 0), .null, .int (nI 0)])) := ⟨_, rfl⟩
  replace hw : pW D (pA S s.heap.size) s.heap S1 H [] := by rw [hS1]; exact hw
  have hL2 : rl ∈ S1.1 := by rw [hS1]; exact List.mem_append_right _ List.mem_cons_self
  have hf3 : S1.2 rl = .inr (0, [.int (nI 0), .null, .int (nI 0)]) := by rw [hS1]; exact pnew_s
  refine lv_dup hx hb dX13_rows_3 rfl ?_
  refine p_callv (va_runI (As := []) (rest := [.ref rl]) C.fix (e_Jx4a65c_init_da8c8 l D cy ed S1 H.size rl 0 0 hL2 hf3 ) (cwI 0 C.2.2.2.2.1 (gU_sub (subU mw_96)) rfl rfl rfl (C.2.2.2.2.1 (.initialized RJx4a65c) (mU mw_89)) (C.2.2.2.2.1 (.methodLink RX13 15 yJx4a65c_init_da8c8) (mU mw_94)) (C.2.2.2.2.1 (.instanceMethod yJx4a65c_init_da8c8) (mU mw_95)) rfl (by decide +kernel) ⟨Nat.le_of_ble_eq_true rfl, Nat.le_of_ble_eq_true rfl⟩) (e_preS C hw hA hE) rfl rfl hl.1 rfl (lv_room (Nat.le_of_ble_eq_true rfl)) dX13_rows_4 ⟨(Nat.le_of_ble_eq_true rfl), (Nat.le_of_ble_eq_true rfl)⟩) hw hA (fun S4 H locs hpost hw => ?_)
  obtain ⟨hS6, hfr7, hf8⟩ := hpost
  have hL9 : rl ∈ S4.1 := by rw [hS6]; exact List.mem_append_left _ hL2
  refine lv_astore_n (lv' := [(2, .ref rl), (0, .ref mm), (1, .ref bt)]) hx hb dX13_rows_7 rfl hl (by decide) rfl (fun ls hl => ?_)
  refine lv_aload_n hx hb dX13_rows_8 rfl (lv_at hl 0 rfl) ?_
  refine lv_aload_n hx hb dX13_rows_9 rfl (lv_at hl 2 rfl) ?_
  have hL10 : bt ∈ S1.1 := by rw [hS1]; exact List.mem_append_left _ hL_bt
  have hf11 : S1.2 bt = .inl (cy 0, bn, .inl bg) := by rw [hS1]; exact (pnew_n (fun z : bt = rl => hq_rl (by rw [← z]; exact hL_bt))).trans hf_bt
  have hL12 : bt ∈ S4.1 := by rw [hS6]; exact List.mem_append_left _ hL10
  have hf13 : S4.2 bt = .inl (cy 0, bn, .inl bg) := (hfr7 bt hL10 (fun z : bt = rl => hq_rl (by rw [← z]; exact hL_bt))).trans hf11
  refine p_calli (va_runV (As := [.ref bt]) (rest := []) C.fix (e_Jx4a65c_add_9ea2d1I l D cy ed S4 H.size rl bt bn bg hL9 hf8 hL12 hf13 ) (cwV 1 C.2.2.2.2.1 (gU_V mw_419 mw_420 mw_421 mw_89 (subU mw_422)) rfl rfl rfl hde_X13_rows0_V_0 ⟨Nat.le_of_ble_eq_true rfl, Nat.le_of_ble_eq_true rfl⟩) (e_preV C hw hA hE hL9 hf8 rfl) rfl rfl hl.1 rfl (lv_room (Nat.le_of_ble_eq_true rfl)) dX13_rows_10 ⟨(Nat.le_of_ble_eq_true rfl), (Nat.le_of_ble_eq_true rfl)⟩) hw hA (fun r15 S14 H locs hpost hw => ?_)
  obtain ⟨ra, hr_, hS16, hfr17, hf18, hf19⟩ := hpost
  subst hr_
  have hq20 : ra ∉ S4.1 := p_fresh hw hS16 0 rfl
  have hL21 : rl ∈ S14.1 := by rw [hS16]; exact List.mem_append_left _ hL9
  have hL22 : ra ∈ S14.1 := by rw [hS16]; exact List.mem_append_right _ (List.mem_of_getElem? (i := 0) rfl)
  refine lv_pop hx hb dX13_rows_13 rfl ?_
  refine lv_iconst (v := nI 0) hx hb dX13_rows_14 (by decide) ?_
  refine lv_istore_n (lv' := [(3, .int (nI 0)), (2, .ref rl), (0, .ref mm), (1, .ref bt)]) hx hb dX13_rows_15 rfl hl (by decide) rfl (fun ls hl => ?_)
  refine lv_iload_n hx hb dX13_rows_16 rfl (lv_at hl 0 rfl) ?_
  refine lv_aload_n hx hb dX13_rows_17 rfl (lv_at hl 2 rfl) ?_
  have hL23 : mm ∈ S1.1 := by rw [hS1]; exact List.mem_append_left _ hL_mm
  have hf24 : S1.2 mm = .inr (13, [.int (nI t0), .ref me, .ref sg, .ref cn, .ref im]) := by rw [hS1]; exact (pnew_n (fun z : mm = rl => hq_rl (by rw [← z]; exact hL_mm))).trans hf_mm
  have hL25 : mm ∈ S4.1 := by rw [hS6]; exact List.mem_append_left _ hL23
  have hf26 : S4.2 mm = .inr (13, [.int (nI t0), .ref me, .ref sg, .ref cn, .ref im]) := (hfr7 mm hL23 (fun z : mm = rl => hq_rl (by rw [← z]; exact hL_mm))).trans hf24
  have hL27 : mm ∈ S14.1 := by rw [hS16]; exact List.mem_append_left _ hL25
  have hf28 : S14.2 mm = .inr (13, [.int (nI t0), .ref me, .ref sg, .ref cn, .ref im]) := (hfr17 mm hL25 (fun z : mm = rl => hq_rl (by rw [← z]; exact hL_mm))).trans hf26
  refine p_get C hw (ci := 13) (Cn := RX13) (T := TX13) (N := 5) hL27 hf28 rfl hin_RX13 2 (by decide) (mU mw_90) rfl rfl dX13_rows_18 ?_
  have hL29 : sg ∈ S1.1 := by rw [hS1]; exact List.mem_append_left _ hL_sg
  have hf30 : S1.2 sg = .inr (0, [.int (nI 0), .ref ed, .int (nI 0)]) := by rw [hS1]; exact (pnew_n (fun z : sg = rl => hq_rl (by rw [← z]; exact hL_sg))).trans hf_sg
  have hL31 : sg ∈ S4.1 := by rw [hS6]; exact List.mem_append_left _ hL29
  have hf32 : S4.2 sg = .inr (0, [.int (nI 0), .ref ed, .int (nI 0)]) := (hfr7 sg hL29 (fun z : sg = rl => hq_rl (by rw [← z]; exact hL_sg))).trans hf30
  have hL33 : sg ∈ S14.1 := by rw [hS16]; exact List.mem_append_left _ hL31
  have hf34 : S14.2 sg = .inr (0, [.int (nI 0), .ref ed, .int (nI 0)]) := (hfr17 sg hL31 (fun z : sg = rl => hq_rl (by rw [← z]; exact hL_sg))).trans hf32
  refine p_calli (va_runV (As := []) (rest := [.int (nI 0)]) C.fix (e_Jx4a65c_size_8abf5 l D cy S14 H.size sg ed 0 0 hL33 hf34 ) (cwV 0 C.2.2.2.2.1 (gU_V mw_464 mw_465 mw_466 mw_89 (subU mw_467)) rfl rfl rfl hde_X13_rows0_V_1 ⟨Nat.le_of_ble_eq_true rfl, Nat.le_of_ble_eq_true rfl⟩) (p_preV C hw hL33 hf34 rfl) rfl rfl hl.1 rfl (lv_room (Nat.le_of_ble_eq_true rfl)) dX13_rows_21 ⟨(Nat.le_of_ble_eq_true rfl), (Nat.le_of_ble_eq_true rfl)⟩) hw hA (fun r36 S35 H locs hpost hw => ?_)
  obtain ⟨hr_, hS_⟩ := hpost
  subst hr_
  subst hS_
  refine n_icmp_ge (tgt := 60) hx hb (by first | decide | omega) (by first | decide | omega) dX13_rows_24 (by decide) (fun h_24 => ?_) (fun h_24 => ?_)
  · skip
    refine lv_aload_n hx hb dX13_rows_60 rfl (lv_at hl 1 rfl) ?_
    exact (p_qret C hw (v := some rl) (⟨rl, ra, rfl, (by simp only [hS16, hS6, hS1, pup, pnew, List.append_nil, List.append_assoc, List.cons_append, List.nil_append]), (fun a_ ha_ => ((hfr17 a_ (show a_ ∈ S4.1 from by rw [hS6]; exact List.mem_append_left _ (show a_ ∈ S1.1 from by rw [hS1]; exact List.mem_append_left _ ha_)) (fun z : a_ = rl => hq_rl (by rw [← z]; exact ha_))).trans ((hfr7 a_ (show a_ ∈ S1.1 from by rw [hS1]; exact List.mem_append_left _ ha_) (fun z : a_ = rl => hq_rl (by rw [← z]; exact ha_))).trans (show S1.2 a_ = S.2 a_ from by rw [hS1]; exact pnew_n (fun z : a_ = rl => hq_rl (by rw [← z]; exact ha_)))))), hf18, hf19⟩) hr (by first | exact Or.inl ⟨_, rfl⟩ | exact Or.inr ⟨_, rfl⟩) hlocks dX13_rows_61)
  · exact absurd h_24 (by first | decide | omega)

theorem hde_X13_sentNow0_V_0 : yX13_rows.cls = RX13 ∧ yX13_rows.cls ≠ "java/lang/invoke/MethodHandle" ∧ yX13_rows.cls ≠ "java/lang/invoke/VarHandle" ∧ (parseMethodDescriptor yX13_rows.desc).map (fun d => d.parameters.length) = some 1 := by decide +kernel
theorem hde_X13_sentNow0_V_1 : yJx4a65c_size_8abf5.cls = RJx4a65c ∧ yJx4a65c_size_8abf5.cls ≠ "java/lang/invoke/MethodHandle" ∧ yJx4a65c_size_8abf5.cls ≠ "java/lang/invoke/VarHandle" ∧ (parseMethodDescriptor yJx4a65c_size_8abf5.desc).map (fun d => d.parameters.length) = some 0 := by decide +kernel
theorem hde_X13_sentNow0_V_2 : yJx4a65c_get_915e3.cls = RJx4a65c ∧ yJx4a65c_get_915e3.cls ≠ "java/lang/invoke/MethodHandle" ∧ yJx4a65c_get_915e3.cls ≠ "java/lang/invoke/VarHandle" ∧ (parseMethodDescriptor yJx4a65c_get_915e3.desc).map (fun d => d.parameters.length) = some 1 := by decide +kernel
set_option maxHeartbeats 4000000 in
set_option maxRecDepth 100000 in
theorem e_X13_sentNow0 (l : Launch) (D : va_G) (cy : Nat → ClassId) (ed : Nat) (S : pS) (sz : Nat) (mm : Nat) (me : Nat) (sg : Nat) (cn : Nat) (im : Nat) (t0 : Nat) (hL_mm : mm ∈ S.1) (hf_mm : S.2 mm = .inr (13, [.int (nI t0), .ref me, .ref sg, .ref cn, .ref im])) (hL_me : me ∈ S.1) (hf_me : S.2 me = .inl (cy 0, 0, .inl (fun _ => 0))) (hL_sg : sg ∈ S.1) (hf_sg : S.2 sg = .inr (0, [.int (nI 0), .ref ed, .int (nI 0)]))  : Met l yX13_sentNow (Cond.code yX13_sentNow cX13_sentNow 1 (some (.array .int)) :: lwU) ({ frames := 6, cells := 2, slots := 13, locals := 131 }) (ePc D cy ed S sz [.ref mm]) (pQq D cy S sz (fun r S' => ∃ (rl : Nat) (ra : Nat), r = some me ∧ S'.1 = S.1 ++ [rl, ra] ∧ (∀ a_, a_ ∈ S.1 → S'.2 a_ = S.2 a_))) 2 13 (pA S sz) := by
  refine Met.ofW (cc := cX13_sentNow) (maxL := 1) (ret := (some (.array .int))) (by decide) rfl ?_
  intro p e s m args below meth c s₁ B hml hv
  obtain ⟨rfl, rfl, C, hw, hA, hr, hlocks, hE⟩ := e_start B hml hv
  have hx := C.1
  have hb := C.2.1
  have hl := lv_entry ([.ref mm]) (n := 1) (Nat.le_of_ble_eq_true rfl)
  rw [lg_entry_eq]
  generalize (lg_sl ([.ref mm]) ++ List.replicate (1 - (lg_sl ([.ref mm])).length) Slot.unset).toArray = ls at hl ⊢
  have hl : lv_has ls 1 [(0, .ref mm)] := hl
  have hin_RX13 : ∀ w ∈ u_ws RX13 TX13 5, w ∈ (Cond.code yX13_sentNow cX13_sentNow 1 (some (.array .int)) :: lwU) := fun w h => mU (sub_RX13 w h)
  refine lv_aload_n hx hb dX13_sentNow_0 rfl (lv_at hl 0 rfl) ?_
  refine lv_aload_n hx hb dX13_sentNow_1 rfl (lv_at hl 0 rfl) ?_
  refine p_get C hw (ci := 13) (Cn := RX13) (T := TX13) (N := 5) hL_mm hf_mm rfl hin_RX13 1 (by decide) (mU mw_86) rfl rfl dX13_sentNow_2 ?_
  refine p_callq (va_runV (As := [.ref me]) (rest := []) C.fix (e_X13_rows0 l D cy ed S s.heap.size mm me me sg cn im t0 0 (fun _ => 0) hL_mm hf_mm hL_sg hf_sg hL_me hf_me ) (cwV 1 C.2.2.2.2.1 (gU_V mw_414 mw_415 mw_416 mw_5 (subU mw_417)) rfl rfl rfl hde_X13_sentNow0_V_0 ⟨Nat.le_of_ble_eq_true rfl, Nat.le_of_ble_eq_true rfl⟩) (e_preV C hw hA hE hL_mm hf_mm rfl) rfl rfl hl.1 rfl (lv_room (Nat.le_of_ble_eq_true rfl)) dX13_sentNow_5 ⟨(Nat.le_of_ble_eq_true rfl), (Nat.le_of_ble_eq_true rfl)⟩) hw hA (fun r2 S1 H locs hpost hw => ?_)
  obtain ⟨rl, ra, hr_, hS3, hfr4, hf5, hf6⟩ := hpost
  subst hr_
  have hnd7 := p_apart hw hS3
  have hq8 : rl ∉ S.1 := p_fresh hw hS3 0 rfl
  have hq9 : ra ∉ S.1 := p_fresh hw hS3 1 rfl
  have hL10 : rl ∈ S1.1 := by rw [hS3]; exact List.mem_append_right _ (List.mem_of_getElem? (i := 0) rfl)
  have hL11 : ra ∈ S1.1 := by rw [hS3]; exact List.mem_append_right _ (List.mem_of_getElem? (i := 1) rfl)
  refine lv_aload_n hx hb dX13_sentNow_8 rfl (lv_at hl 0 rfl) ?_
  have hL12 : mm ∈ S1.1 := by rw [hS3]; exact List.mem_append_left _ hL_mm
  have hf13 : S1.2 mm = .inr (13, [.int (nI t0), .ref me, .ref sg, .ref cn, .ref im]) := (hfr4 mm hL_mm ).trans hf_mm
  refine p_get C hw (ci := 13) (Cn := RX13) (T := TX13) (N := 5) hL12 hf13 rfl hin_RX13 2 (by decide) (mU mw_90) rfl rfl dX13_sentNow_9 ?_
  have hL14 : sg ∈ S1.1 := by rw [hS3]; exact List.mem_append_left _ hL_sg
  have hf15 : S1.2 sg = .inr (0, [.int (nI 0), .ref ed, .int (nI 0)]) := (hfr4 sg hL_sg ).trans hf_sg
  refine p_calli (va_runV (As := []) (rest := [.ref rl]) C.fix (e_Jx4a65c_size_8abf5 l D cy S1 H.size sg ed 0 0 hL14 hf15 ) (cwV 0 C.2.2.2.2.1 (gU_V mw_464 mw_465 mw_466 mw_89 (subU mw_467)) rfl rfl rfl hde_X13_sentNow0_V_1 ⟨Nat.le_of_ble_eq_true rfl, Nat.le_of_ble_eq_true rfl⟩) (p_preV C hw hL14 hf15 rfl) rfl rfl hl.1 rfl (lv_room (Nat.le_of_ble_eq_true rfl)) dX13_sentNow_12 ⟨(Nat.le_of_ble_eq_true rfl), (Nat.le_of_ble_eq_true rfl)⟩) hw hA (fun r17 S16 H locs hpost hw => ?_)
  obtain ⟨hr_, hS_⟩ := hpost
  subst hr_
  subst hS_
  refine p_callq (va_runV (As := [.int (nI 0)]) (rest := []) C.fix (e_Jx4a65c_get_915e3 l D cy S1 H.size rl ra 1 1 0 me (va_up (fun _ => none) 0 (some me)) hL10 hf5 hL11 hf6 (by first | assumption | decide | omega) (by first | assumption | decide | omega) (by first | assumption | rfl | simp [va_up])) (cwV 1 C.2.2.2.2.1 (gU_V mw_468 mw_469 mw_470 mw_89 (subU mw_471)) rfl rfl rfl hde_X13_sentNow0_V_2 ⟨Nat.le_of_ble_eq_true rfl, Nat.le_of_ble_eq_true rfl⟩) (p_preV C hw hL10 hf5 rfl) rfl rfl hl.1 rfl (lv_room (Nat.le_of_ble_eq_true rfl)) dX13_sentNow_15 ⟨(Nat.le_of_ble_eq_true rfl), (Nat.le_of_ble_eq_true rfl)⟩) hw hA (fun r19 S18 H locs hpost hw => ?_)
  obtain ⟨hr_, hS_⟩ := hpost
  subst hr_
  subst hS_
  have hL20 : me ∈ S1.1 := by rw [hS3]; exact List.mem_append_left _ hL_me
  have hf21 : S1.2 me = .inl (cy 0, 0, .inl (fun _ => 0)) := (hfr4 me hL_me ).trans hf_me
  refine p_castA C hw hL20 hf21 (C.2.2.2.2.1 _ (mU mw_413)) dX13_sentNow_18 ?_
  exact (p_qret C hw (v := some me) (⟨rl, ra, rfl, (by simp only [hS3, pup, pnew, List.append_nil, List.append_assoc, List.cons_append, List.nil_append]), (fun a_ ha_ => (hfr4 a_ ha_ ))⟩) hr (by first | exact Or.inl ⟨_, rfl⟩ | exact Or.inr ⟨_, rfl⟩) hlocks dX13_sentNow_21)

set_option maxHeartbeats 4000000 in
set_option maxRecDepth 100000 in
theorem e_X13_over0 (l : Launch) (D : va_G) (cy : Nat → ClassId) (S : pS) (sz : Nat) (bt : Nat) (cc : Nat) (im : Nat) (bg : Nat → Int32) (cg : Nat → Int32) (hL_bt : bt ∈ S.1) (hf_bt : S.2 bt = .inl (cy 0, 0, .inl bg)) (hL_cc : cc ∈ S.1) (hf_cc : S.2 cc = .inl (cy 0, 4, .inl cg))  : Met l yX13_over (Cond.code yX13_over cX13_over 8 (some (.array .int)) :: lwU) ({ frames := 1, cells := 1, slots := 0, locals := 14 }) (pPc D cy S sz [.ref bt, .ref cc, .ref im]) (pQq D cy S sz (fun r S' => ∃ (ov : Nat), r = some ov ∧ S'.1 = S.1 ++ [ov] ∧ (∀ a_, a_ ∈ S.1 → S'.2 a_ = S.2 a_) ∧ S'.2 ov = .inl (cy 0, 0, .inl bg))) 1 0 (pA S sz) := by
  refine Met.ofW (cc := cX13_over) (maxL := 8) (ret := (some (.array .int))) (by decide) rfl ?_
  intro p e s m args below meth c s₁ B hml hv
  obtain ⟨rfl, rfl, C, hw, hA, hr, hlocks⟩ := p_start B hml hv
  have hx := C.1
  have hb := C.2.1
  have hl := lv_entry ([.ref bt, .ref cc, .ref im]) (n := 8) (Nat.le_of_ble_eq_true rfl)
  rw [lg_entry_eq]
  generalize (lg_sl ([.ref bt, .ref cc, .ref im]) ++ List.replicate (8 - (lg_sl ([.ref bt, .ref cc, .ref im])).length) Slot.unset).toArray = ls at hl ⊢
  have hl : lv_has ls 8 [(0, .ref bt), (1, .ref cc), (2, .ref im)] := hl
  refine lv_aload_n hx hb dX13_over_0 rfl (lv_at hl 0 rfl) ?_
  refine p_clone C hw hA hl.1.symm (C.2.2.2.2.1 _ (mU mw_825)) (C.2.2.2.2.1 _ (mU mw_826)) (C.2.2.2.2.1 _ (mU mw_827)) (C.2.2.2.2.1 _ (mU mw_828)) (C.2.2.2.2.1 _ (mU mw_829)) hL_bt hf_bt (Nat.le_of_ble_eq_true rfl) (Nat.le_of_ble_eq_true rfl) (Nat.le_of_ble_eq_true rfl) (Nat.le_of_ble_eq_true rfl) dX13_over_1 (fun ov H hq_ov hw => ?_)
  obtain ⟨S1, hS1⟩ : ∃ z, z = pnew S ov (.inl (cy 0, 0, .inl bg)) := ⟨_, rfl⟩
  replace hw : pW D (pA S s.heap.size) s.heap S1 H [] := by rw [hS1]; exact hw
  have hL2 : ov ∈ S1.1 := by rw [hS1]; exact List.mem_append_right _ List.mem_cons_self
  have hf3 : S1.2 ov = .inl (cy 0, 0, .inl bg) := by rw [hS1]; exact pnew_s
  refine p_castA C hw hL2 hf3 (C.2.2.2.2.1 _ (mU mw_413)) dX13_over_4 ?_
  refine lv_astore_n (lv' := [(3, .ref ov), (0, .ref bt), (1, .ref cc), (2, .ref im)]) hx hb dX13_over_7 rfl hl (by decide) rfl (fun ls hl => ?_)
  refine lv_aload_n hx hb dX13_over_8 rfl (lv_at hl 2 rfl) ?_
  refine lv_iconst (v := nI 2) hx hb dX13_over_9 (by decide) ?_
  have hL4 : cc ∈ S1.1 := by rw [hS1]; exact List.mem_append_left _ hL_cc
  have hf5 : S1.2 cc = .inl (cy 0, 4, .inl cg) := by rw [hS1]; exact (pnew_n (fun z : cc = ov => hq_ov (by rw [← z]; exact hL_cc))).trans hf_cc
  refine p_ald C hw 0 rfl hL4 hf5 (by first | decide | omega) (by first | decide | omega) dX13_over_10 ?_
  refine lv_i2l hx hb dX13_over_11 rfl ?_
  refine lv_lstore (lv' := [(4, .long (((cg 2)).toInt64)), (3, .ref ov), (0, .ref bt), (1, .ref cc), (2, .ref im)]) hx hb dX13_over_12 hl (by decide) rfl (fun ls hl => ?_)
  refine lv_iconst (v := nI 0) hx hb dX13_over_14 (by decide) ?_
  refine lv_istore (lv' := [(6, .int (nI 0)), (4, .long (((cg 2)).toInt64)), (3, .ref ov), (0, .ref bt), (1, .ref cc), (2, .ref im)]) hx hb dX13_over_15 hl (by decide) rfl (fun ls hl => ?_)
  refine lv_iload hx hb dX13_over_17 (lv_at hl 0 rfl) ?_
  refine lv_aload_n hx hb dX13_over_19 rfl (lv_at hl 2 rfl) ?_
  refine n_len C hw 0 rfl hL2 hf3 (n := 0) rfl dX13_over_20 ?_
  refine n_icmp_ge (tgt := 166) hx hb (by first | decide | omega) (by first | decide | omega) dX13_over_21 (by decide) (fun h_21 => ?_) (fun h_21 => ?_)
  · skip
    refine lv_aload_n hx hb dX13_over_166 rfl (lv_at hl 2 rfl) ?_
    exact (p_qret C hw (v := some ov) (⟨ov, rfl, (by simp only [hS1, pup, pnew, List.append_nil, List.append_assoc, List.cons_append, List.nil_append]), (fun a_ ha_ => (show S1.2 a_ = S.2 a_ from by rw [hS1]; exact pnew_n (fun z : a_ = ov => hq_ov (by rw [← z]; exact ha_)))), hf3⟩) hr (by first | exact Or.inl ⟨_, rfl⟩ | exact Or.inr ⟨_, rfl⟩) hlocks dX13_over_167)
  · exact absurd h_21 (by first | decide | omega)

theorem hde_X13_comes0_S_0 : yX13_over.cls ≠ "java/lang/invoke/MethodHandle" ∧ yX13_over.cls ≠ "java/lang/invoke/VarHandle" ∧ (parseMethodDescriptor yX13_over.desc).map (fun d => d.parameters.length) = some 3 := by decide +kernel
set_option maxHeartbeats 4000000 in
set_option maxRecDepth 100000 in
theorem e_X13_comes0 (l : Launch) (D : va_G) (cy : Nat → ClassId) (S : pS) (sz : Nat) (mm : Nat) (bt : Nat) (me : Nat) (sg : Nat) (cn : Nat) (im : Nat) (t0 : Nat) (bg : Nat → Int32) (cg : Nat → Int32) (hL_mm : mm ∈ S.1) (hf_mm : S.2 mm = .inr (13, [.int (nI t0), .ref me, .ref sg, .ref cn, .ref im])) (hL_cn : cn ∈ S.1) (hf_cn : S.2 cn = .inl (cy 0, 4, .inl cg)) (hL_bt : bt ∈ S.1) (hf_bt : S.2 bt = .inl (cy 0, 0, .inl bg))  : Met l yX13_comes (Cond.code yX13_comes cX13_comes 2 (some (.array .int)) :: lwU) ({ frames := 2, cells := 1, slots := 0, locals := 41 }) (pPc D cy S sz [.ref mm, .ref bt]) (pQq D cy S sz (fun r S' => ∃ (ov : Nat), r = some ov ∧ S'.1 = S.1 ++ [ov] ∧ (∀ a_, a_ ∈ S.1 → S'.2 a_ = S.2 a_) ∧ S'.2 ov = .inl (cy 0, 0, .inl bg))) 1 0 (pA S sz) := by
  refine Met.ofW (cc := cX13_comes) (maxL := 2) (ret := (some (.array .int))) (by decide) rfl ?_
  intro p e s m args below meth c s₁ B hml hv
  obtain ⟨rfl, rfl, C, hw, hA, hr, hlocks⟩ := p_start B hml hv
  have hx := C.1
  have hb := C.2.1
  have hl := lv_entry ([.ref mm, .ref bt]) (n := 2) (Nat.le_of_ble_eq_true rfl)
  rw [lg_entry_eq]
  generalize (lg_sl ([.ref mm, .ref bt]) ++ List.replicate (2 - (lg_sl ([.ref mm, .ref bt])).length) Slot.unset).toArray = ls at hl ⊢
  have hl : lv_has ls 2 [(0, .ref mm), (1, .ref bt)] := hl
  have hin_RX13 : ∀ w ∈ u_ws RX13 TX13 5, w ∈ (Cond.code yX13_comes cX13_comes 2 (some (.array .int)) :: lwU) := fun w h => mU (sub_RX13 w h)
  refine lv_aload_n hx hb dX13_comes_0 rfl (lv_at hl 1 rfl) ?_
  refine lv_aload_n hx hb dX13_comes_1 rfl (lv_at hl 0 rfl) ?_
  refine p_get C hw (ci := 13) (Cn := RX13) (T := TX13) (N := 5) hL_mm hf_mm rfl hin_RX13 3 (by decide) (mU mw_91) rfl rfl dX13_comes_2 ?_
  refine lv_aload_n hx hb dX13_comes_5 rfl (lv_at hl 0 rfl) ?_
  refine p_get C hw (ci := 13) (Cn := RX13) (T := TX13) (N := 5) hL_mm hf_mm rfl hin_RX13 4 (by decide) (mU mw_93) rfl rfl dX13_comes_6 ?_
  refine p_callq (va_runS (As := [.ref bt, .ref cn, .ref im]) (rest := []) C.fix (e_X13_over0 l D cy S s.heap.size bt cn im bg cg hL_bt hf_bt hL_cn hf_cn ) (va_cwS 3 C.2.2.2.2.1 (gU_S mw_822 mw_823 mw_5 (subU mw_824)) rfl rfl rfl hde_X13_comes0_S_0 ⟨Nat.le_of_ble_eq_true rfl, Nat.le_of_ble_eq_true rfl⟩) (p_preS C hw) rfl rfl hl.1 rfl (lv_room (Nat.le_of_ble_eq_true rfl)) dX13_comes_9 ⟨(Nat.le_of_ble_eq_true rfl), (Nat.le_of_ble_eq_true rfl)⟩) hw hA (fun r2 S1 H locs hpost hw => ?_)
  obtain ⟨ov, hr_, hS3, hfr4, hf5⟩ := hpost
  subst hr_
  have hq6 : ov ∉ S.1 := p_fresh hw hS3 0 rfl
  have hL7 : ov ∈ S1.1 := by rw [hS3]; exact List.mem_append_right _ (List.mem_of_getElem? (i := 0) rfl)
  exact (p_qret C hw (v := some ov) (⟨ov, rfl, (by simp only [hS3, pup, pnew, List.append_nil, List.append_assoc, List.cons_append, List.nil_append]), (fun a_ ha_ => (hfr4 a_ ha_ )), hf5⟩) hr (by first | exact Or.inl ⟨_, rfl⟩ | exact Or.inr ⟨_, rfl⟩) hlocks dX13_comes_12)

theorem hde_X13_upwards0_V_0 : yJx4a65c_size_8abf5.cls = RJx4a65c ∧ yJx4a65c_size_8abf5.cls ≠ "java/lang/invoke/MethodHandle" ∧ yJx4a65c_size_8abf5.cls ≠ "java/lang/invoke/VarHandle" ∧ (parseMethodDescriptor yJx4a65c_size_8abf5.desc).map (fun d => d.parameters.length) = some 0 := by decide +kernel
set_option maxHeartbeats 4000000 in
set_option maxRecDepth 100000 in
theorem e_X13_upwards0 (l : Launch) (D : va_G) (cy : Nat → ClassId) (S : pS) (sz : Nat) (mm : Nat) (bt : Nat) (rl : Nat) (me : Nat) (sg : Nat) (cn : Nat) (im : Nat) (ed : Nat) (t0 : Nat) (bg : Nat → Int32) (hL_mm : mm ∈ S.1) (hf_mm : S.2 mm = .inr (13, [.int (nI t0), .ref me, .ref sg, .ref cn, .ref im])) (hL_sg : sg ∈ S.1) (hf_sg : S.2 sg = .inr (0, [.int (nI 0), .ref ed, .int (nI 0)])) (hL_bt : bt ∈ S.1) (hf_bt : S.2 bt = .inl (cy 0, 0, .inl bg))  : Met l yX13_upwards (Cond.code yX13_upwards cX13_upwards 5 (some (.array (.array .int))) :: lwU) ({ frames := 1, cells := 1, slots := 1, locals := 20 }) (pPc D cy S sz [.ref mm, .ref bt, .ref rl]) (pQq D cy S sz (fun r S' => ∃ (uu : Nat), r = some uu ∧ S'.1 = S.1 ++ [uu] ∧ (∀ a_, a_ ∈ S.1 → S'.2 a_ = S.2 a_) ∧ S'.2 uu = aQ (cy 5) 1 (va_up (fun _ => none) 0 (some bt)))) 1 1 (pA S sz) := by
  refine Met.ofW (cc := cX13_upwards) (maxL := 5) (ret := (some (.array (.array .int)))) (by decide) rfl ?_
  intro p e s m args below meth c s₁ B hml hv
  obtain ⟨rfl, rfl, C, hw, hA, hr, hlocks⟩ := p_start B hml hv
  have hx := C.1
  have hb := C.2.1
  have hl := lv_entry ([.ref mm, .ref bt, .ref rl]) (n := 5) (Nat.le_of_ble_eq_true rfl)
  rw [lg_entry_eq]
  generalize (lg_sl ([.ref mm, .ref bt, .ref rl]) ++ List.replicate (5 - (lg_sl ([.ref mm, .ref bt, .ref rl])).length) Slot.unset).toArray = ls at hl ⊢
  have hl : lv_has ls 5 [(0, .ref mm), (1, .ref bt), (2, .ref rl)] := hl
  have hin_RX13 : ∀ w ∈ u_ws RX13 TX13 5, w ∈ (Cond.code yX13_upwards cX13_upwards 5 (some (.array (.array .int))) :: lwU) := fun w h => mU (sub_RX13 w h)
  refine lv_aload_n hx hb dX13_upwards_0 rfl (lv_at hl 0 rfl) ?_
  refine p_get C hw (ci := 13) (Cn := RX13) (T := TX13) (N := 5) hL_mm hf_mm rfl hin_RX13 2 (by decide) (mU mw_90) rfl rfl dX13_upwards_1 ?_
  refine p_calli (va_runV (As := []) (rest := []) C.fix (e_Jx4a65c_size_8abf5 l D cy S s.heap.size sg ed 0 0 hL_sg hf_sg ) (cwV 0 C.2.2.2.2.1 (gU_V mw_464 mw_465 mw_466 mw_89 (subU mw_467)) rfl rfl rfl hde_X13_upwards0_V_0 ⟨Nat.le_of_ble_eq_true rfl, Nat.le_of_ble_eq_true rfl⟩) (p_preV C hw hL_sg hf_sg rfl) rfl rfl hl.1 rfl (lv_room (Nat.le_of_ble_eq_true rfl)) dX13_upwards_4 ⟨(Nat.le_of_ble_eq_true rfl), (Nat.le_of_ble_eq_true rfl)⟩) hw hA (fun r2 S1 H locs hpost hw => ?_)
  obtain ⟨hr_, hS_⟩ := hpost
  subst hr_
  subst hS_
  refine lv_iconst (v := nI 1) hx hb dX13_upwards_7 (by decide) ?_
  refine n_iadd hx hb dX13_upwards_8 ?_
  refine n_ren (b := 1) (by first | rfl | omega | simp) ?_
  refine p_newA C hw hA (mU mw_413) C.aoA 5 rfl (n := 1) (by first | decide | omega) (Nat.le_of_ble_eq_true rfl) (Nat.le_of_ble_eq_true rfl) dX13_upwards_9 (fun uu H hq_uu hw => ?_)
  obtain ⟨S3, hS3⟩ : ∃ z, z = pnew S uu (aQ (cy 5) 1 (fun _ => none)) := ⟨_, rfl⟩
  replace hw : pW D (pA S s.heap.size) s.heap S3 H locs := by rw [hS3]; exact hw
  have hL4 : uu ∈ S3.1 := by rw [hS3]; exact List.mem_append_right _ List.mem_cons_self
  have hf5 : S3.2 uu = aQ (cy 5) 1 (fun _ => none) := by rw [hS3]; exact pnew_s
  refine lv_astore_n (lv' := [(3, .ref uu), (0, .ref mm), (1, .ref bt), (2, .ref rl)]) hx hb dX13_upwards_12 rfl hl (by decide) rfl (fun ls hl => ?_)
  refine lv_aload_n hx hb dX13_upwards_13 rfl (lv_at hl 0 rfl) ?_
  refine lv_aload_n hx hb dX13_upwards_14 rfl (lv_at hl 1 rfl) ?_
  have hL6 : mm ∈ S3.1 := by rw [hS3]; exact List.mem_append_left _ hL_mm
  have hf7 : S3.2 mm = .inr (13, [.int (nI t0), .ref me, .ref sg, .ref cn, .ref im]) := by rw [hS3]; exact (pnew_n (fun z : mm = uu => hq_uu (by rw [← z]; exact hL_mm))).trans hf_mm
  refine p_get C hw (ci := 13) (Cn := RX13) (T := TX13) (N := 5) hL6 hf7 rfl hin_RX13 2 (by decide) (mU mw_90) rfl rfl dX13_upwards_15 ?_
  have hL8 : sg ∈ S3.1 := by rw [hS3]; exact List.mem_append_left _ hL_sg
  have hf9 : S3.2 sg = .inr (0, [.int (nI 0), .ref ed, .int (nI 0)]) := by rw [hS3]; exact (pnew_n (fun z : sg = uu => hq_uu (by rw [← z]; exact hL_sg))).trans hf_sg
  refine p_calli (va_runV (As := []) (rest := [.ref uu]) C.fix (e_Jx4a65c_size_8abf5 l D cy S3 H.size sg ed 0 0 hL8 hf9 ) (cwV 0 C.2.2.2.2.1 (gU_V mw_464 mw_465 mw_466 mw_89 (subU mw_467)) rfl rfl rfl hde_X13_upwards0_V_0 ⟨Nat.le_of_ble_eq_true rfl, Nat.le_of_ble_eq_true rfl⟩) (p_preV C hw hL8 hf9 rfl) rfl rfl hl.1 rfl (lv_room (Nat.le_of_ble_eq_true rfl)) dX13_upwards_18 ⟨(Nat.le_of_ble_eq_true rfl), (Nat.le_of_ble_eq_true rfl)⟩) hw hA (fun r11 S10 H locs hpost hw => ?_)
  obtain ⟨hr_, hS_⟩ := hpost
  subst hr_
  subst hS_
  refine lv_aload_n hx hb dX13_upwards_21 rfl (lv_at hl 2 rfl) ?_
  have hL12 : bt ∈ S3.1 := by rw [hS3]; exact List.mem_append_left _ hL_bt
  have hf13 : S3.2 bt = .inl (cy 0, 0, .inl bg) := by rw [hS3]; exact (pnew_n (fun z : bt = uu => hq_uu (by rw [← z]; exact hL_bt))).trans hf_bt
  refine p_astA C hw 5 rfl hL4 hf5 hL12 hf13 (by first | decide | omega) (by first | decide | omega) dX13_upwards_22 (fun H locs hw => ?_)
  obtain ⟨S14, hS14⟩ : ∃ z, z = pup S3 uu (aQ (cy 5) 1 (va_up (fun _ => none) 0 (some bt))) := ⟨_, rfl⟩
  replace hw : pW D (pA S s.heap.size) s.heap S14 H locs := by rw [hS14]; exact hw
  have hL15 : uu ∈ S14.1 := by rw [hS14]; exact hL4
  have hf16 : S14.2 uu = aQ (cy 5) 1 (va_up (fun _ => none) 0 (some bt)) := by rw [hS14]; exact pup_s
  refine lv_aload_n hx hb dX13_upwards_23 rfl (lv_at hl 1 rfl) ?_
  have hL17 : mm ∈ S14.1 := by rw [hS14]; exact hL6
  have hf18 : S14.2 mm = .inr (13, [.int (nI t0), .ref me, .ref sg, .ref cn, .ref im]) := by rw [hS14]; exact (pup_n (fun z : mm = uu => hq_uu (by rw [← z]; exact hL_mm))).trans hf7
  refine p_get C hw (ci := 13) (Cn := RX13) (T := TX13) (N := 5) hL17 hf18 rfl hin_RX13 2 (by decide) (mU mw_90) rfl rfl dX13_upwards_24 ?_
  have hL19 : sg ∈ S14.1 := by rw [hS14]; exact hL8
  have hf20 : S14.2 sg = .inr (0, [.int (nI 0), .ref ed, .int (nI 0)]) := by rw [hS14]; exact (pup_n (fun z : sg = uu => hq_uu (by rw [← z]; exact hL_sg))).trans hf9
  refine p_calli (va_runV (As := []) (rest := []) C.fix (e_Jx4a65c_size_8abf5 l D cy S14 H.size sg ed 0 0 hL19 hf20 ) (cwV 0 C.2.2.2.2.1 (gU_V mw_464 mw_465 mw_466 mw_89 (subU mw_467)) rfl rfl rfl hde_X13_upwards0_V_0 ⟨Nat.le_of_ble_eq_true rfl, Nat.le_of_ble_eq_true rfl⟩) (p_preV C hw hL19 hf20 rfl) rfl rfl hl.1 rfl (lv_room (Nat.le_of_ble_eq_true rfl)) dX13_upwards_27 ⟨(Nat.le_of_ble_eq_true rfl), (Nat.le_of_ble_eq_true rfl)⟩) hw hA (fun r22 S21 H locs hpost hw => ?_)
  obtain ⟨hr_, hS_⟩ := hpost
  subst hr_
  subst hS_
  refine lv_iconst (v := nI 1) hx hb dX13_upwards_30 (by decide) ?_
  refine lv_isub hx hb dX13_upwards_31 ?_
  refine x_ren (b := (-1)) (by decide) ?_
  refine lv_istore (lv' := [(4, .int (-1)), (3, .ref uu), (0, .ref mm), (1, .ref bt), (2, .ref rl)]) hx hb dX13_upwards_32 hl (by decide) rfl (fun ls hl => ?_)
  refine lv_iload hx hb dX13_upwards_34 (lv_at hl 0 rfl) ?_
  refine z_if_lt (tgt := 80) hx hb (show (-1 : Int32).toInt = -1 from by decide) dX13_upwards_36 (by decide) (fun h_36 => ?_) (fun h_36 => ?_)
  · skip
    refine lv_aload_n hx hb dX13_upwards_80 rfl (lv_at hl 1 rfl) ?_
    exact (p_qret C hw (v := some uu) (⟨uu, rfl, (by simp only [hS14, hS3, pup, pnew, List.append_nil, List.append_assoc, List.cons_append, List.nil_append]), (fun a_ ha_ => ((show S14.2 a_ = S3.2 a_ from by rw [hS14]; exact pup_n (fun z : a_ = uu => hq_uu (by rw [← z]; exact ha_))).trans (show S3.2 a_ = S.2 a_ from by rw [hS3]; exact pnew_n (fun z : a_ = uu => hq_uu (by rw [← z]; exact ha_))))), hf16⟩) hr (by first | exact Or.inl ⟨_, rfl⟩ | exact Or.inr ⟨_, rfl⟩) hlocks dX13_upwards_81)
  · exact absurd h_36 (by first | decide | omega)

set_option maxHeartbeats 4000000 in
set_option maxRecDepth 100000 in
theorem e_X13_others0 (l : Launch) (D : va_G) (cy : Nat → ClassId) (S : pS) (sz : Nat) (oa : Nat) (ob9 : Nat) (bg : Nat → Int32) (hL_oa : oa ∈ S.1) (hf_oa : S.2 oa = .inl (cy 0, 0, .inl bg))  : Met l yX13_others (Cond.code yX13_others cX13_others 4 (some .int) :: lwU) ({ frames := 0, cells := 0, slots := 0, locals := 0 }) (pPc D cy S sz [.ref oa, .ref ob9]) (pQi D cy S sz (fun r S' => r = (nI 0) ∧ S = S')) 0 0 (pA S sz) := by
  refine Met.ofW (cc := cX13_others) (maxL := 4) (ret := (some .int)) (by decide) rfl ?_
  intro p e s m args below meth c s₁ B hml hv
  obtain ⟨rfl, rfl, C, hw, hA, hr, hlocks⟩ := p_start B hml hv
  have hx := C.1
  have hb := C.2.1
  have hl := lv_entry ([.ref oa, .ref ob9]) (n := 4) (Nat.le_of_ble_eq_true rfl)
  rw [lg_entry_eq]
  generalize (lg_sl ([.ref oa, .ref ob9]) ++ List.replicate (4 - (lg_sl ([.ref oa, .ref ob9])).length) Slot.unset).toArray = ls at hl ⊢
  have hl : lv_has ls 4 [(0, .ref oa), (1, .ref ob9)] := hl
  refine lv_iconst (v := nI 0) hx hb dX13_others_0 (by decide) ?_
  refine lv_istore_n (lv' := [(2, .int (nI 0)), (0, .ref oa), (1, .ref ob9)]) hx hb dX13_others_1 rfl hl (by decide) rfl (fun ls hl => ?_)
  refine lv_iconst (v := nI 0) hx hb dX13_others_2 (by decide) ?_
  refine lv_istore_n (lv' := [(3, .int (nI 0)), (2, .int (nI 0)), (0, .ref oa), (1, .ref ob9)]) hx hb dX13_others_3 rfl hl (by decide) rfl (fun ls hl => ?_)
  refine lv_iload_n hx hb dX13_others_4 rfl (lv_at hl 0 rfl) ?_
  refine lv_aload_n hx hb dX13_others_5 rfl (lv_at hl 2 rfl) ?_
  refine n_len C hw 0 rfl hL_oa hf_oa (n := 0) rfl dX13_others_6 ?_
  refine n_icmp_ge (tgt := 33) hx hb (by first | decide | omega) (by first | decide | omega) dX13_others_7 (by decide) (fun h_7 => ?_) (fun h_7 => ?_)
  · skip
    refine lv_iload_n hx hb dX13_others_33 rfl (lv_at hl 1 rfl) ?_
    exact (p_iret C hw (⟨rfl, rfl⟩) hr hlocks dX13_others_34)
  · exact absurd h_7 (by first | decide | omega)

theorem hde_X13_errorsOf0_V_0 : yX13_upwards.cls = RX13 ∧ yX13_upwards.cls ≠ "java/lang/invoke/MethodHandle" ∧ yX13_upwards.cls ≠ "java/lang/invoke/VarHandle" ∧ (parseMethodDescriptor yX13_upwards.desc).map (fun d => d.parameters.length) = some 2 := by decide +kernel
theorem hde_X13_errorsOf0_S_1 : yX13_others.cls ≠ "java/lang/invoke/MethodHandle" ∧ yX13_others.cls ≠ "java/lang/invoke/VarHandle" ∧ (parseMethodDescriptor yX13_others.desc).map (fun d => d.parameters.length) = some 2 := by decide +kernel
set_option maxHeartbeats 4000000 in
set_option maxRecDepth 100000 in
theorem e_X13_errorsOf0 (l : Launch) (D : va_G) (cy : Nat → ClassId) (S : pS) (sz : Nat) (mm : Nat) (bt : Nat) (rl : Nat) (me : Nat) (sg : Nat) (cn : Nat) (im : Nat) (ed : Nat) (t0 : Nat) (bg : Nat → Int32) (hL_mm : mm ∈ S.1) (hf_mm : S.2 mm = .inr (13, [.int (nI t0), .ref me, .ref sg, .ref cn, .ref im])) (hL_sg : sg ∈ S.1) (hf_sg : S.2 sg = .inr (0, [.int (nI 0), .ref ed, .int (nI 0)])) (hL_bt : bt ∈ S.1) (hf_bt : S.2 bt = .inl (cy 0, 0, .inl bg))  : Met l yX13_errorsOf (Cond.code yX13_errorsOf cX13_errorsOf 3 (some .int) :: lwU) ({ frames := 2, cells := 1, slots := 1, locals := 44 }) (pPc D cy S sz [.ref mm, .ref bt, .ref rl]) (pQi D cy S sz (fun r S' => ∃ (uu : Nat), r = (nI 0) ∧ S'.1 = S.1 ++ [uu] ∧ (∀ a_, a_ ∈ S.1 → S'.2 a_ = S.2 a_))) 1 1 (pA S sz) := by
  refine Met.ofW (cc := cX13_errorsOf) (maxL := 3) (ret := (some .int)) (by decide) rfl ?_
  intro p e s m args below meth c s₁ B hml hv
  obtain ⟨rfl, rfl, C, hw, hA, hr, hlocks⟩ := p_start B hml hv
  have hx := C.1
  have hb := C.2.1
  have hl := lv_entry ([.ref mm, .ref bt, .ref rl]) (n := 3) (Nat.le_of_ble_eq_true rfl)
  rw [lg_entry_eq]
  generalize (lg_sl ([.ref mm, .ref bt, .ref rl]) ++ List.replicate (3 - (lg_sl ([.ref mm, .ref bt, .ref rl])).length) Slot.unset).toArray = ls at hl ⊢
  have hl : lv_has ls 3 [(0, .ref mm), (1, .ref bt), (2, .ref rl)] := hl
  have hin_RX13 : ∀ w ∈ u_ws RX13 TX13 5, w ∈ (Cond.code yX13_errorsOf cX13_errorsOf 3 (some .int) :: lwU) := fun w h => mU (sub_RX13 w h)
  refine lv_aload_n hx hb dX13_errorsOf_0 rfl (lv_at hl 0 rfl) ?_
  refine lv_aload_n hx hb dX13_errorsOf_1 rfl (lv_at hl 1 rfl) ?_
  refine lv_aload_n hx hb dX13_errorsOf_2 rfl (lv_at hl 2 rfl) ?_
  refine p_callq (va_runV (As := [.ref bt, .ref rl]) (rest := []) C.fix (e_X13_upwards0 l D cy S s.heap.size mm bt rl me sg cn im ed t0 bg hL_mm hf_mm hL_sg hf_sg hL_bt hf_bt ) (cwV 2 C.2.2.2.2.1 (gU_V mw_835 mw_836 mw_837 mw_5 (subU mw_838)) rfl rfl rfl hde_X13_errorsOf0_V_0 ⟨Nat.le_of_ble_eq_true rfl, Nat.le_of_ble_eq_true rfl⟩) (p_preV C hw hL_mm hf_mm rfl) rfl rfl hl.1 rfl (lv_room (Nat.le_of_ble_eq_true rfl)) dX13_errorsOf_3 ⟨(Nat.le_of_ble_eq_true rfl), (Nat.le_of_ble_eq_true rfl)⟩) hw hA (fun r2 S1 H locs hpost hw => ?_)
  obtain ⟨uu, hr_, hS3, hfr4, hf5⟩ := hpost
  subst hr_
  have hq6 : uu ∉ S.1 := p_fresh hw hS3 0 rfl
  have hL7 : uu ∈ S1.1 := by rw [hS3]; exact List.mem_append_right _ (List.mem_of_getElem? (i := 0) rfl)
  refine lv_iconst (v := nI 0) hx hb dX13_errorsOf_6 (by decide) ?_
  refine p_aldA C hw 5 rfl hL7 hf5 (by first | decide | omega) (by first | decide | omega) (r := some bt) (by simp [va_up]) dX13_errorsOf_7 ?_
  refine lv_aload_n hx hb dX13_errorsOf_8 rfl (lv_at hl 0 rfl) ?_
  have hL8 : mm ∈ S1.1 := by rw [hS3]; exact List.mem_append_left _ hL_mm
  have hf9 : S1.2 mm = .inr (13, [.int (nI t0), .ref me, .ref sg, .ref cn, .ref im]) := (hfr4 mm hL_mm ).trans hf_mm
  refine p_get C hw (ci := 13) (Cn := RX13) (T := TX13) (N := 5) hL8 hf9 rfl hin_RX13 1 (by decide) (mU mw_86) rfl rfl dX13_errorsOf_9 ?_
  have hL10 : bt ∈ S1.1 := by rw [hS3]; exact List.mem_append_left _ hL_bt
  have hf11 : S1.2 bt = .inl (cy 0, 0, .inl bg) := (hfr4 bt hL_bt ).trans hf_bt
  refine p_calli (va_runS (As := [.ref bt, .ref me]) (rest := []) C.fix (e_X13_others0 l D cy S1 H.size bt me bg hL10 hf11 ) (va_cwS 2 C.2.2.2.2.1 (gU_S mw_877 mw_878 mw_5 (subU mw_879)) rfl rfl rfl hde_X13_errorsOf0_S_1 ⟨Nat.le_of_ble_eq_true rfl, Nat.le_of_ble_eq_true rfl⟩) (p_preS C hw) rfl rfl hl.1 rfl (lv_room (Nat.le_of_ble_eq_true rfl)) dX13_errorsOf_12 ⟨(Nat.le_of_ble_eq_true rfl), (Nat.le_of_ble_eq_true rfl)⟩) hw hA (fun r13 S12 H locs hpost hw => ?_)
  obtain ⟨hr_, hS_⟩ := hpost
  subst hr_
  subst hS_
  exact (p_iret C hw (⟨uu, rfl, (by simp only [hS3, pup, pnew, List.append_nil, List.append_assoc, List.cons_append, List.nil_append]), (fun a_ ha_ => (hfr4 a_ ha_ ))⟩) hr hlocks dX13_errorsOf_15)

theorem hde_X13_errorsNow0_V_0 : yX13_rows.cls = RX13 ∧ yX13_rows.cls ≠ "java/lang/invoke/MethodHandle" ∧ yX13_rows.cls ≠ "java/lang/invoke/VarHandle" ∧ (parseMethodDescriptor yX13_rows.desc).map (fun d => d.parameters.length) = some 1 := by decide +kernel
theorem hde_X13_errorsNow0_V_1 : yJx4a65c_size_8abf5.cls = RJx4a65c ∧ yJx4a65c_size_8abf5.cls ≠ "java/lang/invoke/MethodHandle" ∧ yJx4a65c_size_8abf5.cls ≠ "java/lang/invoke/VarHandle" ∧ (parseMethodDescriptor yJx4a65c_size_8abf5.desc).map (fun d => d.parameters.length) = some 0 := by decide +kernel
theorem hde_X13_errorsNow0_V_2 : yJx4a65c_get_915e3.cls = RJx4a65c ∧ yJx4a65c_get_915e3.cls ≠ "java/lang/invoke/MethodHandle" ∧ yJx4a65c_get_915e3.cls ≠ "java/lang/invoke/VarHandle" ∧ (parseMethodDescriptor yJx4a65c_get_915e3.desc).map (fun d => d.parameters.length) = some 1 := by decide +kernel
theorem hde_X13_errorsNow0_V_3 : yX13_comes.cls = RX13 ∧ yX13_comes.cls ≠ "java/lang/invoke/MethodHandle" ∧ yX13_comes.cls ≠ "java/lang/invoke/VarHandle" ∧ (parseMethodDescriptor yX13_comes.desc).map (fun d => d.parameters.length) = some 1 := by decide +kernel
theorem hde_X13_errorsNow0_V_4 : yX13_errorsOf.cls = RX13 ∧ yX13_errorsOf.cls ≠ "java/lang/invoke/MethodHandle" ∧ yX13_errorsOf.cls ≠ "java/lang/invoke/VarHandle" ∧ (parseMethodDescriptor yX13_errorsOf.desc).map (fun d => d.parameters.length) = some 2 := by decide +kernel
set_option maxHeartbeats 4000000 in
set_option maxRecDepth 100000 in
theorem e_X13_errorsNow0 (l : Launch) (D : va_G) (cy : Nat → ClassId) (ed : Nat) (S : pS) (sz : Nat) (mm : Nat) (me : Nat) (sg : Nat) (cn : Nat) (im : Nat) (t0 : Nat) (cg : Nat → Int32) (hL_mm : mm ∈ S.1) (hf_mm : S.2 mm = .inr (13, [.int (nI t0), .ref me, .ref sg, .ref cn, .ref im])) (hL_me : me ∈ S.1) (hf_me : S.2 me = .inl (cy 0, 0, .inl (fun _ => 0))) (hL_sg : sg ∈ S.1) (hf_sg : S.2 sg = .inr (0, [.int (nI 0), .ref ed, .int (nI 0)])) (hL_cn : cn ∈ S.1) (hf_cn : S.2 cn = .inl (cy 0, 4, .inl cg))  : Met l yX13_errorsNow (Cond.code yX13_errorsNow cX13_errorsNow 2 (some .int) :: lwU) ({ frames := 6, cells := 4, slots := 14, locals := 131 }) (ePc D cy ed S sz [.ref mm]) (pQi D cy S sz (fun r S' => ∃ (nl : List Nat), r = (nI 0) ∧ S'.1 = S.1 ++ nl ∧ (∀ a_, a_ ∈ S.1 → S'.2 a_ = S.2 a_))) 4 14 (pA S sz) := by
  refine Met.ofW (cc := cX13_errorsNow) (maxL := 2) (ret := (some .int)) (by decide) rfl ?_
  intro p e s m args below meth c s₁ B hml hv
  obtain ⟨rfl, rfl, C, hw, hA, hr, hlocks, hE⟩ := e_start B hml hv
  have hx := C.1
  have hb := C.2.1
  have hl := lv_entry ([.ref mm]) (n := 2) (Nat.le_of_ble_eq_true rfl)
  rw [lg_entry_eq]
  generalize (lg_sl ([.ref mm]) ++ List.replicate (2 - (lg_sl ([.ref mm])).length) Slot.unset).toArray = ls at hl ⊢
  have hl : lv_has ls 2 [(0, .ref mm)] := hl
  have hin_RX13 : ∀ w ∈ u_ws RX13 TX13 5, w ∈ (Cond.code yX13_errorsNow cX13_errorsNow 2 (some .int) :: lwU) := fun w h => mU (sub_RX13 w h)
  refine lv_aload_n hx hb dX13_errorsNow_0 rfl (lv_at hl 0 rfl) ?_
  refine lv_aload_n hx hb dX13_errorsNow_1 rfl (lv_at hl 0 rfl) ?_
  refine p_get C hw (ci := 13) (Cn := RX13) (T := TX13) (N := 5) hL_mm hf_mm rfl hin_RX13 1 (by decide) (mU mw_86) rfl rfl dX13_errorsNow_2 ?_
  refine p_callq (va_runV (As := [.ref me]) (rest := []) C.fix (e_X13_rows0 l D cy ed S s.heap.size mm me me sg cn im t0 0 (fun _ => 0) hL_mm hf_mm hL_sg hf_sg hL_me hf_me ) (cwV 1 C.2.2.2.2.1 (gU_V mw_414 mw_415 mw_416 mw_5 (subU mw_417)) rfl rfl rfl hde_X13_errorsNow0_V_0 ⟨Nat.le_of_ble_eq_true rfl, Nat.le_of_ble_eq_true rfl⟩) (e_preV C hw hA hE hL_mm hf_mm rfl) rfl rfl hl.1 rfl (lv_room (Nat.le_of_ble_eq_true rfl)) dX13_errorsNow_5 ⟨(Nat.le_of_ble_eq_true rfl), (Nat.le_of_ble_eq_true rfl)⟩) hw hA (fun r2 S1 H locs hpost hw => ?_)
  obtain ⟨rl3, ra4, hr_, hS5, hfr6, hf7, hf8⟩ := hpost
  subst hr_
  have hnd9 := p_apart hw hS5
  have hq10 : rl3 ∉ S.1 := p_fresh hw hS5 0 rfl
  have hq11 : ra4 ∉ S.1 := p_fresh hw hS5 1 rfl
  have hL12 : rl3 ∈ S1.1 := by rw [hS5]; exact List.mem_append_right _ (List.mem_of_getElem? (i := 0) rfl)
  have hL13 : ra4 ∈ S1.1 := by rw [hS5]; exact List.mem_append_right _ (List.mem_of_getElem? (i := 1) rfl)
  refine lv_astore_n (lv' := [(1, .ref rl3), (0, .ref mm)]) hx hb dX13_errorsNow_8 rfl hl (by decide) rfl (fun ls hl => ?_)
  refine lv_aload_n hx hb dX13_errorsNow_9 rfl (lv_at hl 1 rfl) ?_
  refine lv_aload_n hx hb dX13_errorsNow_10 rfl (lv_at hl 1 rfl) ?_
  refine lv_aload_n hx hb dX13_errorsNow_11 rfl (lv_at hl 0 rfl) ?_
  refine lv_aload_n hx hb dX13_errorsNow_12 rfl (lv_at hl 1 rfl) ?_
  have hL14 : mm ∈ S1.1 := by rw [hS5]; exact List.mem_append_left _ hL_mm
  have hf15 : S1.2 mm = .inr (13, [.int (nI t0), .ref me, .ref sg, .ref cn, .ref im]) := (hfr6 mm hL_mm ).trans hf_mm
  refine p_get C hw (ci := 13) (Cn := RX13) (T := TX13) (N := 5) hL14 hf15 rfl hin_RX13 2 (by decide) (mU mw_90) rfl rfl dX13_errorsNow_13 ?_
  have hL16 : sg ∈ S1.1 := by rw [hS5]; exact List.mem_append_left _ hL_sg
  have hf17 : S1.2 sg = .inr (0, [.int (nI 0), .ref ed, .int (nI 0)]) := (hfr6 sg hL_sg ).trans hf_sg
  refine p_calli (va_runV (As := []) (rest := [.ref rl3, .ref mm, .ref mm]) C.fix (e_Jx4a65c_size_8abf5 l D cy S1 H.size sg ed 0 0 hL16 hf17 ) (cwV 0 C.2.2.2.2.1 (gU_V mw_464 mw_465 mw_466 mw_89 (subU mw_467)) rfl rfl rfl hde_X13_errorsNow0_V_1 ⟨Nat.le_of_ble_eq_true rfl, Nat.le_of_ble_eq_true rfl⟩) (p_preV C hw hL16 hf17 rfl) rfl rfl hl.1 rfl (lv_room (Nat.le_of_ble_eq_true rfl)) dX13_errorsNow_16 ⟨(Nat.le_of_ble_eq_true rfl), (Nat.le_of_ble_eq_true rfl)⟩) hw hA (fun r19 S18 H locs hpost hw => ?_)
  obtain ⟨hr_, hS_⟩ := hpost
  subst hr_
  subst hS_
  refine p_callq (va_runV (As := [.int (nI 0)]) (rest := [.ref mm, .ref mm]) C.fix (e_Jx4a65c_get_915e3 l D cy S1 H.size rl3 ra4 1 1 0 me (va_up (fun _ => none) 0 (some me)) hL12 hf7 hL13 hf8 (by first | assumption | decide | omega) (by first | assumption | decide | omega) (by first | assumption | rfl | simp [va_up])) (cwV 1 C.2.2.2.2.1 (gU_V mw_468 mw_469 mw_470 mw_89 (subU mw_471)) rfl rfl rfl hde_X13_errorsNow0_V_2 ⟨Nat.le_of_ble_eq_true rfl, Nat.le_of_ble_eq_true rfl⟩) (p_preV C hw hL12 hf7 rfl) rfl rfl hl.1 rfl (lv_room (Nat.le_of_ble_eq_true rfl)) dX13_errorsNow_19 ⟨(Nat.le_of_ble_eq_true rfl), (Nat.le_of_ble_eq_true rfl)⟩) hw hA (fun r21 S20 H locs hpost hw => ?_)
  obtain ⟨hr_, hS_⟩ := hpost
  subst hr_
  subst hS_
  have hL22 : me ∈ S1.1 := by rw [hS5]; exact List.mem_append_left _ hL_me
  have hf23 : S1.2 me = .inl (cy 0, 0, .inl (fun _ => 0)) := (hfr6 me hL_me ).trans hf_me
  refine p_castA C hw hL22 hf23 (C.2.2.2.2.1 _ (mU mw_413)) dX13_errorsNow_22 ?_
  have hL24 : cn ∈ S1.1 := by rw [hS5]; exact List.mem_append_left _ hL_cn
  have hf25 : S1.2 cn = .inl (cy 0, 4, .inl cg) := (hfr6 cn hL_cn ).trans hf_cn
  refine p_callq (va_runV (As := [.ref me]) (rest := [.ref mm]) C.fix (e_X13_comes0 l D cy S1 H.size mm me me sg cn im t0 (fun _ => 0) cg hL14 hf15 hL24 hf25 hL22 hf23 ) (cwV 1 C.2.2.2.2.1 (gU_V mw_818 mw_819 mw_820 mw_5 (subU mw_821)) rfl rfl rfl hde_X13_errorsNow0_V_3 ⟨Nat.le_of_ble_eq_true rfl, Nat.le_of_ble_eq_true rfl⟩) (p_preV C hw hL14 hf15 rfl) rfl rfl hl.1 rfl (lv_room (Nat.le_of_ble_eq_true rfl)) dX13_errorsNow_25 ⟨(Nat.le_of_ble_eq_true rfl), (Nat.le_of_ble_eq_true rfl)⟩) hw hA (fun r27 S26 H locs hpost hw => ?_)
  obtain ⟨ov28, hr_, hS29, hfr30, hf31⟩ := hpost
  subst hr_
  have hq32 : ov28 ∉ S1.1 := p_fresh hw hS29 0 rfl
  have hL33 : ov28 ∈ S26.1 := by rw [hS29]; exact List.mem_append_right _ (List.mem_of_getElem? (i := 0) rfl)
  refine lv_aload_n hx hb dX13_errorsNow_28 rfl (lv_at hl 0 rfl) ?_
  have hL34 : mm ∈ S26.1 := by rw [hS29]; exact List.mem_append_left _ hL14
  have hf35 : S26.2 mm = .inr (13, [.int (nI t0), .ref me, .ref sg, .ref cn, .ref im]) := (hfr30 mm hL14 ).trans hf15
  have hL36 : sg ∈ S26.1 := by rw [hS29]; exact List.mem_append_left _ hL16
  have hf37 : S26.2 sg = .inr (0, [.int (nI 0), .ref ed, .int (nI 0)]) := (hfr30 sg hL16 ).trans hf17
  refine p_calli (va_runV (As := [.ref ov28, .ref rl3]) (rest := []) C.fix (e_X13_errorsOf0 l D cy S26 H.size mm ov28 rl3 me sg cn im ed t0 (fun _ => 0) hL34 hf35 hL36 hf37 hL33 hf31 ) (cwV 2 C.2.2.2.2.1 (gU_V mw_943 mw_944 mw_945 mw_5 (subU mw_946)) rfl rfl rfl hde_X13_errorsNow0_V_4 ⟨Nat.le_of_ble_eq_true rfl, Nat.le_of_ble_eq_true rfl⟩) (p_preV C hw hL34 hf35 rfl) rfl rfl hl.1 rfl (lv_room (Nat.le_of_ble_eq_true rfl)) dX13_errorsNow_29 ⟨(Nat.le_of_ble_eq_true rfl), (Nat.le_of_ble_eq_true rfl)⟩) hw hA (fun r39 S38 H locs hpost hw => ?_)
  obtain ⟨uu40, hr_, hS41, hfr42⟩ := hpost
  subst hr_
  have hq43 : uu40 ∉ S26.1 := p_fresh hw hS41 0 rfl
  exact (p_iret C hw (⟨([rl3, ra4] ++ [ov28] ++ [uu40]), rfl, (by simp only [hS41, hS29, hS5, pup, pnew, List.append_nil, List.append_assoc, List.cons_append, List.nil_append]), (fun a_ ha_ => ((hfr42 a_ (show a_ ∈ S26.1 from by rw [hS29]; exact List.mem_append_left _ (show a_ ∈ S1.1 from by rw [hS5]; exact List.mem_append_left _ ha_)) ).trans ((hfr30 a_ (show a_ ∈ S1.1 from by rw [hS5]; exact List.mem_append_left _ ha_) ).trans (hfr6 a_ ha_ ))))⟩) hr hlocks dX13_errorsNow_32)

theorem hde_X13_isTooMuch0_V_0 : yX13_rows.cls = RX13 ∧ yX13_rows.cls ≠ "java/lang/invoke/MethodHandle" ∧ yX13_rows.cls ≠ "java/lang/invoke/VarHandle" ∧ (parseMethodDescriptor yX13_rows.desc).map (fun d => d.parameters.length) = some 1 := by decide +kernel
theorem hde_X13_isTooMuch0_V_1 : yJx4a65c_size_8abf5.cls = RJx4a65c ∧ yJx4a65c_size_8abf5.cls ≠ "java/lang/invoke/MethodHandle" ∧ yJx4a65c_size_8abf5.cls ≠ "java/lang/invoke/VarHandle" ∧ (parseMethodDescriptor yJx4a65c_size_8abf5.desc).map (fun d => d.parameters.length) = some 0 := by decide +kernel
theorem hde_X13_isTooMuch0_V_2 : yJx4a65c_get_915e3.cls = RJx4a65c ∧ yJx4a65c_get_915e3.cls ≠ "java/lang/invoke/MethodHandle" ∧ yJx4a65c_get_915e3.cls ≠ "java/lang/invoke/VarHandle" ∧ (parseMethodDescriptor yJx4a65c_get_915e3.desc).map (fun d => d.parameters.length) = some 1 := by decide +kernel
set_option maxHeartbeats 4000000 in
set_option maxRecDepth 100000 in
theorem e_X13_isTooMuch0 (l : Launch) (D : va_G) (cy : Nat → ClassId) (ed : Nat) (S : pS) (sz : Nat) (mm : Nat) (bt : Nat) (me : Nat) (sg : Nat) (cn : Nat) (im : Nat) (t0 : Nat) (bn : Nat) (bg : Nat → Int32) (hL_mm : mm ∈ S.1) (hf_mm : S.2 mm = .inr (13, [.int (nI t0), .ref me, .ref sg, .ref cn, .ref im])) (hL_sg : sg ∈ S.1) (hf_sg : S.2 sg = .inr (0, [.int (nI 0), .ref ed, .int (nI 0)])) (hL_bt : bt ∈ S.1) (hf_bt : S.2 bt = .inl (cy 0, bn, .inl bg)) (hbn : bn ≤ 320) : Met l yX13_isTooMuch (Cond.code yX13_isTooMuch cX13_isTooMuch 2 (some .boolean) :: lwU) ({ frames := 6, cells := 2, slots := 13, locals := 131 }) (ePc D cy ed S sz [.ref mm, .ref bt]) (pQi D cy S sz (fun r S' => ∃ (nl : List Nat), r = (nI 0) ∧ S'.1 = S.1 ++ nl ∧ (∀ a_, a_ ∈ S.1 → S'.2 a_ = S.2 a_))) 2 13 (pA S sz) := by
  refine Met.ofW (cc := cX13_isTooMuch) (maxL := 2) (ret := (some .boolean)) (by decide) rfl ?_
  intro p e s m args below meth c s₁ B hml hv
  obtain ⟨rfl, rfl, C, hw, hA, hr, hlocks, hE⟩ := e_start B hml hv
  have hx := C.1
  have hb := C.2.1
  have hl := lv_entry ([.ref mm, .ref bt]) (n := 2) (Nat.le_of_ble_eq_true rfl)
  rw [lg_entry_eq]
  generalize (lg_sl ([.ref mm, .ref bt]) ++ List.replicate (2 - (lg_sl ([.ref mm, .ref bt])).length) Slot.unset).toArray = ls at hl ⊢
  have hl : lv_has ls 2 [(0, .ref mm), (1, .ref bt)] := hl
  have hin_RX13 : ∀ w ∈ u_ws RX13 TX13 5, w ∈ (Cond.code yX13_isTooMuch cX13_isTooMuch 2 (some .boolean) :: lwU) := fun w h => mU (sub_RX13 w h)
  refine lv_aload_n hx hb dX13_isTooMuch_0 rfl (lv_at hl 0 rfl) ?_
  refine lv_aload_n hx hb dX13_isTooMuch_1 rfl (lv_at hl 1 rfl) ?_
  refine p_callq (va_runV (As := [.ref bt]) (rest := []) C.fix (e_X13_rows0 l D cy ed S s.heap.size mm bt me sg cn im t0 bn bg hL_mm hf_mm hL_sg hf_sg hL_bt hf_bt ) (cwV 1 C.2.2.2.2.1 (gU_V mw_414 mw_415 mw_416 mw_5 (subU mw_417)) rfl rfl rfl hde_X13_isTooMuch0_V_0 ⟨Nat.le_of_ble_eq_true rfl, Nat.le_of_ble_eq_true rfl⟩) (e_preV C hw hA hE hL_mm hf_mm rfl) rfl rfl hl.1 rfl (lv_room (Nat.le_of_ble_eq_true rfl)) dX13_isTooMuch_2 ⟨(Nat.le_of_ble_eq_true rfl), (Nat.le_of_ble_eq_true rfl)⟩) hw hA (fun r2 S1 H locs hpost hw => ?_)
  obtain ⟨rl3, ra4, hr_, hS5, hfr6, hf7, hf8⟩ := hpost
  subst hr_
  have hnd9 := p_apart hw hS5
  have hq10 : rl3 ∉ S.1 := p_fresh hw hS5 0 rfl
  have hq11 : ra4 ∉ S.1 := p_fresh hw hS5 1 rfl
  have hL12 : rl3 ∈ S1.1 := by rw [hS5]; exact List.mem_append_right _ (List.mem_of_getElem? (i := 0) rfl)
  have hL13 : ra4 ∈ S1.1 := by rw [hS5]; exact List.mem_append_right _ (List.mem_of_getElem? (i := 1) rfl)
  refine lv_aload_n hx hb dX13_isTooMuch_5 rfl (lv_at hl 0 rfl) ?_
  have hL14 : mm ∈ S1.1 := by rw [hS5]; exact List.mem_append_left _ hL_mm
  have hf15 : S1.2 mm = .inr (13, [.int (nI t0), .ref me, .ref sg, .ref cn, .ref im]) := (hfr6 mm hL_mm ).trans hf_mm
  refine p_get C hw (ci := 13) (Cn := RX13) (T := TX13) (N := 5) hL14 hf15 rfl hin_RX13 2 (by decide) (mU mw_90) rfl rfl dX13_isTooMuch_6 ?_
  have hL16 : sg ∈ S1.1 := by rw [hS5]; exact List.mem_append_left _ hL_sg
  have hf17 : S1.2 sg = .inr (0, [.int (nI 0), .ref ed, .int (nI 0)]) := (hfr6 sg hL_sg ).trans hf_sg
  refine p_calli (va_runV (As := []) (rest := [.ref rl3]) C.fix (e_Jx4a65c_size_8abf5 l D cy S1 H.size sg ed 0 0 hL16 hf17 ) (cwV 0 C.2.2.2.2.1 (gU_V mw_464 mw_465 mw_466 mw_89 (subU mw_467)) rfl rfl rfl hde_X13_isTooMuch0_V_1 ⟨Nat.le_of_ble_eq_true rfl, Nat.le_of_ble_eq_true rfl⟩) (p_preV C hw hL16 hf17 rfl) rfl rfl hl.1 rfl (lv_room (Nat.le_of_ble_eq_true rfl)) dX13_isTooMuch_9 ⟨(Nat.le_of_ble_eq_true rfl), (Nat.le_of_ble_eq_true rfl)⟩) hw hA (fun r19 S18 H locs hpost hw => ?_)
  obtain ⟨hr_, hS_⟩ := hpost
  subst hr_
  subst hS_
  refine p_callq (va_runV (As := [.int (nI 0)]) (rest := []) C.fix (e_Jx4a65c_get_915e3 l D cy S1 H.size rl3 ra4 1 1 0 bt (va_up (fun _ => none) 0 (some bt)) hL12 hf7 hL13 hf8 (by first | assumption | decide | omega) (by first | assumption | decide | omega) (by first | assumption | rfl | simp [va_up])) (cwV 1 C.2.2.2.2.1 (gU_V mw_468 mw_469 mw_470 mw_89 (subU mw_471)) rfl rfl rfl hde_X13_isTooMuch0_V_2 ⟨Nat.le_of_ble_eq_true rfl, Nat.le_of_ble_eq_true rfl⟩) (p_preV C hw hL12 hf7 rfl) rfl rfl hl.1 rfl (lv_room (Nat.le_of_ble_eq_true rfl)) dX13_isTooMuch_12 ⟨(Nat.le_of_ble_eq_true rfl), (Nat.le_of_ble_eq_true rfl)⟩) hw hA (fun r21 S20 H locs hpost hw => ?_)
  obtain ⟨hr_, hS_⟩ := hpost
  subst hr_
  subst hS_
  have hL22 : bt ∈ S1.1 := by rw [hS5]; exact List.mem_append_left _ hL_bt
  have hf23 : S1.2 bt = .inl (cy 0, bn, .inl bg) := (hfr6 bt hL_bt ).trans hf_bt
  refine p_castA C hw hL22 hf23 (C.2.2.2.2.1 _ (mU mw_413)) dX13_isTooMuch_15 ?_
  refine n_len C hw 0 rfl hL22 hf23 (n := bn) rfl dX13_isTooMuch_18 ?_
  refine lv_sipush (v := nI 320) hx hb dX13_isTooMuch_19 (by decide) ?_
  refine n_icmp_le (tgt := 29) hx hb (by first | decide | omega) (by first | decide | omega) dX13_isTooMuch_22 (by decide) (fun h_22 => ?_) (fun h_22 => ?_)
  · skip
    refine lv_iconst (v := nI 0) hx hb dX13_isTooMuch_29 (by decide) ?_
    exact (p_zret C hw (⟨([rl3, ra4]), rfl, (by simp only [hS5, pup, pnew, List.append_nil, List.append_assoc, List.cons_append, List.nil_append]), (fun a_ ha_ => (hfr6 a_ ha_ ))⟩) hr rfl hlocks dX13_isTooMuch_30)
  · exfalso; omega

theorem hde_X13_isNoStage0_V_0 : yJx4a65c_size_8abf5.cls = RJx4a65c ∧ yJx4a65c_size_8abf5.cls ≠ "java/lang/invoke/MethodHandle" ∧ yJx4a65c_size_8abf5.cls ≠ "java/lang/invoke/VarHandle" ∧ (parseMethodDescriptor yJx4a65c_size_8abf5.desc).map (fun d => d.parameters.length) = some 0 := by decide +kernel
theorem hde_X13_isNoStage0_S_1 : yX13_isIn.cls ≠ "java/lang/invoke/MethodHandle" ∧ yX13_isIn.cls ≠ "java/lang/invoke/VarHandle" ∧ (parseMethodDescriptor yX13_isIn.desc).map (fun d => d.parameters.length) = some 3 := by decide +kernel
theorem hde_X13_isNoStage0_V_2 : yX13_start.cls = RX13 ∧ yX13_start.cls ≠ "java/lang/invoke/MethodHandle" ∧ yX13_start.cls ≠ "java/lang/invoke/VarHandle" ∧ (parseMethodDescriptor yX13_start.desc).map (fun d => d.parameters.length) = some 2 := by decide +kernel
set_option maxHeartbeats 4000000 in
set_option maxRecDepth 100000 in
theorem e_X13_isNoStage0 (l : Launch) (D : va_G) (cy : Nat → ClassId) (S : pS) (sz : Nat) (mm : Nat) (me : Nat) (sg : Nat) (cn : Nat) (im : Nat) (ed : Nat) (t0 : Nat) (j : Int32) (hL_mm : mm ∈ S.1) (hf_mm : S.2 mm = .inr (13, [.int (nI t0), .ref me, .ref sg, .ref cn, .ref im])) (hL_sg : sg ∈ S.1) (hf_sg : S.2 sg = .inr (0, [.int (nI 0), .ref ed, .int (nI 0)]))  : Met l yX13_isNoStage (Cond.code yX13_isNoStage cX13_isNoStage 2 (some .boolean) :: lwU) ({ frames := 2, cells := 0, slots := 0, locals := 44 }) (pPc D cy S sz [.ref mm, .int j]) (pQi D cy S sz (fun r S' => r = (nI 1) ∧ S'.1 = S.1 ++ [] ∧ (∀ a_, a_ ∈ S.1 → a_ ≠ mm → S'.2 a_ = S.2 a_) ∧ S'.2 mm = .inr (13, [.int (nI 1), .ref me, .ref sg, .ref cn, .ref im]))) 0 0 (pA S sz) := by
  refine Met.ofW (cc := cX13_isNoStage) (maxL := 2) (ret := (some .boolean)) (by decide) rfl ?_
  intro p e s m args below meth c s₁ B hml hv
  obtain ⟨rfl, rfl, C, hw, hA, hr, hlocks⟩ := p_start B hml hv
  have hx := C.1
  have hb := C.2.1
  have hl := lv_entry ([.ref mm, .int j]) (n := 2) (Nat.le_of_ble_eq_true rfl)
  rw [lg_entry_eq]
  generalize (lg_sl ([.ref mm, .int j]) ++ List.replicate (2 - (lg_sl ([.ref mm, .int j])).length) Slot.unset).toArray = ls at hl ⊢
  have hl : lv_has ls 2 [(0, .ref mm), (1, .int j)] := hl
  have hin_RX13 : ∀ w ∈ u_ws RX13 TX13 5, w ∈ (Cond.code yX13_isNoStage cX13_isNoStage 2 (some .boolean) :: lwU) := fun w h => mU (sub_RX13 w h)
  refine lv_aload_n hx hb dX13_isNoStage_0 rfl (lv_at hl 0 rfl) ?_
  refine lv_iload_n hx hb dX13_isNoStage_1 rfl (lv_at hl 1 rfl) ?_
  refine lv_iconst (v := nI 0) hx hb dX13_isNoStage_2 (by decide) ?_
  refine lv_aload_n hx hb dX13_isNoStage_3 rfl (lv_at hl 0 rfl) ?_
  refine p_get C hw (ci := 13) (Cn := RX13) (T := TX13) (N := 5) hL_mm hf_mm rfl hin_RX13 2 (by decide) (mU mw_90) rfl rfl dX13_isNoStage_4 ?_
  refine p_calli (va_runV (As := []) (rest := [.int (nI 0), .int j, .ref mm]) C.fix (e_Jx4a65c_size_8abf5 l D cy S s.heap.size sg ed 0 0 hL_sg hf_sg ) (cwV 0 C.2.2.2.2.1 (gU_V mw_464 mw_465 mw_466 mw_89 (subU mw_467)) rfl rfl rfl hde_X13_isNoStage0_V_0 ⟨Nat.le_of_ble_eq_true rfl, Nat.le_of_ble_eq_true rfl⟩) (p_preV C hw hL_sg hf_sg rfl) rfl rfl hl.1 rfl (lv_room (Nat.le_of_ble_eq_true rfl)) dX13_isNoStage_7 ⟨(Nat.le_of_ble_eq_true rfl), (Nat.le_of_ble_eq_true rfl)⟩) hw hA (fun r2 S1 H locs hpost hw => ?_)
  obtain ⟨hr_, hS_⟩ := hpost
  subst hr_
  subst hS_
  refine lv_iconst (v := nI 1) hx hb dX13_isNoStage_10 (by decide) ?_
  refine lv_isub hx hb dX13_isNoStage_11 ?_
  refine x_ren (b := (-1)) (by decide) ?_
  refine p_calli (va_runS (As := [.int j, .int (nI 0), .int (-1)]) (rest := [.ref mm]) C.fix (e_X13_isIn l D cy S H.size j (nI 0) (-1) j.toInt ((0 : Nat) : Int) (-1)  rfl (nI_toInt (by first | decide | omega)) (show (-1 : Int32).toInt = -1 from by decide)) (va_cwS 3 C.2.2.2.2.1 (gU_S mw_394 mw_395 mw_5 (subU mw_396)) rfl rfl rfl hde_X13_isNoStage0_S_1 ⟨Nat.le_of_ble_eq_true rfl, Nat.le_of_ble_eq_true rfl⟩) (p_preS C hw) rfl rfl hl.1 rfl (lv_room (Nat.le_of_ble_eq_true rfl)) dX13_isNoStage_12 ⟨(Nat.le_of_ble_eq_true rfl), (Nat.le_of_ble_eq_true rfl)⟩) hw hA (fun r4 S3 H locs hpost hw => ?_)
  rcases hpost with hpost | hpost
  · skip
    obtain ⟨hc5, hr_, hS_⟩ := hpost
    subst hr_
    subst hS_
    exfalso; omega
  · skip
    obtain ⟨hc6, hr_, hS_⟩ := hpost
    subst hr_
    subst hS_
    refine n_if_ne (tgt := 22) hx hb (by first | decide | omega) dX13_isNoStage_15 (by decide) (fun h_15 => ?_) (fun h_15 => ?_)
    · exact absurd h_15 (by first | decide | omega)
    · skip
      refine lv_iconst (v := nI 1) hx hb dX13_isNoStage_18 (by decide) ?_
      refine lv_goto (tgt := 23) hx hb dX13_isNoStage_19 (by decide) ?_
      refine lv_iconst (v := nI 1) hx hb dX13_isNoStage_23 (by decide) ?_
      refine p_calli (va_runV (As := [.int (nI 1), .int (nI 1)]) (rest := []) C.fix (e_X13_start1 l D cy S H.size mm me sg cn im 1 t0 hL_mm hf_mm (by first | assumption | decide | omega) (by first | assumption | decide | omega)) (cwV 2 C.2.2.2.2.1 (gU_V mw_397 mw_398 mw_399 mw_5 (subU mw_400)) rfl rfl rfl hde_X13_isNoStage0_V_2 ⟨Nat.le_of_ble_eq_true rfl, Nat.le_of_ble_eq_true rfl⟩) (p_preV C hw hL_mm hf_mm rfl) rfl rfl hl.1 rfl (lv_room (Nat.le_of_ble_eq_true rfl)) dX13_isNoStage_24 ⟨(Nat.le_of_ble_eq_true rfl), (Nat.le_of_ble_eq_true rfl)⟩) hw hA (fun r8 S7 H locs hpost hw => ?_)
      obtain ⟨hr_, hS9, hfr10, hf11⟩ := hpost
      subst hr_
      have hL12 : mm ∈ S7.1 := by rw [hS9]; exact List.mem_append_left _ hL_mm
      exact (p_zret C hw (⟨rfl, (by simp only [hS9, pup, pnew, List.append_nil, List.append_assoc, List.cons_append, List.nil_append]), (fun a_ ha_ hn_0 => (hfr10 a_ ha_ hn_0)), hf11⟩) hr rfl hlocks dX13_isNoStage_27)

theorem hde_X13_hurtNow_V_0 : yX13_sentNow.cls = RX13 ∧ yX13_sentNow.cls ≠ "java/lang/invoke/MethodHandle" ∧ yX13_sentNow.cls ≠ "java/lang/invoke/VarHandle" ∧ (parseMethodDescriptor yX13_sentNow.desc).map (fun d => d.parameters.length) = some 0 := by decide +kernel
theorem hde_X13_hurtNow_V_1 : yX13_comes.cls = RX13 ∧ yX13_comes.cls ≠ "java/lang/invoke/MethodHandle" ∧ yX13_comes.cls ≠ "java/lang/invoke/VarHandle" ∧ (parseMethodDescriptor yX13_comes.desc).map (fun d => d.parameters.length) = some 1 := by decide +kernel
theorem hde_X13_hurtNow_S_2 : yX13_others.cls ≠ "java/lang/invoke/MethodHandle" ∧ yX13_others.cls ≠ "java/lang/invoke/VarHandle" ∧ (parseMethodDescriptor yX13_others.desc).map (fun d => d.parameters.length) = some 2 := by decide +kernel
set_option maxHeartbeats 4000000 in
set_option maxRecDepth 100000 in
theorem e_X13_hurtNow (l : Launch) (D : va_G) (cy : Nat → ClassId) (ed : Nat) (S : pS) (sz : Nat) (mm : Nat) (me : Nat) (sg : Nat) (cn : Nat) (im : Nat) (t0 : Nat) (cg : Nat → Int32) (hL_mm : mm ∈ S.1) (hf_mm : S.2 mm = .inr (13, [.int (nI t0), .ref me, .ref sg, .ref cn, .ref im])) (hL_me : me ∈ S.1) (hf_me : S.2 me = .inl (cy 0, 0, .inl (fun _ => 0))) (hL_sg : sg ∈ S.1) (hf_sg : S.2 sg = .inr (0, [.int (nI 0), .ref ed, .int (nI 0)])) (hL_cn : cn ∈ S.1) (hf_cn : S.2 cn = .inl (cy 0, 4, .inl cg))  : Met l yX13_hurtNow (Cond.code yX13_hurtNow cX13_hurtNow 1 (some .int) :: lwU) ({ frames := 7, cells := 5, slots := 26, locals := 151 }) (ePc D cy ed S sz [.ref mm]) (pQi D cy S sz (fun r S' => ∃ (nl : List Nat), r = (nI 0) ∧ S'.1 = S.1 ++ nl ∧ (∀ a_, a_ ∈ S.1 → S'.2 a_ = S.2 a_))) 5 26 (pA S sz) := by
  refine Met.ofW (cc := cX13_hurtNow) (maxL := 1) (ret := (some .int)) (by decide) rfl ?_
  intro p e s m args below meth c s₁ B hml hv
  obtain ⟨rfl, rfl, C, hw, hA, hr, hlocks, hE⟩ := e_start B hml hv
  have hx := C.1
  have hb := C.2.1
  have hl := lv_entry ([.ref mm]) (n := 1) (Nat.le_of_ble_eq_true rfl)
  rw [lg_entry_eq]
  generalize (lg_sl ([.ref mm]) ++ List.replicate (1 - (lg_sl ([.ref mm])).length) Slot.unset).toArray = ls at hl ⊢
  have hl : lv_has ls 1 [(0, .ref mm)] := hl
  refine lv_aload_n hx hb dX13_hurtNow_0 rfl (lv_at hl 0 rfl) ?_
  refine p_callq (va_runV (As := []) (rest := []) C.fix (e_X13_sentNow0 l D cy ed S s.heap.size mm me sg cn im t0 hL_mm hf_mm hL_me hf_me hL_sg hf_sg ) (cwV 0 C.2.2.2.2.1 (gU_V mw_599 mw_600 mw_601 mw_5 (subU mw_602)) rfl rfl rfl hde_X13_hurtNow_V_0 ⟨Nat.le_of_ble_eq_true rfl, Nat.le_of_ble_eq_true rfl⟩) (e_preV C hw hA hE hL_mm hf_mm rfl) rfl rfl hl.1 rfl (lv_room (Nat.le_of_ble_eq_true rfl)) dX13_hurtNow_1 ⟨(Nat.le_of_ble_eq_true rfl), (Nat.le_of_ble_eq_true rfl)⟩) hw hA (fun r2 S1 H locs hpost hw => ?_)
  obtain ⟨rl3, ra4, hr_, hS5, hfr6⟩ := hpost
  subst hr_
  have hnd7 := p_apart hw hS5
  have hq8 : rl3 ∉ S.1 := p_fresh hw hS5 0 rfl
  have hq9 : ra4 ∉ S.1 := p_fresh hw hS5 1 rfl
  refine lv_aload_n hx hb dX13_hurtNow_4 rfl (lv_at hl 0 rfl) ?_
  refine lv_aload_n hx hb dX13_hurtNow_5 rfl (lv_at hl 0 rfl) ?_
  have hL10 : mm ∈ S1.1 := by rw [hS5]; exact List.mem_append_left _ hL_mm
  have hf11 : S1.2 mm = .inr (13, [.int (nI t0), .ref me, .ref sg, .ref cn, .ref im]) := (hfr6 mm hL_mm ).trans hf_mm
  have hL12 : me ∈ S1.1 := by rw [hS5]; exact List.mem_append_left _ hL_me
  have hf13 : S1.2 me = .inl (cy 0, 0, .inl (fun _ => 0)) := (hfr6 me hL_me ).trans hf_me
  have hL14 : sg ∈ S1.1 := by rw [hS5]; exact List.mem_append_left _ hL_sg
  have hf15 : S1.2 sg = .inr (0, [.int (nI 0), .ref ed, .int (nI 0)]) := (hfr6 sg hL_sg ).trans hf_sg
  refine p_callq (va_runV (As := []) (rest := [.ref mm, .ref me]) C.fix (e_X13_sentNow0 l D cy ed S1 H.size mm me sg cn im t0 hL10 hf11 hL12 hf13 hL14 hf15 ) (cwV 0 C.2.2.2.2.1 (gU_V mw_599 mw_600 mw_601 mw_5 (subU mw_602)) rfl rfl rfl hde_X13_hurtNow_V_0 ⟨Nat.le_of_ble_eq_true rfl, Nat.le_of_ble_eq_true rfl⟩) (e_preV C hw hA hE hL10 hf11 rfl) rfl rfl hl.1 rfl (lv_room (Nat.le_of_ble_eq_true rfl)) dX13_hurtNow_6 ⟨(Nat.le_of_ble_eq_true rfl), (Nat.le_of_ble_eq_true rfl)⟩) hw hA (fun r17 S16 H locs hpost hw => ?_)
  obtain ⟨rl18, ra19, hr_, hS20, hfr21⟩ := hpost
  subst hr_
  have hnd22 := p_apart hw hS20
  have hq23 : rl18 ∉ S1.1 := p_fresh hw hS20 0 rfl
  have hq24 : ra19 ∉ S1.1 := p_fresh hw hS20 1 rfl
  have hL25 : mm ∈ S16.1 := by rw [hS20]; exact List.mem_append_left _ hL10
  have hf26 : S16.2 mm = .inr (13, [.int (nI t0), .ref me, .ref sg, .ref cn, .ref im]) := (hfr21 mm hL10 ).trans hf11
  have hL27 : cn ∈ S1.1 := by rw [hS5]; exact List.mem_append_left _ hL_cn
  have hf28 : S1.2 cn = .inl (cy 0, 4, .inl cg) := (hfr6 cn hL_cn ).trans hf_cn
  have hL29 : cn ∈ S16.1 := by rw [hS20]; exact List.mem_append_left _ hL27
  have hf30 : S16.2 cn = .inl (cy 0, 4, .inl cg) := (hfr21 cn hL27 ).trans hf28
  have hL31 : me ∈ S16.1 := by rw [hS20]; exact List.mem_append_left _ hL12
  have hf32 : S16.2 me = .inl (cy 0, 0, .inl (fun _ => 0)) := (hfr21 me hL12 ).trans hf13
  refine p_callq (va_runV (As := [.ref me]) (rest := [.ref me]) C.fix (e_X13_comes0 l D cy S16 H.size mm me me sg cn im t0 (fun _ => 0) cg hL25 hf26 hL29 hf30 hL31 hf32 ) (cwV 1 C.2.2.2.2.1 (gU_V mw_818 mw_819 mw_820 mw_5 (subU mw_821)) rfl rfl rfl hde_X13_hurtNow_V_1 ⟨Nat.le_of_ble_eq_true rfl, Nat.le_of_ble_eq_true rfl⟩) (p_preV C hw hL25 hf26 rfl) rfl rfl hl.1 rfl (lv_room (Nat.le_of_ble_eq_true rfl)) dX13_hurtNow_9 ⟨(Nat.le_of_ble_eq_true rfl), (Nat.le_of_ble_eq_true rfl)⟩) hw hA (fun r34 S33 H locs hpost hw => ?_)
  obtain ⟨ov35, hr_, hS36, hfr37, hf38⟩ := hpost
  subst hr_
  have hq39 : ov35 ∉ S16.1 := p_fresh hw hS36 0 rfl
  have hL40 : ov35 ∈ S33.1 := by rw [hS36]; exact List.mem_append_right _ (List.mem_of_getElem? (i := 0) rfl)
  have hL41 : me ∈ S33.1 := by rw [hS36]; exact List.mem_append_left _ hL31
  have hf42 : S33.2 me = .inl (cy 0, 0, .inl (fun _ => 0)) := (hfr37 me hL31 ).trans hf32
  refine p_calli (va_runS (As := [.ref me, .ref ov35]) (rest := []) C.fix (e_X13_others0 l D cy S33 H.size me ov35 (fun _ => 0) hL41 hf42 ) (va_cwS 2 C.2.2.2.2.1 (gU_S mw_877 mw_878 mw_5 (subU mw_879)) rfl rfl rfl hde_X13_hurtNow_S_2 ⟨Nat.le_of_ble_eq_true rfl, Nat.le_of_ble_eq_true rfl⟩) (p_preS C hw) rfl rfl hl.1 rfl (lv_room (Nat.le_of_ble_eq_true rfl)) dX13_hurtNow_12 ⟨(Nat.le_of_ble_eq_true rfl), (Nat.le_of_ble_eq_true rfl)⟩) hw hA (fun r44 S43 H locs hpost hw => ?_)
  obtain ⟨hr_, hS_⟩ := hpost
  subst hr_
  subst hS_
  exact (p_iret C hw (⟨([rl3, ra4] ++ [rl18, ra19] ++ [ov35]), rfl, (by simp only [hS36, hS20, hS5, pup, pnew, List.append_nil, List.append_assoc, List.cons_append, List.nil_append]), (fun a_ ha_ => ((hfr37 a_ (show a_ ∈ S16.1 from by rw [hS20]; exact List.mem_append_left _ (show a_ ∈ S1.1 from by rw [hS5]; exact List.mem_append_left _ ha_)) ).trans ((hfr21 a_ (show a_ ∈ S1.1 from by rw [hS5]; exact List.mem_append_left _ ha_) ).trans (hfr6 a_ ha_ ))))⟩) hr hlocks dX13_hurtNow_15)

theorem hde_X13_breaksNow_V_0 : yX13_rows.cls = RX13 ∧ yX13_rows.cls ≠ "java/lang/invoke/MethodHandle" ∧ yX13_rows.cls ≠ "java/lang/invoke/VarHandle" ∧ (parseMethodDescriptor yX13_rows.desc).map (fun d => d.parameters.length) = some 1 := by decide +kernel
theorem hde_X13_breaksNow_V_1 : yJx4a65c_size_8abf5.cls = RJx4a65c ∧ yJx4a65c_size_8abf5.cls ≠ "java/lang/invoke/MethodHandle" ∧ yJx4a65c_size_8abf5.cls ≠ "java/lang/invoke/VarHandle" ∧ (parseMethodDescriptor yJx4a65c_size_8abf5.desc).map (fun d => d.parameters.length) = some 0 := by decide +kernel
theorem hde_X13_breaksNow_V_2 : yJx4a65c_get_915e3.cls = RJx4a65c ∧ yJx4a65c_get_915e3.cls ≠ "java/lang/invoke/MethodHandle" ∧ yJx4a65c_get_915e3.cls ≠ "java/lang/invoke/VarHandle" ∧ (parseMethodDescriptor yJx4a65c_get_915e3.desc).map (fun d => d.parameters.length) = some 1 := by decide +kernel
set_option maxHeartbeats 4000000 in
set_option maxRecDepth 100000 in
theorem e_X13_breaksNow (l : Launch) (D : va_G) (cy : Nat → ClassId) (ed : Nat) (S : pS) (sz : Nat) (mm : Nat) (me : Nat) (sg : Nat) (cn : Nat) (im : Nat) (t0 : Nat) (j : Nat) (hL_mm : mm ∈ S.1) (hf_mm : S.2 mm = .inr (13, [.int (nI t0), .ref me, .ref sg, .ref cn, .ref im])) (hL_me : me ∈ S.1) (hf_me : S.2 me = .inl (cy 0, 0, .inl (fun _ => 0))) (hL_sg : sg ∈ S.1) (hf_sg : S.2 sg = .inr (0, [.int (nI 0), .ref ed, .int (nI 0)])) (hj : j < 2 ^ 31) : Met l yX13_breaksNow (Cond.code yX13_breaksNow cX13_breaksNow 5 (some .int) :: lwU) ({ frames := 6, cells := 3, slots := 13, locals := 131 }) (ePc D cy ed S sz [.ref mm, .int (nI j)]) (pQi D cy S sz (fun r S' => ∃ (nl : List Nat), r = (nI 0) ∧ S'.1 = S.1 ++ nl ∧ (∀ a_, a_ ∈ S.1 → S'.2 a_ = S.2 a_))) 3 13 (pA S sz) := by
  refine Met.ofW (cc := cX13_breaksNow) (maxL := 5) (ret := (some .int)) (by decide) rfl ?_
  intro p e s m args below meth c s₁ B hml hv
  obtain ⟨rfl, rfl, C, hw, hA, hr, hlocks, hE⟩ := e_start B hml hv
  have hx := C.1
  have hb := C.2.1
  have hl := lv_entry ([.ref mm, .int (nI j)]) (n := 5) (Nat.le_of_ble_eq_true rfl)
  rw [lg_entry_eq]
  generalize (lg_sl ([.ref mm, .int (nI j)]) ++ List.replicate (5 - (lg_sl ([.ref mm, .int (nI j)])).length) Slot.unset).toArray = ls at hl ⊢
  have hl : lv_has ls 5 [(0, .ref mm), (1, .int (nI j))] := hl
  have hin_RX13 : ∀ w ∈ u_ws RX13 TX13 5, w ∈ (Cond.code yX13_breaksNow cX13_breaksNow 5 (some .int) :: lwU) := fun w h => mU (sub_RX13 w h)
  refine lv_aload_n hx hb dX13_breaksNow_0 rfl (lv_at hl 0 rfl) ?_
  refine lv_aload_n hx hb dX13_breaksNow_1 rfl (lv_at hl 0 rfl) ?_
  refine p_get C hw (ci := 13) (Cn := RX13) (T := TX13) (N := 5) hL_mm hf_mm rfl hin_RX13 1 (by decide) (mU mw_86) rfl rfl dX13_breaksNow_2 ?_
  refine p_callq (va_runV (As := [.ref me]) (rest := []) C.fix (e_X13_rows0 l D cy ed S s.heap.size mm me me sg cn im t0 0 (fun _ => 0) hL_mm hf_mm hL_sg hf_sg hL_me hf_me ) (cwV 1 C.2.2.2.2.1 (gU_V mw_414 mw_415 mw_416 mw_5 (subU mw_417)) rfl rfl rfl hde_X13_breaksNow_V_0 ⟨Nat.le_of_ble_eq_true rfl, Nat.le_of_ble_eq_true rfl⟩) (e_preV C hw hA hE hL_mm hf_mm rfl) rfl rfl hl.1 rfl (lv_room (Nat.le_of_ble_eq_true rfl)) dX13_breaksNow_5 ⟨(Nat.le_of_ble_eq_true rfl), (Nat.le_of_ble_eq_true rfl)⟩) hw hA (fun r2 S1 H locs hpost hw => ?_)
  obtain ⟨rl3, ra4, hr_, hS5, hfr6, hf7, hf8⟩ := hpost
  subst hr_
  have hnd9 := p_apart hw hS5
  have hq10 : rl3 ∉ S.1 := p_fresh hw hS5 0 rfl
  have hq11 : ra4 ∉ S.1 := p_fresh hw hS5 1 rfl
  have hL12 : rl3 ∈ S1.1 := by rw [hS5]; exact List.mem_append_right _ (List.mem_of_getElem? (i := 0) rfl)
  have hL13 : ra4 ∈ S1.1 := by rw [hS5]; exact List.mem_append_right _ (List.mem_of_getElem? (i := 1) rfl)
  refine lv_astore_n (lv' := [(2, .ref rl3), (0, .ref mm), (1, .int (nI j))]) hx hb dX13_breaksNow_8 rfl hl (by decide) rfl (fun ls hl => ?_)
  refine lv_aload_n hx hb dX13_breaksNow_9 rfl (lv_at hl 0 rfl) ?_
  refine lv_aload_n hx hb dX13_breaksNow_10 rfl (lv_at hl 1 rfl) ?_
  have hL14 : mm ∈ S1.1 := by rw [hS5]; exact List.mem_append_left _ hL_mm
  have hf15 : S1.2 mm = .inr (13, [.int (nI t0), .ref me, .ref sg, .ref cn, .ref im]) := (hfr6 mm hL_mm ).trans hf_mm
  refine p_get C hw (ci := 13) (Cn := RX13) (T := TX13) (N := 5) hL14 hf15 rfl hin_RX13 2 (by decide) (mU mw_90) rfl rfl dX13_breaksNow_11 ?_
  have hL16 : sg ∈ S1.1 := by rw [hS5]; exact List.mem_append_left _ hL_sg
  have hf17 : S1.2 sg = .inr (0, [.int (nI 0), .ref ed, .int (nI 0)]) := (hfr6 sg hL_sg ).trans hf_sg
  refine p_calli (va_runV (As := []) (rest := [.ref rl3]) C.fix (e_Jx4a65c_size_8abf5 l D cy S1 H.size sg ed 0 0 hL16 hf17 ) (cwV 0 C.2.2.2.2.1 (gU_V mw_464 mw_465 mw_466 mw_89 (subU mw_467)) rfl rfl rfl hde_X13_breaksNow_V_1 ⟨Nat.le_of_ble_eq_true rfl, Nat.le_of_ble_eq_true rfl⟩) (p_preV C hw hL16 hf17 rfl) rfl rfl hl.1 rfl (lv_room (Nat.le_of_ble_eq_true rfl)) dX13_breaksNow_14 ⟨(Nat.le_of_ble_eq_true rfl), (Nat.le_of_ble_eq_true rfl)⟩) hw hA (fun r19 S18 H locs hpost hw => ?_)
  obtain ⟨hr_, hS_⟩ := hpost
  subst hr_
  subst hS_
  refine p_callq (va_runV (As := [.int (nI 0)]) (rest := []) C.fix (e_Jx4a65c_get_915e3 l D cy S1 H.size rl3 ra4 1 1 0 me (va_up (fun _ => none) 0 (some me)) hL12 hf7 hL13 hf8 (by first | assumption | decide | omega) (by first | assumption | decide | omega) (by first | assumption | rfl | simp [va_up])) (cwV 1 C.2.2.2.2.1 (gU_V mw_468 mw_469 mw_470 mw_89 (subU mw_471)) rfl rfl rfl hde_X13_breaksNow_V_2 ⟨Nat.le_of_ble_eq_true rfl, Nat.le_of_ble_eq_true rfl⟩) (p_preV C hw hL12 hf7 rfl) rfl rfl hl.1 rfl (lv_room (Nat.le_of_ble_eq_true rfl)) dX13_breaksNow_17 ⟨(Nat.le_of_ble_eq_true rfl), (Nat.le_of_ble_eq_true rfl)⟩) hw hA (fun r21 S20 H locs hpost hw => ?_)
  obtain ⟨hr_, hS_⟩ := hpost
  subst hr_
  subst hS_
  have hL22 : me ∈ S1.1 := by rw [hS5]; exact List.mem_append_left _ hL_me
  have hf23 : S1.2 me = .inl (cy 0, 0, .inl (fun _ => 0)) := (hfr6 me hL_me ).trans hf_me
  refine p_castA C hw hL22 hf23 (C.2.2.2.2.1 _ (mU mw_413)) dX13_breaksNow_20 ?_
  refine p_clone C hw hA hl.1.symm (C.2.2.2.2.1 _ (mU mw_825)) (C.2.2.2.2.1 _ (mU mw_826)) (C.2.2.2.2.1 _ (mU mw_827)) (C.2.2.2.2.1 _ (mU mw_828)) (C.2.2.2.2.1 _ (mU mw_829)) hL22 hf23 (Nat.le_of_ble_eq_true rfl) (Nat.le_of_ble_eq_true rfl) (Nat.le_of_ble_eq_true rfl) (Nat.le_of_ble_eq_true rfl) dX13_breaksNow_23 (fun nc24 H hq_nc24 hw => ?_)
  obtain ⟨S25, hS25⟩ : ∃ z, z = pnew S1 nc24 (.inl (cy 0, 0, .inl (fun _ => 0))) := ⟨_, rfl⟩
  replace hw : pW D (pA S s.heap.size) s.heap S25 H locs := by rw [hS25]; exact hw
  have hL26 : nc24 ∈ S25.1 := by rw [hS25]; exact List.mem_append_right _ List.mem_cons_self
  have hf27 : S25.2 nc24 = .inl (cy 0, 0, .inl (fun _ => 0)) := by rw [hS25]; exact pnew_s
  refine p_castA C hw hL26 hf27 (C.2.2.2.2.1 _ (mU mw_413)) dX13_breaksNow_26 ?_
  refine lv_astore_n (lv' := [(3, .ref nc24), (2, .ref rl3), (0, .ref mm), (1, .int (nI j))]) hx hb dX13_breaksNow_29 rfl hl (by decide) rfl (fun ls hl => ?_)
  refine lv_iload_n hx hb dX13_breaksNow_30 rfl (lv_at hl 3 rfl) ?_
  refine lv_istore (lv' := [(4, .int (nI j)), (3, .ref nc24), (2, .ref rl3), (0, .ref mm), (1, .int (nI j))]) hx hb dX13_breaksNow_31 hl (by decide) rfl (fun ls hl => ?_)
  refine lv_iload hx hb dX13_breaksNow_33 (lv_at hl 0 rfl) ?_
  refine lv_aload_n hx hb dX13_breaksNow_35 rfl (lv_at hl 1 rfl) ?_
  refine n_len C hw 0 rfl hL26 hf27 (n := 0) rfl dX13_breaksNow_36 ?_
  refine n_icmp_ge (tgt := 72) hx hb (by first | decide | omega) (by first | decide | omega) dX13_breaksNow_37 (by decide) (fun h_37 => ?_) (fun h_37 => ?_)
  · skip
    refine lv_iconst (v := nI 0) hx hb dX13_breaksNow_72 (by decide) ?_
    exact (p_iret C hw (⟨([rl3, ra4] ++ [nc24]), rfl, (by simp only [hS25, hS5, pup, pnew, List.append_nil, List.append_assoc, List.cons_append, List.nil_append]), (fun a_ ha_ => ((show S25.2 a_ = S1.2 a_ from by rw [hS25]; exact pnew_n (fun z : a_ = nc24 => hq_nc24 (by rw [← z]; exact (show a_ ∈ S1.1 from by rw [hS5]; exact List.mem_append_left _ ha_)))).trans (hfr6 a_ ha_ )))⟩) hr hlocks dX13_breaksNow_73)
  · exfalso; omega

theorem hde_X13_weakNow_V_0 : yX13_errorsNow.cls = RX13 ∧ yX13_errorsNow.cls ≠ "java/lang/invoke/MethodHandle" ∧ yX13_errorsNow.cls ≠ "java/lang/invoke/VarHandle" ∧ (parseMethodDescriptor yX13_errorsNow.desc).map (fun d => d.parameters.length) = some 0 := by decide +kernel
theorem hde_X13_weakNow_V_1 : yX13_sentNow.cls = RX13 ∧ yX13_sentNow.cls ≠ "java/lang/invoke/MethodHandle" ∧ yX13_sentNow.cls ≠ "java/lang/invoke/VarHandle" ∧ (parseMethodDescriptor yX13_sentNow.desc).map (fun d => d.parameters.length) = some 0 := by decide +kernel
set_option maxHeartbeats 4000000 in
set_option maxRecDepth 100000 in
theorem e_X13_weakNow (l : Launch) (D : va_G) (cy : Nat → ClassId) (ed : Nat) (S : pS) (sz : Nat) (mm : Nat) (me : Nat) (sg : Nat) (cn : Nat) (im : Nat) (t0 : Nat) (cg : Nat → Int32) (hL_mm : mm ∈ S.1) (hf_mm : S.2 mm = .inr (13, [.int (nI t0), .ref me, .ref sg, .ref cn, .ref im])) (hL_me : me ∈ S.1) (hf_me : S.2 me = .inl (cy 0, 0, .inl (fun _ => 0))) (hL_sg : sg ∈ S.1) (hf_sg : S.2 sg = .inr (0, [.int (nI 0), .ref ed, .int (nI 0)])) (hL_cn : cn ∈ S.1) (hf_cn : S.2 cn = .inl (cy 0, 4, .inl cg))  : Met l yX13_weakNow (Cond.code yX13_weakNow cX13_weakNow 4 (some .int) :: lwU) ({ frames := 7, cells := 6, slots := 27, locals := 152 }) (ePc D cy ed S sz [.ref mm]) (pQi D cy S sz (fun r S' => ∃ (nl : List Nat), r = (nI 0) ∧ S'.1 = S.1 ++ nl ∧ (∀ a_, a_ ∈ S.1 → S'.2 a_ = S.2 a_))) 6 27 (pA S sz) := by
  refine Met.ofW (cc := cX13_weakNow) (maxL := 4) (ret := (some .int)) (by decide) rfl ?_
  intro p e s m args below meth c s₁ B hml hv
  obtain ⟨rfl, rfl, C, hw, hA, hr, hlocks, hE⟩ := e_start B hml hv
  have hx := C.1
  have hb := C.2.1
  have hl := lv_entry ([.ref mm]) (n := 4) (Nat.le_of_ble_eq_true rfl)
  rw [lg_entry_eq]
  generalize (lg_sl ([.ref mm]) ++ List.replicate (4 - (lg_sl ([.ref mm])).length) Slot.unset).toArray = ls at hl ⊢
  have hl : lv_has ls 4 [(0, .ref mm)] := hl
  refine lv_aload_n hx hb dX13_weakNow_0 rfl (lv_at hl 0 rfl) ?_
  refine p_calli (va_runV (As := []) (rest := []) C.fix (e_X13_errorsNow0 l D cy ed S s.heap.size mm me sg cn im t0 cg hL_mm hf_mm hL_me hf_me hL_sg hf_sg hL_cn hf_cn ) (cwV 0 C.2.2.2.2.1 (gU_V mw_939 mw_940 mw_941 mw_5 (subU mw_942)) rfl rfl rfl hde_X13_weakNow_V_0 ⟨Nat.le_of_ble_eq_true rfl, Nat.le_of_ble_eq_true rfl⟩) (e_preV C hw hA hE hL_mm hf_mm rfl) rfl rfl hl.1 rfl (lv_room (Nat.le_of_ble_eq_true rfl)) dX13_weakNow_1 ⟨(Nat.le_of_ble_eq_true rfl), (Nat.le_of_ble_eq_true rfl)⟩) hw hA (fun r2 S1 H locs hpost hw => ?_)
  obtain ⟨nl3, hr_, hS4, hfr5⟩ := hpost
  subst hr_
  refine lv_istore_n (lv' := [(1, .int (nI 0)), (0, .ref mm)]) hx hb dX13_weakNow_4 rfl hl (by decide) rfl (fun ls hl => ?_)
  refine lv_iconst (v := nI 0) hx hb dX13_weakNow_5 (by decide) ?_
  refine lv_istore_n (lv' := [(2, .int (nI 0)), (1, .int (nI 0)), (0, .ref mm)]) hx hb dX13_weakNow_6 rfl hl (by decide) rfl (fun ls hl => ?_)
  refine lv_iconst (v := nI 0) hx hb dX13_weakNow_7 (by decide) ?_
  refine lv_istore_n (lv' := [(3, .int (nI 0)), (2, .int (nI 0)), (1, .int (nI 0)), (0, .ref mm)]) hx hb dX13_weakNow_8 rfl hl (by decide) rfl (fun ls hl => ?_)
  refine lv_iload_n hx hb dX13_weakNow_9 rfl (lv_at hl 0 rfl) ?_
  refine lv_aload_n hx hb dX13_weakNow_10 rfl (lv_at hl 3 rfl) ?_
  have hL6 : mm ∈ S1.1 := by rw [hS4]; exact List.mem_append_left _ hL_mm
  have hf7 : S1.2 mm = .inr (13, [.int (nI t0), .ref me, .ref sg, .ref cn, .ref im]) := (hfr5 mm hL_mm ).trans hf_mm
  have hL8 : me ∈ S1.1 := by rw [hS4]; exact List.mem_append_left _ hL_me
  have hf9 : S1.2 me = .inl (cy 0, 0, .inl (fun _ => 0)) := (hfr5 me hL_me ).trans hf_me
  have hL10 : sg ∈ S1.1 := by rw [hS4]; exact List.mem_append_left _ hL_sg
  have hf11 : S1.2 sg = .inr (0, [.int (nI 0), .ref ed, .int (nI 0)]) := (hfr5 sg hL_sg ).trans hf_sg
  refine p_callq (va_runV (As := []) (rest := [.int (nI 0)]) C.fix (e_X13_sentNow0 l D cy ed S1 H.size mm me sg cn im t0 hL6 hf7 hL8 hf9 hL10 hf11 ) (cwV 0 C.2.2.2.2.1 (gU_V mw_599 mw_600 mw_601 mw_5 (subU mw_602)) rfl rfl rfl hde_X13_weakNow_V_1 ⟨Nat.le_of_ble_eq_true rfl, Nat.le_of_ble_eq_true rfl⟩) (e_preV C hw hA hE hL6 hf7 rfl) rfl rfl hl.1 rfl (lv_room (Nat.le_of_ble_eq_true rfl)) dX13_weakNow_11 ⟨(Nat.le_of_ble_eq_true rfl), (Nat.le_of_ble_eq_true rfl)⟩) hw hA (fun r13 S12 H locs hpost hw => ?_)
  obtain ⟨rl14, ra15, hr_, hS16, hfr17⟩ := hpost
  subst hr_
  have hnd18 := p_apart hw hS16
  have hq19 : rl14 ∉ S1.1 := p_fresh hw hS16 0 rfl
  have hq20 : ra15 ∉ S1.1 := p_fresh hw hS16 1 rfl
  have hL21 : me ∈ S12.1 := by rw [hS16]; exact List.mem_append_left _ hL8
  have hf22 : S12.2 me = .inl (cy 0, 0, .inl (fun _ => 0)) := (hfr17 me hL8 ).trans hf9
  refine n_len C hw 0 rfl hL21 hf22 (n := 0) rfl dX13_weakNow_14 ?_
  refine n_icmp_ge (tgt := 41) hx hb (by first | decide | omega) (by first | decide | omega) dX13_weakNow_15 (by decide) (fun h_15 => ?_) (fun h_15 => ?_)
  · skip
    refine lv_iload_n hx hb dX13_weakNow_41 rfl (lv_at hl 1 rfl) ?_
    exact (p_iret C hw (⟨(nl3 ++ [rl14, ra15]), rfl, (by simp only [hS16, hS4, pup, pnew, List.append_nil, List.append_assoc, List.cons_append, List.nil_append]), (fun a_ ha_ => ((hfr17 a_ (show a_ ∈ S1.1 from by rw [hS4]; exact List.mem_append_left _ ha_) ).trans (hfr5 a_ ha_ )))⟩) hr hlocks dX13_weakNow_42)
  · exact absurd h_15 (by first | decide | omega)

theorem hde_X13_rows1rep_V_0 : yJx4a65c_add_9ea2d.cls = RJx4a65c ∧ yJx4a65c_add_9ea2d.cls ≠ "java/lang/invoke/MethodHandle" ∧ yJx4a65c_add_9ea2d.cls ≠ "java/lang/invoke/VarHandle" ∧ (parseMethodDescriptor yJx4a65c_add_9ea2d.desc).map (fun d => d.parameters.length) = some 1 := by decide +kernel
theorem hde_X13_rows1rep_V_1 : yJx4a65c_size_8abf5.cls = RJx4a65c ∧ yJx4a65c_size_8abf5.cls ≠ "java/lang/invoke/MethodHandle" ∧ yJx4a65c_size_8abf5.cls ≠ "java/lang/invoke/VarHandle" ∧ (parseMethodDescriptor yJx4a65c_size_8abf5.desc).map (fun d => d.parameters.length) = some 0 := by decide +kernel
theorem hde_X13_rows1rep_V_2 : yJx4a65c_get_915e3.cls = RJx4a65c ∧ yJx4a65c_get_915e3.cls ≠ "java/lang/invoke/MethodHandle" ∧ yJx4a65c_get_915e3.cls ≠ "java/lang/invoke/VarHandle" ∧ (parseMethodDescriptor yJx4a65c_get_915e3.desc).map (fun d => d.parameters.length) = some 1 := by decide +kernel
theorem hde_X13_rows1rep_V_3 : yX12_code.cls = RX12 ∧ yX12_code.cls ≠ "java/lang/invoke/MethodHandle" ∧ yX12_code.cls ≠ "java/lang/invoke/VarHandle" ∧ (parseMethodDescriptor yX12_code.desc).map (fun d => d.parameters.length) = some 1 := by decide +kernel
set_option maxHeartbeats 4000000 in
set_option maxRecDepth 100000 in
theorem e_X13_rows1rep (l : Launch) (D : va_G) (cy : Nat → ClassId) (ed : Nat) (S : pS) (sz : Nat) (mm : Nat) (bt : Nat) (me : Nat) (sg : Nat) (cn : Nat) (im : Nat) (se : Nat) (st : Nat) (sr : Nat) (t0 : Nat) (sa : Nat) (sb : Nat) (sm : Nat) (sq : Nat → Option Nat) (bg : Nat → Int32) (hL_mm : mm ∈ S.1) (hf_mm : S.2 mm = .inr (13, [.int (nI t0), .ref me, .ref sg, .ref cn, .ref im])) (hL_sg : sg ∈ S.1) (hf_sg : S.2 sg = .inr (0, [.int (nI sm), .ref se, .int (nI 1)])) (hL_se : se ∈ S.1) (hf_se : S.2 se = aQ (cy 4) 10 sq) (hL_st : st ∈ S.1) (hf_st : S.2 st = .inr (12, [.int (nI 0), .int (nI sa), .int (nI sb), .ref sr])) (hL_bt : bt ∈ S.1) (hf_bt : S.2 bt = .inl (cy 0, 0, .inl bg)) (hsq : sq 0 = some st) : Met l yX13_rows (Cond.code yX13_rows cX13_rows 4 (some (.object "java/util/ArrayList")) :: lwU) ({ frames := 5, cells := 3, slots := 13, locals := 108 }) (ePc D cy ed S sz [.ref mm, .ref bt]) (pQq D cy S sz (fun r S' => ∃ (rl : Nat) (ra : Nat) (w : Nat), r = some rl ∧ S'.1 = S.1 ++ [rl, ra, w] ∧ (∀ a_, a_ ∈ S.1 → S'.2 a_ = S.2 a_) ∧ S'.2 rl = .inr (0, [.int (nI 2), .ref ra, .int (nI 2)]) ∧ S'.2 ra = aQ (cy 4) 10 (va_up (va_up (fun _ => none) 0 (some bt)) 1 (some w)) ∧ S'.2 w = .inl (cy 0, 0, .inl (fun _ => 0)))) 3 13 (pA S sz) := by
  refine Met.ofW (cc := cX13_rows) (maxL := 4) (ret := (some (.object "java/util/ArrayList"))) (by decide) rfl ?_
  intro p e s m args below meth c s₁ B hml hv
  obtain ⟨rfl, rfl, C, hw, hA, hr, hlocks, hE⟩ := e_start B hml hv
  have hx := C.1
  have hb := C.2.1
  have hl := lv_entry ([.ref mm, .ref bt]) (n := 4) (Nat.le_of_ble_eq_true rfl)
  rw [lg_entry_eq]
  generalize (lg_sl ([.ref mm, .ref bt]) ++ List.replicate (4 - (lg_sl ([.ref mm, .ref bt])).length) Slot.unset).toArray = ls at hl ⊢
  have hl : lv_has ls 4 [(0, .ref mm), (1, .ref bt)] := hl
  have hin_RJx4a65c : ∀ w ∈ u_ws RJx4a65c TJx4a65c 3, w ∈ (Cond.code yX13_rows cX13_rows 4 (some (.object "java/util/ArrayList")) :: lwU) := fun w h => mU (sub_RJx4a65c w h)
  have hin_RX13 : ∀ w ∈ u_ws RX13 TX13 5, w ∈ (Cond.code yX13_rows cX13_rows 4 (some (.object "java/util/ArrayList")) :: lwU) := fun w h => mU (sub_RX13 w h)
  refine p_new C hw hA (ci := 0) (Cn := RJx4a65c) (T := TJx4a65c) (N := 3) (fs := [.int (nI 0), .null, .int (nI 0)]) tyJx4a65c tyJx4a65c_ok rfl hin_RJx4a65c (mU mw_87) (mU mw_88) (mU mw_89) (fun j hj => by rcases (show j = 0 ∨ j = 1 ∨ j = 2 by omega) with rfl | rfl | rfl <;> rfl) (Nat.le_of_ble_eq_true rfl) (Nat.le_of_ble_eq_true rfl) dX13_rows_0 (fun rl H hq_rl hw => ?_)
  obtain ⟨S1, hS1⟩ : ∃ z, z = pnew S rl (.inr (0, [.int (nI 0), .null, .int (nI 0)])) := ⟨_, rfl⟩
  replace hw : pW D (pA S s.heap.size) s.heap S1 H [] := by rw [hS1]; exact hw
  have hL2 : rl ∈ S1.1 := by rw [hS1]; exact List.mem_append_right _ List.mem_cons_self
  have hf3 : S1.2 rl = .inr (0, [.int (nI 0), .null, .int (nI 0)]) := by rw [hS1]; exact pnew_s
  refine lv_dup hx hb dX13_rows_3 rfl ?_
  refine p_callv (va_runI (As := []) (rest := [.ref rl]) C.fix (e_Jx4a65c_init_da8c8 l D cy ed S1 H.size rl 0 0 hL2 hf3 ) (cwI 0 C.2.2.2.2.1 (gU_sub (subU mw_96)) rfl rfl rfl (C.2.2.2.2.1 (.initialized RJx4a65c) (mU mw_89)) (C.2.2.2.2.1 (.methodLink RX13 15 yJx4a65c_init_da8c8) (mU mw_94)) (C.2.2.2.2.1 (.instanceMethod yJx4a65c_init_da8c8) (mU mw_95)) rfl (by decide +kernel) ⟨Nat.le_of_ble_eq_true rfl, Nat.le_of_ble_eq_true rfl⟩) (e_preS C hw hA hE) rfl rfl hl.1 rfl (lv_room (Nat.le_of_ble_eq_true rfl)) dX13_rows_4 ⟨(Nat.le_of_ble_eq_true rfl), (Nat.le_of_ble_eq_true rfl)⟩) hw hA (fun S4 H locs hpost hw => ?_)
  obtain ⟨hS6, hfr7, hf8⟩ := hpost
  have hL9 : rl ∈ S4.1 := by rw [hS6]; exact List.mem_append_left _ hL2
  refine lv_astore_n (lv' := [(2, .ref rl), (0, .ref mm), (1, .ref bt)]) hx hb dX13_rows_7 rfl hl (by decide) rfl (fun ls hl => ?_)
  refine lv_aload_n hx hb dX13_rows_8 rfl (lv_at hl 0 rfl) ?_
  refine lv_aload_n hx hb dX13_rows_9 rfl (lv_at hl 2 rfl) ?_
  have hL10 : bt ∈ S1.1 := by rw [hS1]; exact List.mem_append_left _ hL_bt
  have hf11 : S1.2 bt = .inl (cy 0, 0, .inl bg) := by rw [hS1]; exact (pnew_n (fun z : bt = rl => hq_rl (by rw [← z]; exact hL_bt))).trans hf_bt
  have hL12 : bt ∈ S4.1 := by rw [hS6]; exact List.mem_append_left _ hL10
  have hf13 : S4.2 bt = .inl (cy 0, 0, .inl bg) := (hfr7 bt hL10 (fun z : bt = rl => hq_rl (by rw [← z]; exact hL_bt))).trans hf11
  refine p_calli (va_runV (As := [.ref bt]) (rest := []) C.fix (e_Jx4a65c_add_9ea2d1I l D cy ed S4 H.size rl bt 0 bg hL9 hf8 hL12 hf13 ) (cwV 1 C.2.2.2.2.1 (gU_V mw_419 mw_420 mw_421 mw_89 (subU mw_422)) rfl rfl rfl hde_X13_rows1rep_V_0 ⟨Nat.le_of_ble_eq_true rfl, Nat.le_of_ble_eq_true rfl⟩) (e_preV C hw hA hE hL9 hf8 rfl) rfl rfl hl.1 rfl (lv_room (Nat.le_of_ble_eq_true rfl)) dX13_rows_10 ⟨(Nat.le_of_ble_eq_true rfl), (Nat.le_of_ble_eq_true rfl)⟩) hw hA (fun r15 S14 H locs hpost hw => ?_)
  obtain ⟨ra, hr_, hS16, hfr17, hf18, hf19⟩ := hpost
  subst hr_
  have hq20 : ra ∉ S4.1 := p_fresh hw hS16 0 rfl
  have hL21 : rl ∈ S14.1 := by rw [hS16]; exact List.mem_append_left _ hL9
  have hL22 : ra ∈ S14.1 := by rw [hS16]; exact List.mem_append_right _ (List.mem_of_getElem? (i := 0) rfl)
  refine lv_pop hx hb dX13_rows_13 rfl ?_
  refine lv_iconst (v := nI 0) hx hb dX13_rows_14 (by decide) ?_
  refine lv_istore_n (lv' := [(3, .int (nI 0)), (2, .ref rl), (0, .ref mm), (1, .ref bt)]) hx hb dX13_rows_15 rfl hl (by decide) rfl (fun ls hl => ?_)
  refine lv_iload_n hx hb dX13_rows_16 rfl (lv_at hl 0 rfl) ?_
  refine lv_aload_n hx hb dX13_rows_17 rfl (lv_at hl 2 rfl) ?_
  have hL23 : mm ∈ S1.1 := by rw [hS1]; exact List.mem_append_left _ hL_mm
  have hf24 : S1.2 mm = .inr (13, [.int (nI t0), .ref me, .ref sg, .ref cn, .ref im]) := by rw [hS1]; exact (pnew_n (fun z : mm = rl => hq_rl (by rw [← z]; exact hL_mm))).trans hf_mm
  have hL25 : mm ∈ S4.1 := by rw [hS6]; exact List.mem_append_left _ hL23
  have hf26 : S4.2 mm = .inr (13, [.int (nI t0), .ref me, .ref sg, .ref cn, .ref im]) := (hfr7 mm hL23 (fun z : mm = rl => hq_rl (by rw [← z]; exact hL_mm))).trans hf24
  have hL27 : mm ∈ S14.1 := by rw [hS16]; exact List.mem_append_left _ hL25
  have hf28 : S14.2 mm = .inr (13, [.int (nI t0), .ref me, .ref sg, .ref cn, .ref im]) := (hfr17 mm hL25 (fun z : mm = rl => hq_rl (by rw [← z]; exact hL_mm))).trans hf26
  refine p_get C hw (ci := 13) (Cn := RX13) (T := TX13) (N := 5) hL27 hf28 rfl hin_RX13 2 (by decide) (mU mw_90) rfl rfl dX13_rows_18 ?_
  have hL29 : sg ∈ S1.1 := by rw [hS1]; exact List.mem_append_left _ hL_sg
  have hf30 : S1.2 sg = .inr (0, [.int (nI sm), .ref se, .int (nI 1)]) := by rw [hS1]; exact (pnew_n (fun z : sg = rl => hq_rl (by rw [← z]; exact hL_sg))).trans hf_sg
  have hL31 : sg ∈ S4.1 := by rw [hS6]; exact List.mem_append_left _ hL29
  have hf32 : S4.2 sg = .inr (0, [.int (nI sm), .ref se, .int (nI 1)]) := (hfr7 sg hL29 (fun z : sg = rl => hq_rl (by rw [← z]; exact hL_sg))).trans hf30
  have hL33 : sg ∈ S14.1 := by rw [hS16]; exact List.mem_append_left _ hL31
  have hf34 : S14.2 sg = .inr (0, [.int (nI sm), .ref se, .int (nI 1)]) := (hfr17 sg hL31 (fun z : sg = rl => hq_rl (by rw [← z]; exact hL_sg))).trans hf32
  refine p_calli (va_runV (As := []) (rest := [.int (nI 0)]) C.fix (e_Jx4a65c_size_8abf5 l D cy S14 H.size sg se sm 1 hL33 hf34 ) (cwV 0 C.2.2.2.2.1 (gU_V mw_464 mw_465 mw_466 mw_89 (subU mw_467)) rfl rfl rfl hde_X13_rows1rep_V_1 ⟨Nat.le_of_ble_eq_true rfl, Nat.le_of_ble_eq_true rfl⟩) (p_preV C hw hL33 hf34 rfl) rfl rfl hl.1 rfl (lv_room (Nat.le_of_ble_eq_true rfl)) dX13_rows_21 ⟨(Nat.le_of_ble_eq_true rfl), (Nat.le_of_ble_eq_true rfl)⟩) hw hA (fun r36 S35 H locs hpost hw => ?_)
  obtain ⟨hr_, hS_⟩ := hpost
  subst hr_
  subst hS_
  refine n_icmp_ge (tgt := 60) hx hb (by first | decide | omega) (by first | decide | omega) dX13_rows_24 (by decide) (fun h_24 => ?_) (fun h_24 => ?_)
  · exact absurd h_24 (by first | decide | omega)
  · skip
    refine lv_aload_n hx hb dX13_rows_27 rfl (lv_at hl 1 rfl) ?_
    refine lv_aload_n hx hb dX13_rows_28 rfl (lv_at hl 2 rfl) ?_
    refine p_get C hw (ci := 13) (Cn := RX13) (T := TX13) (N := 5) hL27 hf28 rfl hin_RX13 2 (by decide) (mU mw_90) rfl rfl dX13_rows_29 ?_
    refine lv_iload_n hx hb dX13_rows_32 rfl (lv_at hl 0 rfl) ?_
    have hL37 : se ∈ S1.1 := by rw [hS1]; exact List.mem_append_left _ hL_se
    have hf38 : S1.2 se = aQ (cy 4) 10 sq := by rw [hS1]; exact (pnew_n (fun z : se = rl => hq_rl (by rw [← z]; exact hL_se))).trans hf_se
    have hL39 : se ∈ S4.1 := by rw [hS6]; exact List.mem_append_left _ hL37
    have hf40 : S4.2 se = aQ (cy 4) 10 sq := (hfr7 se hL37 (fun z : se = rl => hq_rl (by rw [← z]; exact hL_se))).trans hf38
    have hL41 : se ∈ S14.1 := by rw [hS16]; exact List.mem_append_left _ hL39
    have hf42 : S14.2 se = aQ (cy 4) 10 sq := (hfr17 se hL39 (fun z : se = rl => hq_rl (by rw [← z]; exact hL_se))).trans hf40
    refine p_callq (va_runV (As := [.int (nI 0)]) (rest := [.ref rl]) C.fix (e_Jx4a65c_get_915e3 l D cy S14 H.size sg se sm 1 0 st sq hL33 hf34 hL41 hf42 (by first | assumption | decide | omega) (by first | assumption | decide | omega) (by first | assumption | rfl | simp [va_up])) (cwV 1 C.2.2.2.2.1 (gU_V mw_468 mw_469 mw_470 mw_89 (subU mw_471)) rfl rfl rfl hde_X13_rows1rep_V_2 ⟨Nat.le_of_ble_eq_true rfl, Nat.le_of_ble_eq_true rfl⟩) (p_preV C hw hL33 hf34 rfl) rfl rfl hl.1 rfl (lv_room (Nat.le_of_ble_eq_true rfl)) dX13_rows_33 ⟨(Nat.le_of_ble_eq_true rfl), (Nat.le_of_ble_eq_true rfl)⟩) hw hA (fun r44 S43 H locs hpost hw => ?_)
    obtain ⟨hr_, hS_⟩ := hpost
    subst hr_
    subst hS_
    have hL45 : st ∈ S1.1 := by rw [hS1]; exact List.mem_append_left _ hL_st
    have hf46 : S1.2 st = .inr (12, [.int (nI 0), .int (nI sa), .int (nI sb), .ref sr]) := by rw [hS1]; exact (pnew_n (fun z : st = rl => hq_rl (by rw [← z]; exact hL_st))).trans hf_st
    have hL47 : st ∈ S4.1 := by rw [hS6]; exact List.mem_append_left _ hL45
    have hf48 : S4.2 st = .inr (12, [.int (nI 0), .int (nI sa), .int (nI sb), .ref sr]) := (hfr7 st hL45 (fun z : st = rl => hq_rl (by rw [← z]; exact hL_st))).trans hf46
    have hL49 : st ∈ S14.1 := by rw [hS16]; exact List.mem_append_left _ hL47
    have hf50 : S14.2 st = .inr (12, [.int (nI 0), .int (nI sa), .int (nI sb), .ref sr]) := (hfr17 st hL47 (fun z : st = rl => hq_rl (by rw [← z]; exact hL_st))).trans hf48
    refine p_castS C hw hL49 hf50 rfl (C.2.2.2.2.1 _ (mU mw_418)) dX13_rows_36 ?_
    refine lv_aload_n hx hb dX13_rows_39 rfl (lv_at hl 1 rfl) ?_
    refine lv_iload_n hx hb dX13_rows_40 rfl (lv_at hl 0 rfl) ?_
    refine p_callq (va_runV (As := [.int (nI 0)]) (rest := [.ref st, .ref rl]) C.fix (e_Jx4a65c_get_915e3 l D cy S14 H.size rl ra 1 1 0 bt (va_up (fun _ => none) 0 (some bt)) hL21 hf18 hL22 hf19 (by first | assumption | decide | omega) (by first | assumption | decide | omega) (by first | assumption | rfl | simp [va_up])) (cwV 1 C.2.2.2.2.1 (gU_V mw_468 mw_469 mw_470 mw_89 (subU mw_471)) rfl rfl rfl hde_X13_rows1rep_V_2 ⟨Nat.le_of_ble_eq_true rfl, Nat.le_of_ble_eq_true rfl⟩) (p_preV C hw hL21 hf18 rfl) rfl rfl hl.1 rfl (lv_room (Nat.le_of_ble_eq_true rfl)) dX13_rows_41 ⟨(Nat.le_of_ble_eq_true rfl), (Nat.le_of_ble_eq_true rfl)⟩) hw hA (fun r52 S51 H locs hpost hw => ?_)
    obtain ⟨hr_, hS_⟩ := hpost
    subst hr_
    subst hS_
    have hL53 : bt ∈ S14.1 := by rw [hS16]; exact List.mem_append_left _ hL12
    have hf54 : S14.2 bt = .inl (cy 0, 0, .inl bg) := (hfr17 bt hL12 (fun z : bt = rl => hq_rl (by rw [← z]; exact hL_bt))).trans hf13
    refine p_castA C hw hL53 hf54 (C.2.2.2.2.1 _ (mU mw_413)) dX13_rows_44 ?_
    refine p_callq (va_runV (As := [.ref bt]) (rest := [.ref rl]) C.fix (e_X12_coderep l D cy S14 H.size st bt sr sa sb bg hL49 hf50 hL53 hf54 ) (cwV 1 C.2.2.2.2.1 (gU_V mw_484 mw_485 mw_486 mw_407 (subU mw_487)) rfl rfl rfl hde_X13_rows1rep_V_3 ⟨Nat.le_of_ble_eq_true rfl, Nat.le_of_ble_eq_true rfl⟩) (p_preV C hw hL49 hf50 rfl) rfl rfl hl.1 rfl (lv_room (Nat.le_of_ble_eq_true rfl)) dX13_rows_47 ⟨(Nat.le_of_ble_eq_true rfl), (Nat.le_of_ble_eq_true rfl)⟩) hw hA (fun r56 S55 H locs hpost hw => ?_)
    obtain ⟨w, hr_, hS57, hfr58, hf59⟩ := hpost
    subst hr_
    have hq60 : w ∉ S14.1 := p_fresh hw hS57 0 rfl
    have hL61 : w ∈ S55.1 := by rw [hS57]; exact List.mem_append_right _ (List.mem_of_getElem? (i := 0) rfl)
    have hL62 : rl ∈ S55.1 := by rw [hS57]; exact List.mem_append_left _ hL21
    have hf63 : S55.2 rl = .inr (0, [.int (nI 1), .ref ra, .int (nI 1)]) := (hfr58 rl hL21 ).trans hf18
    have hL64 : ra ∈ S55.1 := by rw [hS57]; exact List.mem_append_left _ hL22
    have hf65 : S55.2 ra = aQ (cy 4) 10 (va_up (fun _ => none) 0 (some bt)) := (hfr58 ra hL22 ).trans hf19
    refine p_calli (va_runV (As := [.ref w]) (rest := []) C.fix (e_Jx4a65c_add_9ea2d2I l D cy S55 H.size rl w ra (va_up (fun _ => none) 0 (some bt)) 0 (fun _ => 0) hL62 hf63 hL64 hf65 hL61 hf59 ) (cwV 1 C.2.2.2.2.1 (gU_V mw_419 mw_420 mw_421 mw_89 (subU mw_422)) rfl rfl rfl hde_X13_rows1rep_V_0 ⟨Nat.le_of_ble_eq_true rfl, Nat.le_of_ble_eq_true rfl⟩) (p_preV C hw hL62 hf63 rfl) rfl rfl hl.1 rfl (lv_room (Nat.le_of_ble_eq_true rfl)) dX13_rows_50 ⟨(Nat.le_of_ble_eq_true rfl), (Nat.le_of_ble_eq_true rfl)⟩) hw hA (fun r67 S66 H locs hpost hw => ?_)
    obtain ⟨hr_, hS68, hfr69, hf70, hf71⟩ := hpost
    subst hr_
    have hL72 : rl ∈ S66.1 := by rw [hS68]; exact List.mem_append_left _ hL62
    have hL73 : ra ∈ S66.1 := by rw [hS68]; exact List.mem_append_left _ hL64
    refine lv_pop hx hb dX13_rows_53 rfl ?_
    refine lv_iinc (v := (nI 1)) (lv' := [(3, .int (nI 1)), (2, .ref rl), (0, .ref mm), (1, .ref bt)]) hx hb dX13_rows_54 hl (k := 0) rfl (by decide) (by decide) rfl (fun ls hl => ?_)
    refine lv_goto (tgt := 16) hx hb dX13_rows_57 (by decide) ?_
    refine lv_iload_n hx hb dX13_rows_16 rfl (lv_at hl 0 rfl) ?_
    refine lv_aload_n hx hb dX13_rows_17 rfl (lv_at hl 2 rfl) ?_
    have hL74 : mm ∈ S55.1 := by rw [hS57]; exact List.mem_append_left _ hL27
    have hf75 : S55.2 mm = .inr (13, [.int (nI t0), .ref me, .ref sg, .ref cn, .ref im]) := (hfr58 mm hL27 ).trans hf28
    have hL76 : mm ∈ S66.1 := by rw [hS68]; exact List.mem_append_left _ hL74
    have hf77 : S66.2 mm = .inr (13, [.int (nI t0), .ref me, .ref sg, .ref cn, .ref im]) := (hfr69 mm hL74 (fun z : mm = rl => hq_rl (by rw [← z]; exact hL_mm)) (fun z : mm = ra => hq20 (by rw [← z]; exact hL25))).trans hf75
    refine p_get C hw (ci := 13) (Cn := RX13) (T := TX13) (N := 5) hL76 hf77 rfl hin_RX13 2 (by decide) (mU mw_90) rfl rfl dX13_rows_18 ?_
    have hL78 : sg ∈ S55.1 := by rw [hS57]; exact List.mem_append_left _ hL33
    have hf79 : S55.2 sg = .inr (0, [.int (nI sm), .ref se, .int (nI 1)]) := (hfr58 sg hL33 ).trans hf34
    have hL80 : sg ∈ S66.1 := by rw [hS68]; exact List.mem_append_left _ hL78
    have hf81 : S66.2 sg = .inr (0, [.int (nI sm), .ref se, .int (nI 1)]) := (hfr69 sg hL78 (fun z : sg = rl => hq_rl (by rw [← z]; exact hL_sg)) (fun z : sg = ra => hq20 (by rw [← z]; exact hL31))).trans hf79
    refine p_calli (va_runV (As := []) (rest := [.int (nI 1)]) C.fix (e_Jx4a65c_size_8abf5 l D cy S66 H.size sg se sm 1 hL80 hf81 ) (cwV 0 C.2.2.2.2.1 (gU_V mw_464 mw_465 mw_466 mw_89 (subU mw_467)) rfl rfl rfl hde_X13_rows1rep_V_1 ⟨Nat.le_of_ble_eq_true rfl, Nat.le_of_ble_eq_true rfl⟩) (p_preV C hw hL80 hf81 rfl) rfl rfl hl.1 rfl (lv_room (Nat.le_of_ble_eq_true rfl)) dX13_rows_21 ⟨(Nat.le_of_ble_eq_true rfl), (Nat.le_of_ble_eq_true rfl)⟩) hw hA (fun r83 S82 H locs hpost hw => ?_)
    obtain ⟨hr_, hS_⟩ := hpost
    subst hr_
    subst hS_
    refine n_icmp_ge (tgt := 60) hx hb (by first | decide | omega) (by first | decide | omega) dX13_rows_24 (by decide) (fun h_24 => ?_) (fun h_24 => ?_)
    · skip
      refine lv_aload_n hx hb dX13_rows_60 rfl (lv_at hl 1 rfl) ?_
      have hL84 : w ∈ S66.1 := by rw [hS68]; exact List.mem_append_left _ hL61
      have hf85 : S66.2 w = .inl (cy 0, 0, .inl (fun _ => 0)) := (hfr69 w hL61 (fun z : w = rl => hq60 (by rw [z]; exact hL21)) (fun z : w = ra => hq60 (by rw [z]; exact hL22))).trans hf59
      exact (p_qret C hw (v := some rl) (⟨rl, ra, w, rfl, (by simp only [hS68, hS57, hS16, hS6, hS1, pup, pnew, List.append_nil, List.append_assoc, List.cons_append, List.nil_append]), (fun a_ ha_ => ((hfr69 a_ (show a_ ∈ S55.1 from by rw [hS57]; exact List.mem_append_left _ (show a_ ∈ S14.1 from by rw [hS16]; exact List.mem_append_left _ (show a_ ∈ S4.1 from by rw [hS6]; exact List.mem_append_left _ (show a_ ∈ S1.1 from by rw [hS1]; exact List.mem_append_left _ ha_)))) (fun z : a_ = rl => hq_rl (by rw [← z]; exact ha_)) (fun z : a_ = ra => hq20 (by rw [← z]; exact (show a_ ∈ S4.1 from by rw [hS6]; exact List.mem_append_left _ (show a_ ∈ S1.1 from by rw [hS1]; exact List.mem_append_left _ ha_))))).trans ((hfr58 a_ (show a_ ∈ S14.1 from by rw [hS16]; exact List.mem_append_left _ (show a_ ∈ S4.1 from by rw [hS6]; exact List.mem_append_left _ (show a_ ∈ S1.1 from by rw [hS1]; exact List.mem_append_left _ ha_))) ).trans ((hfr17 a_ (show a_ ∈ S4.1 from by rw [hS6]; exact List.mem_append_left _ (show a_ ∈ S1.1 from by rw [hS1]; exact List.mem_append_left _ ha_)) (fun z : a_ = rl => hq_rl (by rw [← z]; exact ha_))).trans ((hfr7 a_ (show a_ ∈ S1.1 from by rw [hS1]; exact List.mem_append_left _ ha_) (fun z : a_ = rl => hq_rl (by rw [← z]; exact ha_))).trans (show S1.2 a_ = S.2 a_ from by rw [hS1]; exact pnew_n (fun z : a_ = rl => hq_rl (by rw [← z]; exact ha_)))))))), hf70, hf71, hf85⟩) hr (by first | exact Or.inl ⟨_, rfl⟩ | exact Or.inr ⟨_, rfl⟩) hlocks dX13_rows_61)
    · exact absurd h_24 (by first | decide | omega)

theorem hde_X13_sentNow1rep_V_0 : yX13_rows.cls = RX13 ∧ yX13_rows.cls ≠ "java/lang/invoke/MethodHandle" ∧ yX13_rows.cls ≠ "java/lang/invoke/VarHandle" ∧ (parseMethodDescriptor yX13_rows.desc).map (fun d => d.parameters.length) = some 1 := by decide +kernel
theorem hde_X13_sentNow1rep_V_1 : yJx4a65c_size_8abf5.cls = RJx4a65c ∧ yJx4a65c_size_8abf5.cls ≠ "java/lang/invoke/MethodHandle" ∧ yJx4a65c_size_8abf5.cls ≠ "java/lang/invoke/VarHandle" ∧ (parseMethodDescriptor yJx4a65c_size_8abf5.desc).map (fun d => d.parameters.length) = some 0 := by decide +kernel
theorem hde_X13_sentNow1rep_V_2 : yJx4a65c_get_915e3.cls = RJx4a65c ∧ yJx4a65c_get_915e3.cls ≠ "java/lang/invoke/MethodHandle" ∧ yJx4a65c_get_915e3.cls ≠ "java/lang/invoke/VarHandle" ∧ (parseMethodDescriptor yJx4a65c_get_915e3.desc).map (fun d => d.parameters.length) = some 1 := by decide +kernel
set_option maxHeartbeats 4000000 in
set_option maxRecDepth 100000 in
theorem e_X13_sentNow1rep (l : Launch) (D : va_G) (cy : Nat → ClassId) (ed : Nat) (S : pS) (sz : Nat) (mm : Nat) (me : Nat) (sg : Nat) (cn : Nat) (im : Nat) (se : Nat) (st : Nat) (sr : Nat) (t0 : Nat) (sa : Nat) (sb : Nat) (sm : Nat) (sq : Nat → Option Nat) (hL_mm : mm ∈ S.1) (hf_mm : S.2 mm = .inr (13, [.int (nI t0), .ref me, .ref sg, .ref cn, .ref im])) (hL_me : me ∈ S.1) (hf_me : S.2 me = .inl (cy 0, 0, .inl (fun _ => 0))) (hL_sg : sg ∈ S.1) (hf_sg : S.2 sg = .inr (0, [.int (nI sm), .ref se, .int (nI 1)])) (hL_se : se ∈ S.1) (hf_se : S.2 se = aQ (cy 4) 10 sq) (hL_st : st ∈ S.1) (hf_st : S.2 st = .inr (12, [.int (nI 0), .int (nI sa), .int (nI sb), .ref sr])) (hsq : sq 0 = some st) : Met l yX13_sentNow (Cond.code yX13_sentNow cX13_sentNow 1 (some (.array .int)) :: lwU) ({ frames := 6, cells := 3, slots := 13, locals := 131 }) (ePc D cy ed S sz [.ref mm]) (pQq D cy S sz (fun r S' => ∃ (rl : Nat) (ra : Nat) (w : Nat), r = some w ∧ S'.1 = S.1 ++ [rl, ra, w] ∧ (∀ a_, a_ ∈ S.1 → S'.2 a_ = S.2 a_) ∧ S'.2 w = .inl (cy 0, 0, .inl (fun _ => 0)))) 3 13 (pA S sz) := by
  refine Met.ofW (cc := cX13_sentNow) (maxL := 1) (ret := (some (.array .int))) (by decide) rfl ?_
  intro p e s m args below meth c s₁ B hml hv
  obtain ⟨rfl, rfl, C, hw, hA, hr, hlocks, hE⟩ := e_start B hml hv
  have hx := C.1
  have hb := C.2.1
  have hl := lv_entry ([.ref mm]) (n := 1) (Nat.le_of_ble_eq_true rfl)
  rw [lg_entry_eq]
  generalize (lg_sl ([.ref mm]) ++ List.replicate (1 - (lg_sl ([.ref mm])).length) Slot.unset).toArray = ls at hl ⊢
  have hl : lv_has ls 1 [(0, .ref mm)] := hl
  have hin_RX13 : ∀ w ∈ u_ws RX13 TX13 5, w ∈ (Cond.code yX13_sentNow cX13_sentNow 1 (some (.array .int)) :: lwU) := fun w h => mU (sub_RX13 w h)
  refine lv_aload_n hx hb dX13_sentNow_0 rfl (lv_at hl 0 rfl) ?_
  refine lv_aload_n hx hb dX13_sentNow_1 rfl (lv_at hl 0 rfl) ?_
  refine p_get C hw (ci := 13) (Cn := RX13) (T := TX13) (N := 5) hL_mm hf_mm rfl hin_RX13 1 (by decide) (mU mw_86) rfl rfl dX13_sentNow_2 ?_
  refine p_callq (va_runV (As := [.ref me]) (rest := []) C.fix (e_X13_rows1rep l D cy ed S s.heap.size mm me me sg cn im se st sr t0 sa sb sm sq (fun _ => 0) hL_mm hf_mm hL_sg hf_sg hL_se hf_se hL_st hf_st hL_me hf_me (by first | assumption | rfl | simp [va_up])) (cwV 1 C.2.2.2.2.1 (gU_V mw_414 mw_415 mw_416 mw_5 (subU mw_417)) rfl rfl rfl hde_X13_sentNow1rep_V_0 ⟨Nat.le_of_ble_eq_true rfl, Nat.le_of_ble_eq_true rfl⟩) (e_preV C hw hA hE hL_mm hf_mm rfl) rfl rfl hl.1 rfl (lv_room (Nat.le_of_ble_eq_true rfl)) dX13_sentNow_5 ⟨(Nat.le_of_ble_eq_true rfl), (Nat.le_of_ble_eq_true rfl)⟩) hw hA (fun r2 S1 H locs hpost hw => ?_)
  obtain ⟨rl, ra, w, hr_, hS3, hfr4, hf5, hf6, hf7⟩ := hpost
  subst hr_
  have hnd8 := p_apart hw hS3
  have hq9 : rl ∉ S.1 := p_fresh hw hS3 0 rfl
  have hq10 : ra ∉ S.1 := p_fresh hw hS3 1 rfl
  have hq11 : w ∉ S.1 := p_fresh hw hS3 2 rfl
  have hL12 : rl ∈ S1.1 := by rw [hS3]; exact List.mem_append_right _ (List.mem_of_getElem? (i := 0) rfl)
  have hL13 : ra ∈ S1.1 := by rw [hS3]; exact List.mem_append_right _ (List.mem_of_getElem? (i := 1) rfl)
  have hL14 : w ∈ S1.1 := by rw [hS3]; exact List.mem_append_right _ (List.mem_of_getElem? (i := 2) rfl)
  refine lv_aload_n hx hb dX13_sentNow_8 rfl (lv_at hl 0 rfl) ?_
  have hL15 : mm ∈ S1.1 := by rw [hS3]; exact List.mem_append_left _ hL_mm
  have hf16 : S1.2 mm = .inr (13, [.int (nI t0), .ref me, .ref sg, .ref cn, .ref im]) := (hfr4 mm hL_mm ).trans hf_mm
  refine p_get C hw (ci := 13) (Cn := RX13) (T := TX13) (N := 5) hL15 hf16 rfl hin_RX13 2 (by decide) (mU mw_90) rfl rfl dX13_sentNow_9 ?_
  have hL17 : sg ∈ S1.1 := by rw [hS3]; exact List.mem_append_left _ hL_sg
  have hf18 : S1.2 sg = .inr (0, [.int (nI sm), .ref se, .int (nI 1)]) := (hfr4 sg hL_sg ).trans hf_sg
  refine p_calli (va_runV (As := []) (rest := [.ref rl]) C.fix (e_Jx4a65c_size_8abf5 l D cy S1 H.size sg se sm 1 hL17 hf18 ) (cwV 0 C.2.2.2.2.1 (gU_V mw_464 mw_465 mw_466 mw_89 (subU mw_467)) rfl rfl rfl hde_X13_sentNow1rep_V_1 ⟨Nat.le_of_ble_eq_true rfl, Nat.le_of_ble_eq_true rfl⟩) (p_preV C hw hL17 hf18 rfl) rfl rfl hl.1 rfl (lv_room (Nat.le_of_ble_eq_true rfl)) dX13_sentNow_12 ⟨(Nat.le_of_ble_eq_true rfl), (Nat.le_of_ble_eq_true rfl)⟩) hw hA (fun r20 S19 H locs hpost hw => ?_)
  obtain ⟨hr_, hS_⟩ := hpost
  subst hr_
  subst hS_
  refine p_callq (va_runV (As := [.int (nI 1)]) (rest := []) C.fix (e_Jx4a65c_get_915e3 l D cy S1 H.size rl ra 2 2 1 w (va_up (va_up (fun _ => none) 0 (some me)) 1 (some w)) hL12 hf5 hL13 hf6 (by first | assumption | decide | omega) (by first | assumption | decide | omega) (by first | assumption | rfl | simp [va_up])) (cwV 1 C.2.2.2.2.1 (gU_V mw_468 mw_469 mw_470 mw_89 (subU mw_471)) rfl rfl rfl hde_X13_sentNow1rep_V_2 ⟨Nat.le_of_ble_eq_true rfl, Nat.le_of_ble_eq_true rfl⟩) (p_preV C hw hL12 hf5 rfl) rfl rfl hl.1 rfl (lv_room (Nat.le_of_ble_eq_true rfl)) dX13_sentNow_15 ⟨(Nat.le_of_ble_eq_true rfl), (Nat.le_of_ble_eq_true rfl)⟩) hw hA (fun r22 S21 H locs hpost hw => ?_)
  obtain ⟨hr_, hS_⟩ := hpost
  subst hr_
  subst hS_
  refine p_castA C hw hL14 hf7 (C.2.2.2.2.1 _ (mU mw_413)) dX13_sentNow_18 ?_
  exact (p_qret C hw (v := some w) (⟨rl, ra, w, rfl, (by simp only [hS3, pup, pnew, List.append_nil, List.append_assoc, List.cons_append, List.nil_append]), (fun a_ ha_ => (hfr4 a_ ha_ )), hf7⟩) hr (by first | exact Or.inl ⟨_, rfl⟩ | exact Or.inr ⟨_, rfl⟩) hlocks dX13_sentNow_21)

theorem hde_X13_addrep_V_0 : yJx4a65c_size_8abf5.cls = RJx4a65c ∧ yJx4a65c_size_8abf5.cls ≠ "java/lang/invoke/MethodHandle" ∧ yJx4a65c_size_8abf5.cls ≠ "java/lang/invoke/VarHandle" ∧ (parseMethodDescriptor yJx4a65c_size_8abf5.desc).map (fun d => d.parameters.length) = some 0 := by decide +kernel
theorem hde_X13_addrep_V_1 : yX13_refuse.cls = RX13 ∧ yX13_refuse.cls ≠ "java/lang/invoke/MethodHandle" ∧ yX13_refuse.cls ≠ "java/lang/invoke/VarHandle" ∧ (parseMethodDescriptor yX13_refuse.desc).map (fun d => d.parameters.length) = some 2 := by decide +kernel
theorem hde_X13_addrep_V_2 : yJx4a65c_add_9ea2d.cls = RJx4a65c ∧ yJx4a65c_add_9ea2d.cls ≠ "java/lang/invoke/MethodHandle" ∧ yJx4a65c_add_9ea2d.cls ≠ "java/lang/invoke/VarHandle" ∧ (parseMethodDescriptor yJx4a65c_add_9ea2d.desc).map (fun d => d.parameters.length) = some 1 := by decide +kernel
theorem hde_X13_addrep_V_3 : yX13_sentNow.cls = RX13 ∧ yX13_sentNow.cls ≠ "java/lang/invoke/MethodHandle" ∧ yX13_sentNow.cls ≠ "java/lang/invoke/VarHandle" ∧ (parseMethodDescriptor yX13_sentNow.desc).map (fun d => d.parameters.length) = some 0 := by decide +kernel
set_option maxHeartbeats 4000000 in
set_option maxRecDepth 100000 in
theorem e_X13_addrep (l : Launch) (D : va_G) (cy : Nat → ClassId) (ed : Nat) (S : pS) (sz : Nat) (mm : Nat) (st : Nat) (me : Nat) (sg : Nat) (cn : Nat) (im : Nat) (sr : Nat) (sa : Nat) (sb : Nat) (hL_mm : mm ∈ S.1) (hf_mm : S.2 mm = .inr (13, [.int (nI 0), .ref me, .ref sg, .ref cn, .ref im])) (hL_me : me ∈ S.1) (hf_me : S.2 me = .inl (cy 0, 0, .inl (fun _ => 0))) (hL_sg : sg ∈ S.1) (hf_sg : S.2 sg = .inr (0, [.int (nI 0), .ref ed, .int (nI 0)])) (hL_st : st ∈ S.1) (hf_st : S.2 st = .inr (12, [.int (nI 0), .int (nI sa), .int (nI sb), .ref sr]))  : Met l yX13_add (Cond.code yX13_add cX13_add 3 (some .int) :: lwU) ({ frames := 7, cells := 4, slots := 23, locals := 151 }) (ePc D cy ed S sz [.ref mm, .ref st]) (pQi D cy S sz (fun r S' => ∃ (nl : List Nat), r = (nI 0) ∧ S'.1 = S.1 ++ nl ∧ (∀ a_, a_ ∈ S.1 → a_ ≠ sg → S'.2 a_ = S.2 a_))) 4 23 (pA S sz) := by
  refine Met.ofW (cc := cX13_add) (maxL := 3) (ret := (some .int)) (by decide) rfl ?_
  intro p e s m args below meth c s₁ B hml hv
  obtain ⟨rfl, rfl, C, hw, hA, hr, hlocks, hE⟩ := e_start B hml hv
  have hx := C.1
  have hb := C.2.1
  have hl := lv_entry ([.ref mm, .ref st]) (n := 3) (Nat.le_of_ble_eq_true rfl)
  rw [lg_entry_eq]
  generalize (lg_sl ([.ref mm, .ref st]) ++ List.replicate (3 - (lg_sl ([.ref mm, .ref st])).length) Slot.unset).toArray = ls at hl ⊢
  have hl : lv_has ls 3 [(0, .ref mm), (1, .ref st)] := hl
  have hin_RX13 : ∀ w ∈ u_ws RX13 TX13 5, w ∈ (Cond.code yX13_add cX13_add 3 (some .int) :: lwU) := fun w h => mU (sub_RX13 w h)
  refine lv_aload_n hx hb dX13_add_0 rfl (lv_at hl 0 rfl) ?_
  refine lv_aload_n hx hb dX13_add_1 rfl (lv_at hl 0 rfl) ?_
  refine p_get C hw (ci := 13) (Cn := RX13) (T := TX13) (N := 5) hL_mm hf_mm rfl hin_RX13 2 (by decide) (mU mw_90) rfl rfl dX13_add_2 ?_
  refine p_calli (va_runV (As := []) (rest := [.ref mm]) C.fix (e_Jx4a65c_size_8abf5 l D cy S s.heap.size sg ed 0 0 hL_sg hf_sg ) (cwV 0 C.2.2.2.2.1 (gU_V mw_464 mw_465 mw_466 mw_89 (subU mw_467)) rfl rfl rfl hde_X13_addrep_V_0 ⟨Nat.le_of_ble_eq_true rfl, Nat.le_of_ble_eq_true rfl⟩) (p_preV C hw hL_sg hf_sg rfl) rfl rfl hl.1 rfl (lv_room (Nat.le_of_ble_eq_true rfl)) dX13_add_5 ⟨(Nat.le_of_ble_eq_true rfl), (Nat.le_of_ble_eq_true rfl)⟩) hw hA (fun r2 S1 H locs hpost hw => ?_)
  obtain ⟨hr_, hS_⟩ := hpost
  subst hr_
  subst hS_
  refine lv_iconst (v := nI 4) hx hb dX13_add_8 (by decide) ?_
  refine n_icmp_ne (tgt := 16) hx hb (by first | decide | omega) (by first | decide | omega) dX13_add_9 (by decide) (fun h_9 => ?_) (fun h_9 => ?_)
  · skip
    refine lv_iconst (v := nI 0) hx hb dX13_add_16 (by decide) ?_
    refine lv_iconst (v := nI 2) hx hb dX13_add_17 (by decide) ?_
    refine p_calli (va_runV (As := [.int (nI 0), .int (nI 2)]) (rest := []) C.fix (e_X13_refuse0 l D cy S H.size mm me sg cn im 2 hL_mm hf_mm ) (cwV 2 C.2.2.2.2.1 (gU_V mw_402 mw_403 mw_404 mw_5 (subU mw_405)) rfl rfl rfl hde_X13_addrep_V_1 ⟨Nat.le_of_ble_eq_true rfl, Nat.le_of_ble_eq_true rfl⟩) (p_preV C hw hL_mm hf_mm rfl) rfl rfl hl.1 rfl (lv_room (Nat.le_of_ble_eq_true rfl)) dX13_add_18 ⟨(Nat.le_of_ble_eq_true rfl), (Nat.le_of_ble_eq_true rfl)⟩) hw hA (fun r4 S3 H locs hpost hw => ?_)
    obtain ⟨hr_, hS_⟩ := hpost
    subst hr_
    subst hS_
    refine n_if_eq (tgt := 26) hx hb (by first | decide | omega) dX13_add_21 (by decide) (fun h_21 => ?_) (fun h_21 => ?_)
    · skip
      refine lv_aload_n hx hb dX13_add_26 rfl (lv_at hl 0 rfl) ?_
      refine p_get C hw (ci := 13) (Cn := RX13) (T := TX13) (N := 5) hL_mm hf_mm rfl hin_RX13 2 (by decide) (mU mw_90) rfl rfl dX13_add_27 ?_
      refine lv_aload_n hx hb dX13_add_30 rfl (lv_at hl 1 rfl) ?_
      refine p_calli (va_runV (As := [.ref st]) (rest := []) C.fix (e_Jx4a65c_add_9ea2d1S l D cy ed S H.size sg st sr 0 sa sb hL_sg hf_sg hL_st hf_st ) (cwV 1 C.2.2.2.2.1 (gU_V mw_419 mw_420 mw_421 mw_89 (subU mw_422)) rfl rfl rfl hde_X13_addrep_V_2 ⟨Nat.le_of_ble_eq_true rfl, Nat.le_of_ble_eq_true rfl⟩) (e_preV C hw hA hE hL_sg hf_sg rfl) rfl rfl hl.1 rfl (lv_room (Nat.le_of_ble_eq_true rfl)) dX13_add_31 ⟨(Nat.le_of_ble_eq_true rfl), (Nat.le_of_ble_eq_true rfl)⟩) hw hA (fun r6 S5 H locs hpost hw => ?_)
      obtain ⟨se, hr_, hS7, hfr8, hf9, hf10⟩ := hpost
      subst hr_
      have hq11 : se ∉ S.1 := p_fresh hw hS7 0 rfl
      have hL12 : sg ∈ S5.1 := by rw [hS7]; exact List.mem_append_left _ hL_sg
      have hL13 : se ∈ S5.1 := by rw [hS7]; exact List.mem_append_right _ (List.mem_of_getElem? (i := 0) rfl)
      refine lv_pop hx hb dX13_add_34 rfl ?_
      refine lv_aload_n hx hb dX13_add_35 rfl (lv_at hl 0 rfl) ?_
      have hL14 : mm ∈ S5.1 := by rw [hS7]; exact List.mem_append_left _ hL_mm
      have hf15 : S5.2 mm = .inr (13, [.int (nI 0), .ref me, .ref sg, .ref cn, .ref im]) := (hfr8 mm hL_mm (ne_cells hf_mm hf_sg (by nofun))).trans hf_mm
      have hL16 : me ∈ S5.1 := by rw [hS7]; exact List.mem_append_left _ hL_me
      have hf17 : S5.2 me = .inl (cy 0, 0, .inl (fun _ => 0)) := (hfr8 me hL_me (ne_cells hf_me hf_sg (by nofun))).trans hf_me
      have hL18 : st ∈ S5.1 := by rw [hS7]; exact List.mem_append_left _ hL_st
      have hf19 : S5.2 st = .inr (12, [.int (nI 0), .int (nI sa), .int (nI sb), .ref sr]) := (hfr8 st hL_st (ne_cells hf_st hf_sg (by nofun))).trans hf_st
      refine p_callq (va_runV (As := []) (rest := []) C.fix (e_X13_sentNow1rep l D cy ed S5 H.size mm me sg cn im se st sr 0 sa sb 1 (va_up (fun _ => none) 0 (some st)) hL14 hf15 hL16 hf17 hL12 hf9 hL13 hf10 hL18 hf19 (by first | assumption | rfl | simp [va_up])) (cwV 0 C.2.2.2.2.1 (gU_V mw_599 mw_600 mw_601 mw_5 (subU mw_602)) rfl rfl rfl hde_X13_addrep_V_3 ⟨Nat.le_of_ble_eq_true rfl, Nat.le_of_ble_eq_true rfl⟩) (e_preV C hw hA hE hL14 hf15 rfl) rfl rfl hl.1 rfl (lv_room (Nat.le_of_ble_eq_true rfl)) dX13_add_36 ⟨(Nat.le_of_ble_eq_true rfl), (Nat.le_of_ble_eq_true rfl)⟩) hw hA (fun r21 S20 H locs hpost hw => ?_)
      obtain ⟨rl22, ra23, w24, hr_, hS25, hfr26, hf27⟩ := hpost
      subst hr_
      have hnd28 := p_apart hw hS25
      have hq29 : rl22 ∉ S5.1 := p_fresh hw hS25 0 rfl
      have hq30 : ra23 ∉ S5.1 := p_fresh hw hS25 1 rfl
      have hq31 : w24 ∉ S5.1 := p_fresh hw hS25 2 rfl
      have hL32 : w24 ∈ S20.1 := by rw [hS25]; exact List.mem_append_right _ (List.mem_of_getElem? (i := 2) rfl)
      refine n_len C hw 0 rfl hL32 hf27 (n := 0) rfl dX13_add_39 ?_
      refine lv_istore_n (lv' := [(2, .int (nI 0)), (0, .ref mm), (1, .ref st)]) hx hb dX13_add_40 rfl hl (by decide) rfl (fun ls hl => ?_)
      refine lv_iload_n hx hb dX13_add_41 rfl (lv_at hl 0 rfl) ?_
      refine lv_sipush (v := nI 320) hx hb dX13_add_42 (by decide) ?_
      refine n_icmp_gt (tgt := 50) hx hb (by first | decide | omega) (by first | decide | omega) dX13_add_45 (by decide) (fun h_45 => ?_) (fun h_45 => ?_)
      · exact absurd h_45 (by first | decide | omega)
      · skip
        refine lv_iload_n hx hb dX13_add_48 rfl (lv_at hl 0 rfl) ?_
        exact (p_iret C hw (⟨([se] ++ [rl22, ra23, w24]), rfl, (by simp only [hS25, hS7, pup, pnew, List.append_nil, List.append_assoc, List.cons_append, List.nil_append]), (fun a_ ha_ hn_0 => ((hfr26 a_ (show a_ ∈ S5.1 from by rw [hS7]; exact List.mem_append_left _ ha_) ).trans (hfr8 a_ ha_ hn_0)))⟩) hr hlocks dX13_add_49)
    · exact absurd h_21 (by first | decide | omega)
  · exact absurd h_9 (by first | decide | omega)

theorem hde_X13_rows1blk_V_0 : yJx4a65c_add_9ea2d.cls = RJx4a65c ∧ yJx4a65c_add_9ea2d.cls ≠ "java/lang/invoke/MethodHandle" ∧ yJx4a65c_add_9ea2d.cls ≠ "java/lang/invoke/VarHandle" ∧ (parseMethodDescriptor yJx4a65c_add_9ea2d.desc).map (fun d => d.parameters.length) = some 1 := by decide +kernel
theorem hde_X13_rows1blk_V_1 : yJx4a65c_size_8abf5.cls = RJx4a65c ∧ yJx4a65c_size_8abf5.cls ≠ "java/lang/invoke/MethodHandle" ∧ yJx4a65c_size_8abf5.cls ≠ "java/lang/invoke/VarHandle" ∧ (parseMethodDescriptor yJx4a65c_size_8abf5.desc).map (fun d => d.parameters.length) = some 0 := by decide +kernel
theorem hde_X13_rows1blk_V_2 : yJx4a65c_get_915e3.cls = RJx4a65c ∧ yJx4a65c_get_915e3.cls ≠ "java/lang/invoke/MethodHandle" ∧ yJx4a65c_get_915e3.cls ≠ "java/lang/invoke/VarHandle" ∧ (parseMethodDescriptor yJx4a65c_get_915e3.desc).map (fun d => d.parameters.length) = some 1 := by decide +kernel
theorem hde_X13_rows1blk_V_3 : yX12_code.cls = RX12 ∧ yX12_code.cls ≠ "java/lang/invoke/MethodHandle" ∧ yX12_code.cls ≠ "java/lang/invoke/VarHandle" ∧ (parseMethodDescriptor yX12_code.desc).map (fun d => d.parameters.length) = some 1 := by decide +kernel
set_option maxHeartbeats 4000000 in
set_option maxRecDepth 100000 in
theorem e_X13_rows1blk (l : Launch) (D : va_G) (cy : Nat → ClassId) (ed : Nat) (S : pS) (sz : Nat) (mm : Nat) (bt : Nat) (me : Nat) (sg : Nat) (cn : Nat) (im : Nat) (se : Nat) (st : Nat) (sr : Nat) (t0 : Nat) (sa : Nat) (sb : Nat) (sm : Nat) (sq : Nat → Option Nat) (bg : Nat → Int32) (hL_mm : mm ∈ S.1) (hf_mm : S.2 mm = .inr (13, [.int (nI t0), .ref me, .ref sg, .ref cn, .ref im])) (hL_sg : sg ∈ S.1) (hf_sg : S.2 sg = .inr (0, [.int (nI sm), .ref se, .int (nI 1)])) (hL_se : se ∈ S.1) (hf_se : S.2 se = aQ (cy 4) 10 sq) (hL_st : st ∈ S.1) (hf_st : S.2 st = .inr (12, [.int (nI 1), .int (nI sa), .int (nI sb), .ref sr])) (hL_bt : bt ∈ S.1) (hf_bt : S.2 bt = .inl (cy 0, 0, .inl bg)) (hsq : sq 0 = some st) (hsa1 : 1 ≤ sa) (hsa2 : sa < 2 ^ 31) : Met l yX13_rows (Cond.code yX13_rows cX13_rows 4 (some (.object "java/util/ArrayList")) :: lwU) ({ frames := 5, cells := 4, slots := 13, locals := 108 }) (ePc D cy ed S sz [.ref mm, .ref bt]) (pQq D cy S sz (fun r S' => ∃ (rl : Nat) (ra : Nat) (fl : Nat) (w : Nat), r = some rl ∧ S'.1 = S.1 ++ [rl, ra, fl, w] ∧ (∀ a_, a_ ∈ S.1 → S'.2 a_ = S.2 a_) ∧ S'.2 rl = .inr (0, [.int (nI 2), .ref ra, .int (nI 2)]) ∧ S'.2 ra = aQ (cy 4) 10 (va_up (va_up (fun _ => none) 0 (some bt)) 1 (some w)) ∧ S'.2 w = .inl (cy 0, 0, .inl (fun _ => 0)))) 4 13 (pA S sz) := by
  refine Met.ofW (cc := cX13_rows) (maxL := 4) (ret := (some (.object "java/util/ArrayList"))) (by decide) rfl ?_
  intro p e s m args below meth c s₁ B hml hv
  obtain ⟨rfl, rfl, C, hw, hA, hr, hlocks, hE⟩ := e_start B hml hv
  have hx := C.1
  have hb := C.2.1
  have hl := lv_entry ([.ref mm, .ref bt]) (n := 4) (Nat.le_of_ble_eq_true rfl)
  rw [lg_entry_eq]
  generalize (lg_sl ([.ref mm, .ref bt]) ++ List.replicate (4 - (lg_sl ([.ref mm, .ref bt])).length) Slot.unset).toArray = ls at hl ⊢
  have hl : lv_has ls 4 [(0, .ref mm), (1, .ref bt)] := hl
  have hin_RJx4a65c : ∀ w ∈ u_ws RJx4a65c TJx4a65c 3, w ∈ (Cond.code yX13_rows cX13_rows 4 (some (.object "java/util/ArrayList")) :: lwU) := fun w h => mU (sub_RJx4a65c w h)
  have hin_RX13 : ∀ w ∈ u_ws RX13 TX13 5, w ∈ (Cond.code yX13_rows cX13_rows 4 (some (.object "java/util/ArrayList")) :: lwU) := fun w h => mU (sub_RX13 w h)
  refine p_new C hw hA (ci := 0) (Cn := RJx4a65c) (T := TJx4a65c) (N := 3) (fs := [.int (nI 0), .null, .int (nI 0)]) tyJx4a65c tyJx4a65c_ok rfl hin_RJx4a65c (mU mw_87) (mU mw_88) (mU mw_89) (fun j hj => by rcases (show j = 0 ∨ j = 1 ∨ j = 2 by omega) with rfl | rfl | rfl <;> rfl) (Nat.le_of_ble_eq_true rfl) (Nat.le_of_ble_eq_true rfl) dX13_rows_0 (fun rl H hq_rl hw => ?_)
  obtain ⟨S1, hS1⟩ : ∃ z, z = pnew S rl (.inr (0, [.int (nI 0), .null, .int (nI 0)])) := ⟨_, rfl⟩
  replace hw : pW D (pA S s.heap.size) s.heap S1 H [] := by rw [hS1]; exact hw
  have hL2 : rl ∈ S1.1 := by rw [hS1]; exact List.mem_append_right _ List.mem_cons_self
  have hf3 : S1.2 rl = .inr (0, [.int (nI 0), .null, .int (nI 0)]) := by rw [hS1]; exact pnew_s
  refine lv_dup hx hb dX13_rows_3 rfl ?_
  refine p_callv (va_runI (As := []) (rest := [.ref rl]) C.fix (e_Jx4a65c_init_da8c8 l D cy ed S1 H.size rl 0 0 hL2 hf3 ) (cwI 0 C.2.2.2.2.1 (gU_sub (subU mw_96)) rfl rfl rfl (C.2.2.2.2.1 (.initialized RJx4a65c) (mU mw_89)) (C.2.2.2.2.1 (.methodLink RX13 15 yJx4a65c_init_da8c8) (mU mw_94)) (C.2.2.2.2.1 (.instanceMethod yJx4a65c_init_da8c8) (mU mw_95)) rfl (by decide +kernel) ⟨Nat.le_of_ble_eq_true rfl, Nat.le_of_ble_eq_true rfl⟩) (e_preS C hw hA hE) rfl rfl hl.1 rfl (lv_room (Nat.le_of_ble_eq_true rfl)) dX13_rows_4 ⟨(Nat.le_of_ble_eq_true rfl), (Nat.le_of_ble_eq_true rfl)⟩) hw hA (fun S4 H locs hpost hw => ?_)
  obtain ⟨hS6, hfr7, hf8⟩ := hpost
  have hL9 : rl ∈ S4.1 := by rw [hS6]; exact List.mem_append_left _ hL2
  refine lv_astore_n (lv' := [(2, .ref rl), (0, .ref mm), (1, .ref bt)]) hx hb dX13_rows_7 rfl hl (by decide) rfl (fun ls hl => ?_)
  refine lv_aload_n hx hb dX13_rows_8 rfl (lv_at hl 0 rfl) ?_
  refine lv_aload_n hx hb dX13_rows_9 rfl (lv_at hl 2 rfl) ?_
  have hL10 : bt ∈ S1.1 := by rw [hS1]; exact List.mem_append_left _ hL_bt
  have hf11 : S1.2 bt = .inl (cy 0, 0, .inl bg) := by rw [hS1]; exact (pnew_n (fun z : bt = rl => hq_rl (by rw [← z]; exact hL_bt))).trans hf_bt
  have hL12 : bt ∈ S4.1 := by rw [hS6]; exact List.mem_append_left _ hL10
  have hf13 : S4.2 bt = .inl (cy 0, 0, .inl bg) := (hfr7 bt hL10 (fun z : bt = rl => hq_rl (by rw [← z]; exact hL_bt))).trans hf11
  refine p_calli (va_runV (As := [.ref bt]) (rest := []) C.fix (e_Jx4a65c_add_9ea2d1I l D cy ed S4 H.size rl bt 0 bg hL9 hf8 hL12 hf13 ) (cwV 1 C.2.2.2.2.1 (gU_V mw_419 mw_420 mw_421 mw_89 (subU mw_422)) rfl rfl rfl hde_X13_rows1blk_V_0 ⟨Nat.le_of_ble_eq_true rfl, Nat.le_of_ble_eq_true rfl⟩) (e_preV C hw hA hE hL9 hf8 rfl) rfl rfl hl.1 rfl (lv_room (Nat.le_of_ble_eq_true rfl)) dX13_rows_10 ⟨(Nat.le_of_ble_eq_true rfl), (Nat.le_of_ble_eq_true rfl)⟩) hw hA (fun r15 S14 H locs hpost hw => ?_)
  obtain ⟨ra, hr_, hS16, hfr17, hf18, hf19⟩ := hpost
  subst hr_
  have hq20 : ra ∉ S4.1 := p_fresh hw hS16 0 rfl
  have hL21 : rl ∈ S14.1 := by rw [hS16]; exact List.mem_append_left _ hL9
  have hL22 : ra ∈ S14.1 := by rw [hS16]; exact List.mem_append_right _ (List.mem_of_getElem? (i := 0) rfl)
  refine lv_pop hx hb dX13_rows_13 rfl ?_
  refine lv_iconst (v := nI 0) hx hb dX13_rows_14 (by decide) ?_
  refine lv_istore_n (lv' := [(3, .int (nI 0)), (2, .ref rl), (0, .ref mm), (1, .ref bt)]) hx hb dX13_rows_15 rfl hl (by decide) rfl (fun ls hl => ?_)
  refine lv_iload_n hx hb dX13_rows_16 rfl (lv_at hl 0 rfl) ?_
  refine lv_aload_n hx hb dX13_rows_17 rfl (lv_at hl 2 rfl) ?_
  have hL23 : mm ∈ S1.1 := by rw [hS1]; exact List.mem_append_left _ hL_mm
  have hf24 : S1.2 mm = .inr (13, [.int (nI t0), .ref me, .ref sg, .ref cn, .ref im]) := by rw [hS1]; exact (pnew_n (fun z : mm = rl => hq_rl (by rw [← z]; exact hL_mm))).trans hf_mm
  have hL25 : mm ∈ S4.1 := by rw [hS6]; exact List.mem_append_left _ hL23
  have hf26 : S4.2 mm = .inr (13, [.int (nI t0), .ref me, .ref sg, .ref cn, .ref im]) := (hfr7 mm hL23 (fun z : mm = rl => hq_rl (by rw [← z]; exact hL_mm))).trans hf24
  have hL27 : mm ∈ S14.1 := by rw [hS16]; exact List.mem_append_left _ hL25
  have hf28 : S14.2 mm = .inr (13, [.int (nI t0), .ref me, .ref sg, .ref cn, .ref im]) := (hfr17 mm hL25 (fun z : mm = rl => hq_rl (by rw [← z]; exact hL_mm))).trans hf26
  refine p_get C hw (ci := 13) (Cn := RX13) (T := TX13) (N := 5) hL27 hf28 rfl hin_RX13 2 (by decide) (mU mw_90) rfl rfl dX13_rows_18 ?_
  have hL29 : sg ∈ S1.1 := by rw [hS1]; exact List.mem_append_left _ hL_sg
  have hf30 : S1.2 sg = .inr (0, [.int (nI sm), .ref se, .int (nI 1)]) := by rw [hS1]; exact (pnew_n (fun z : sg = rl => hq_rl (by rw [← z]; exact hL_sg))).trans hf_sg
  have hL31 : sg ∈ S4.1 := by rw [hS6]; exact List.mem_append_left _ hL29
  have hf32 : S4.2 sg = .inr (0, [.int (nI sm), .ref se, .int (nI 1)]) := (hfr7 sg hL29 (fun z : sg = rl => hq_rl (by rw [← z]; exact hL_sg))).trans hf30
  have hL33 : sg ∈ S14.1 := by rw [hS16]; exact List.mem_append_left _ hL31
  have hf34 : S14.2 sg = .inr (0, [.int (nI sm), .ref se, .int (nI 1)]) := (hfr17 sg hL31 (fun z : sg = rl => hq_rl (by rw [← z]; exact hL_sg))).trans hf32
  refine p_calli (va_runV (As := []) (rest := [.int (nI 0)]) C.fix (e_Jx4a65c_size_8abf5 l D cy S14 H.size sg se sm 1 hL33 hf34 ) (cwV 0 C.2.2.2.2.1 (gU_V mw_464 mw_465 mw_466 mw_89 (subU mw_467)) rfl rfl rfl hde_X13_rows1blk_V_1 ⟨Nat.le_of_ble_eq_true rfl, Nat.le_of_ble_eq_true rfl⟩) (p_preV C hw hL33 hf34 rfl) rfl rfl hl.1 rfl (lv_room (Nat.le_of_ble_eq_true rfl)) dX13_rows_21 ⟨(Nat.le_of_ble_eq_true rfl), (Nat.le_of_ble_eq_true rfl)⟩) hw hA (fun r36 S35 H locs hpost hw => ?_)
  obtain ⟨hr_, hS_⟩ := hpost
  subst hr_
  subst hS_
  refine n_icmp_ge (tgt := 60) hx hb (by first | decide | omega) (by first | decide | omega) dX13_rows_24 (by decide) (fun h_24 => ?_) (fun h_24 => ?_)
  · exact absurd h_24 (by first | decide | omega)
  · skip
    refine lv_aload_n hx hb dX13_rows_27 rfl (lv_at hl 1 rfl) ?_
    refine lv_aload_n hx hb dX13_rows_28 rfl (lv_at hl 2 rfl) ?_
    refine p_get C hw (ci := 13) (Cn := RX13) (T := TX13) (N := 5) hL27 hf28 rfl hin_RX13 2 (by decide) (mU mw_90) rfl rfl dX13_rows_29 ?_
    refine lv_iload_n hx hb dX13_rows_32 rfl (lv_at hl 0 rfl) ?_
    have hL37 : se ∈ S1.1 := by rw [hS1]; exact List.mem_append_left _ hL_se
    have hf38 : S1.2 se = aQ (cy 4) 10 sq := by rw [hS1]; exact (pnew_n (fun z : se = rl => hq_rl (by rw [← z]; exact hL_se))).trans hf_se
    have hL39 : se ∈ S4.1 := by rw [hS6]; exact List.mem_append_left _ hL37
    have hf40 : S4.2 se = aQ (cy 4) 10 sq := (hfr7 se hL37 (fun z : se = rl => hq_rl (by rw [← z]; exact hL_se))).trans hf38
    have hL41 : se ∈ S14.1 := by rw [hS16]; exact List.mem_append_left _ hL39
    have hf42 : S14.2 se = aQ (cy 4) 10 sq := (hfr17 se hL39 (fun z : se = rl => hq_rl (by rw [← z]; exact hL_se))).trans hf40
    refine p_callq (va_runV (As := [.int (nI 0)]) (rest := [.ref rl]) C.fix (e_Jx4a65c_get_915e3 l D cy S14 H.size sg se sm 1 0 st sq hL33 hf34 hL41 hf42 (by first | assumption | decide | omega) (by first | assumption | decide | omega) (by first | assumption | rfl | simp [va_up])) (cwV 1 C.2.2.2.2.1 (gU_V mw_468 mw_469 mw_470 mw_89 (subU mw_471)) rfl rfl rfl hde_X13_rows1blk_V_2 ⟨Nat.le_of_ble_eq_true rfl, Nat.le_of_ble_eq_true rfl⟩) (p_preV C hw hL33 hf34 rfl) rfl rfl hl.1 rfl (lv_room (Nat.le_of_ble_eq_true rfl)) dX13_rows_33 ⟨(Nat.le_of_ble_eq_true rfl), (Nat.le_of_ble_eq_true rfl)⟩) hw hA (fun r44 S43 H locs hpost hw => ?_)
    obtain ⟨hr_, hS_⟩ := hpost
    subst hr_
    subst hS_
    have hL45 : st ∈ S1.1 := by rw [hS1]; exact List.mem_append_left _ hL_st
    have hf46 : S1.2 st = .inr (12, [.int (nI 1), .int (nI sa), .int (nI sb), .ref sr]) := by rw [hS1]; exact (pnew_n (fun z : st = rl => hq_rl (by rw [← z]; exact hL_st))).trans hf_st
    have hL47 : st ∈ S4.1 := by rw [hS6]; exact List.mem_append_left _ hL45
    have hf48 : S4.2 st = .inr (12, [.int (nI 1), .int (nI sa), .int (nI sb), .ref sr]) := (hfr7 st hL45 (fun z : st = rl => hq_rl (by rw [← z]; exact hL_st))).trans hf46
    have hL49 : st ∈ S14.1 := by rw [hS16]; exact List.mem_append_left _ hL47
    have hf50 : S14.2 st = .inr (12, [.int (nI 1), .int (nI sa), .int (nI sb), .ref sr]) := (hfr17 st hL47 (fun z : st = rl => hq_rl (by rw [← z]; exact hL_st))).trans hf48
    refine p_castS C hw hL49 hf50 rfl (C.2.2.2.2.1 _ (mU mw_418)) dX13_rows_36 ?_
    refine lv_aload_n hx hb dX13_rows_39 rfl (lv_at hl 1 rfl) ?_
    refine lv_iload_n hx hb dX13_rows_40 rfl (lv_at hl 0 rfl) ?_
    refine p_callq (va_runV (As := [.int (nI 0)]) (rest := [.ref st, .ref rl]) C.fix (e_Jx4a65c_get_915e3 l D cy S14 H.size rl ra 1 1 0 bt (va_up (fun _ => none) 0 (some bt)) hL21 hf18 hL22 hf19 (by first | assumption | decide | omega) (by first | assumption | decide | omega) (by first | assumption | rfl | simp [va_up])) (cwV 1 C.2.2.2.2.1 (gU_V mw_468 mw_469 mw_470 mw_89 (subU mw_471)) rfl rfl rfl hde_X13_rows1blk_V_2 ⟨Nat.le_of_ble_eq_true rfl, Nat.le_of_ble_eq_true rfl⟩) (p_preV C hw hL21 hf18 rfl) rfl rfl hl.1 rfl (lv_room (Nat.le_of_ble_eq_true rfl)) dX13_rows_41 ⟨(Nat.le_of_ble_eq_true rfl), (Nat.le_of_ble_eq_true rfl)⟩) hw hA (fun r52 S51 H locs hpost hw => ?_)
    obtain ⟨hr_, hS_⟩ := hpost
    subst hr_
    subst hS_
    have hL53 : bt ∈ S14.1 := by rw [hS16]; exact List.mem_append_left _ hL12
    have hf54 : S14.2 bt = .inl (cy 0, 0, .inl bg) := (hfr17 bt hL12 (fun z : bt = rl => hq_rl (by rw [← z]; exact hL_bt))).trans hf13
    refine p_castA C hw hL53 hf54 (C.2.2.2.2.1 _ (mU mw_413)) dX13_rows_44 ?_
    refine p_callq (va_runV (As := [.ref bt]) (rest := [.ref rl]) C.fix (e_X12_codeblk l D cy S14 H.size st bt sr sa sb bg hL49 hf50 hL53 hf54 (by first | assumption | decide | omega) (by first | assumption | decide | omega)) (cwV 1 C.2.2.2.2.1 (gU_V mw_484 mw_485 mw_486 mw_407 (subU mw_487)) rfl rfl rfl hde_X13_rows1blk_V_3 ⟨Nat.le_of_ble_eq_true rfl, Nat.le_of_ble_eq_true rfl⟩) (p_preV C hw hL49 hf50 rfl) rfl rfl hl.1 rfl (lv_room (Nat.le_of_ble_eq_true rfl)) dX13_rows_47 ⟨(Nat.le_of_ble_eq_true rfl), (Nat.le_of_ble_eq_true rfl)⟩) hw hA (fun r56 S55 H locs hpost hw => ?_)
    obtain ⟨fl, w, hr_, hS57, hfr58, hf59⟩ := hpost
    subst hr_
    have hnd60 := p_apart hw hS57
    have hq61 : fl ∉ S14.1 := p_fresh hw hS57 0 rfl
    have hq62 : w ∉ S14.1 := p_fresh hw hS57 1 rfl
    have hL63 : w ∈ S55.1 := by rw [hS57]; exact List.mem_append_right _ (List.mem_of_getElem? (i := 1) rfl)
    have hL64 : rl ∈ S55.1 := by rw [hS57]; exact List.mem_append_left _ hL21
    have hf65 : S55.2 rl = .inr (0, [.int (nI 1), .ref ra, .int (nI 1)]) := (hfr58 rl hL21 ).trans hf18
    have hL66 : ra ∈ S55.1 := by rw [hS57]; exact List.mem_append_left _ hL22
    have hf67 : S55.2 ra = aQ (cy 4) 10 (va_up (fun _ => none) 0 (some bt)) := (hfr58 ra hL22 ).trans hf19
    refine p_calli (va_runV (As := [.ref w]) (rest := []) C.fix (e_Jx4a65c_add_9ea2d2I l D cy S55 H.size rl w ra (va_up (fun _ => none) 0 (some bt)) 0 (fun _ => 0) hL64 hf65 hL66 hf67 hL63 hf59 ) (cwV 1 C.2.2.2.2.1 (gU_V mw_419 mw_420 mw_421 mw_89 (subU mw_422)) rfl rfl rfl hde_X13_rows1blk_V_0 ⟨Nat.le_of_ble_eq_true rfl, Nat.le_of_ble_eq_true rfl⟩) (p_preV C hw hL64 hf65 rfl) rfl rfl hl.1 rfl (lv_room (Nat.le_of_ble_eq_true rfl)) dX13_rows_50 ⟨(Nat.le_of_ble_eq_true rfl), (Nat.le_of_ble_eq_true rfl)⟩) hw hA (fun r69 S68 H locs hpost hw => ?_)
    obtain ⟨hr_, hS70, hfr71, hf72, hf73⟩ := hpost
    subst hr_
    have hL74 : rl ∈ S68.1 := by rw [hS70]; exact List.mem_append_left _ hL64
    have hL75 : ra ∈ S68.1 := by rw [hS70]; exact List.mem_append_left _ hL66
    refine lv_pop hx hb dX13_rows_53 rfl ?_
    refine lv_iinc (v := (nI 1)) (lv' := [(3, .int (nI 1)), (2, .ref rl), (0, .ref mm), (1, .ref bt)]) hx hb dX13_rows_54 hl (k := 0) rfl (by decide) (by decide) rfl (fun ls hl => ?_)
    refine lv_goto (tgt := 16) hx hb dX13_rows_57 (by decide) ?_
    refine lv_iload_n hx hb dX13_rows_16 rfl (lv_at hl 0 rfl) ?_
    refine lv_aload_n hx hb dX13_rows_17 rfl (lv_at hl 2 rfl) ?_
    have hL76 : mm ∈ S55.1 := by rw [hS57]; exact List.mem_append_left _ hL27
    have hf77 : S55.2 mm = .inr (13, [.int (nI t0), .ref me, .ref sg, .ref cn, .ref im]) := (hfr58 mm hL27 ).trans hf28
    have hL78 : mm ∈ S68.1 := by rw [hS70]; exact List.mem_append_left _ hL76
    have hf79 : S68.2 mm = .inr (13, [.int (nI t0), .ref me, .ref sg, .ref cn, .ref im]) := (hfr71 mm hL76 (fun z : mm = rl => hq_rl (by rw [← z]; exact hL_mm)) (fun z : mm = ra => hq20 (by rw [← z]; exact hL25))).trans hf77
    refine p_get C hw (ci := 13) (Cn := RX13) (T := TX13) (N := 5) hL78 hf79 rfl hin_RX13 2 (by decide) (mU mw_90) rfl rfl dX13_rows_18 ?_
    have hL80 : sg ∈ S55.1 := by rw [hS57]; exact List.mem_append_left _ hL33
    have hf81 : S55.2 sg = .inr (0, [.int (nI sm), .ref se, .int (nI 1)]) := (hfr58 sg hL33 ).trans hf34
    have hL82 : sg ∈ S68.1 := by rw [hS70]; exact List.mem_append_left _ hL80
    have hf83 : S68.2 sg = .inr (0, [.int (nI sm), .ref se, .int (nI 1)]) := (hfr71 sg hL80 (fun z : sg = rl => hq_rl (by rw [← z]; exact hL_sg)) (fun z : sg = ra => hq20 (by rw [← z]; exact hL31))).trans hf81
    refine p_calli (va_runV (As := []) (rest := [.int (nI 1)]) C.fix (e_Jx4a65c_size_8abf5 l D cy S68 H.size sg se sm 1 hL82 hf83 ) (cwV 0 C.2.2.2.2.1 (gU_V mw_464 mw_465 mw_466 mw_89 (subU mw_467)) rfl rfl rfl hde_X13_rows1blk_V_1 ⟨Nat.le_of_ble_eq_true rfl, Nat.le_of_ble_eq_true rfl⟩) (p_preV C hw hL82 hf83 rfl) rfl rfl hl.1 rfl (lv_room (Nat.le_of_ble_eq_true rfl)) dX13_rows_21 ⟨(Nat.le_of_ble_eq_true rfl), (Nat.le_of_ble_eq_true rfl)⟩) hw hA (fun r85 S84 H locs hpost hw => ?_)
    obtain ⟨hr_, hS_⟩ := hpost
    subst hr_
    subst hS_
    refine n_icmp_ge (tgt := 60) hx hb (by first | decide | omega) (by first | decide | omega) dX13_rows_24 (by decide) (fun h_24 => ?_) (fun h_24 => ?_)
    · skip
      refine lv_aload_n hx hb dX13_rows_60 rfl (lv_at hl 1 rfl) ?_
      have hL86 : w ∈ S68.1 := by rw [hS70]; exact List.mem_append_left _ hL63
      have hf87 : S68.2 w = .inl (cy 0, 0, .inl (fun _ => 0)) := (hfr71 w hL63 (fun z : w = rl => hq62 (by rw [z]; exact hL21)) (fun z : w = ra => hq62 (by rw [z]; exact hL22))).trans hf59
      exact (p_qret C hw (v := some rl) (⟨rl, ra, fl, w, rfl, (by simp only [hS70, hS57, hS16, hS6, hS1, pup, pnew, List.append_nil, List.append_assoc, List.cons_append, List.nil_append]), (fun a_ ha_ => ((hfr71 a_ (show a_ ∈ S55.1 from by rw [hS57]; exact List.mem_append_left _ (show a_ ∈ S14.1 from by rw [hS16]; exact List.mem_append_left _ (show a_ ∈ S4.1 from by rw [hS6]; exact List.mem_append_left _ (show a_ ∈ S1.1 from by rw [hS1]; exact List.mem_append_left _ ha_)))) (fun z : a_ = rl => hq_rl (by rw [← z]; exact ha_)) (fun z : a_ = ra => hq20 (by rw [← z]; exact (show a_ ∈ S4.1 from by rw [hS6]; exact List.mem_append_left _ (show a_ ∈ S1.1 from by rw [hS1]; exact List.mem_append_left _ ha_))))).trans ((hfr58 a_ (show a_ ∈ S14.1 from by rw [hS16]; exact List.mem_append_left _ (show a_ ∈ S4.1 from by rw [hS6]; exact List.mem_append_left _ (show a_ ∈ S1.1 from by rw [hS1]; exact List.mem_append_left _ ha_))) ).trans ((hfr17 a_ (show a_ ∈ S4.1 from by rw [hS6]; exact List.mem_append_left _ (show a_ ∈ S1.1 from by rw [hS1]; exact List.mem_append_left _ ha_)) (fun z : a_ = rl => hq_rl (by rw [← z]; exact ha_))).trans ((hfr7 a_ (show a_ ∈ S1.1 from by rw [hS1]; exact List.mem_append_left _ ha_) (fun z : a_ = rl => hq_rl (by rw [← z]; exact ha_))).trans (show S1.2 a_ = S.2 a_ from by rw [hS1]; exact pnew_n (fun z : a_ = rl => hq_rl (by rw [← z]; exact ha_)))))))), hf72, hf73, hf87⟩) hr (by first | exact Or.inl ⟨_, rfl⟩ | exact Or.inr ⟨_, rfl⟩) hlocks dX13_rows_61)
    · exact absurd h_24 (by first | decide | omega)

theorem hde_X13_sentNow1blk_V_0 : yX13_rows.cls = RX13 ∧ yX13_rows.cls ≠ "java/lang/invoke/MethodHandle" ∧ yX13_rows.cls ≠ "java/lang/invoke/VarHandle" ∧ (parseMethodDescriptor yX13_rows.desc).map (fun d => d.parameters.length) = some 1 := by decide +kernel
theorem hde_X13_sentNow1blk_V_1 : yJx4a65c_size_8abf5.cls = RJx4a65c ∧ yJx4a65c_size_8abf5.cls ≠ "java/lang/invoke/MethodHandle" ∧ yJx4a65c_size_8abf5.cls ≠ "java/lang/invoke/VarHandle" ∧ (parseMethodDescriptor yJx4a65c_size_8abf5.desc).map (fun d => d.parameters.length) = some 0 := by decide +kernel
theorem hde_X13_sentNow1blk_V_2 : yJx4a65c_get_915e3.cls = RJx4a65c ∧ yJx4a65c_get_915e3.cls ≠ "java/lang/invoke/MethodHandle" ∧ yJx4a65c_get_915e3.cls ≠ "java/lang/invoke/VarHandle" ∧ (parseMethodDescriptor yJx4a65c_get_915e3.desc).map (fun d => d.parameters.length) = some 1 := by decide +kernel
set_option maxHeartbeats 4000000 in
set_option maxRecDepth 100000 in
theorem e_X13_sentNow1blk (l : Launch) (D : va_G) (cy : Nat → ClassId) (ed : Nat) (S : pS) (sz : Nat) (mm : Nat) (me : Nat) (sg : Nat) (cn : Nat) (im : Nat) (se : Nat) (st : Nat) (sr : Nat) (t0 : Nat) (sa : Nat) (sb : Nat) (sm : Nat) (sq : Nat → Option Nat) (hL_mm : mm ∈ S.1) (hf_mm : S.2 mm = .inr (13, [.int (nI t0), .ref me, .ref sg, .ref cn, .ref im])) (hL_me : me ∈ S.1) (hf_me : S.2 me = .inl (cy 0, 0, .inl (fun _ => 0))) (hL_sg : sg ∈ S.1) (hf_sg : S.2 sg = .inr (0, [.int (nI sm), .ref se, .int (nI 1)])) (hL_se : se ∈ S.1) (hf_se : S.2 se = aQ (cy 4) 10 sq) (hL_st : st ∈ S.1) (hf_st : S.2 st = .inr (12, [.int (nI 1), .int (nI sa), .int (nI sb), .ref sr])) (hsq : sq 0 = some st) (hsa1 : 1 ≤ sa) (hsa2 : sa < 2 ^ 31) : Met l yX13_sentNow (Cond.code yX13_sentNow cX13_sentNow 1 (some (.array .int)) :: lwU) ({ frames := 6, cells := 4, slots := 13, locals := 131 }) (ePc D cy ed S sz [.ref mm]) (pQq D cy S sz (fun r S' => ∃ (rl : Nat) (ra : Nat) (fl : Nat) (w : Nat), r = some w ∧ S'.1 = S.1 ++ [rl, ra, fl, w] ∧ (∀ a_, a_ ∈ S.1 → S'.2 a_ = S.2 a_) ∧ S'.2 w = .inl (cy 0, 0, .inl (fun _ => 0)))) 4 13 (pA S sz) := by
  refine Met.ofW (cc := cX13_sentNow) (maxL := 1) (ret := (some (.array .int))) (by decide) rfl ?_
  intro p e s m args below meth c s₁ B hml hv
  obtain ⟨rfl, rfl, C, hw, hA, hr, hlocks, hE⟩ := e_start B hml hv
  have hx := C.1
  have hb := C.2.1
  have hl := lv_entry ([.ref mm]) (n := 1) (Nat.le_of_ble_eq_true rfl)
  rw [lg_entry_eq]
  generalize (lg_sl ([.ref mm]) ++ List.replicate (1 - (lg_sl ([.ref mm])).length) Slot.unset).toArray = ls at hl ⊢
  have hl : lv_has ls 1 [(0, .ref mm)] := hl
  have hin_RX13 : ∀ w ∈ u_ws RX13 TX13 5, w ∈ (Cond.code yX13_sentNow cX13_sentNow 1 (some (.array .int)) :: lwU) := fun w h => mU (sub_RX13 w h)
  refine lv_aload_n hx hb dX13_sentNow_0 rfl (lv_at hl 0 rfl) ?_
  refine lv_aload_n hx hb dX13_sentNow_1 rfl (lv_at hl 0 rfl) ?_
  refine p_get C hw (ci := 13) (Cn := RX13) (T := TX13) (N := 5) hL_mm hf_mm rfl hin_RX13 1 (by decide) (mU mw_86) rfl rfl dX13_sentNow_2 ?_
  refine p_callq (va_runV (As := [.ref me]) (rest := []) C.fix (e_X13_rows1blk l D cy ed S s.heap.size mm me me sg cn im se st sr t0 sa sb sm sq (fun _ => 0) hL_mm hf_mm hL_sg hf_sg hL_se hf_se hL_st hf_st hL_me hf_me (by first | assumption | rfl | simp [va_up]) (by first | assumption | decide | omega) (by first | assumption | decide | omega)) (cwV 1 C.2.2.2.2.1 (gU_V mw_414 mw_415 mw_416 mw_5 (subU mw_417)) rfl rfl rfl hde_X13_sentNow1blk_V_0 ⟨Nat.le_of_ble_eq_true rfl, Nat.le_of_ble_eq_true rfl⟩) (e_preV C hw hA hE hL_mm hf_mm rfl) rfl rfl hl.1 rfl (lv_room (Nat.le_of_ble_eq_true rfl)) dX13_sentNow_5 ⟨(Nat.le_of_ble_eq_true rfl), (Nat.le_of_ble_eq_true rfl)⟩) hw hA (fun r2 S1 H locs hpost hw => ?_)
  obtain ⟨rl, ra, fl, w, hr_, hS3, hfr4, hf5, hf6, hf7⟩ := hpost
  subst hr_
  have hnd8 := p_apart hw hS3
  have hq9 : rl ∉ S.1 := p_fresh hw hS3 0 rfl
  have hq10 : ra ∉ S.1 := p_fresh hw hS3 1 rfl
  have hq11 : fl ∉ S.1 := p_fresh hw hS3 2 rfl
  have hq12 : w ∉ S.1 := p_fresh hw hS3 3 rfl
  have hL13 : rl ∈ S1.1 := by rw [hS3]; exact List.mem_append_right _ (List.mem_of_getElem? (i := 0) rfl)
  have hL14 : ra ∈ S1.1 := by rw [hS3]; exact List.mem_append_right _ (List.mem_of_getElem? (i := 1) rfl)
  have hL15 : w ∈ S1.1 := by rw [hS3]; exact List.mem_append_right _ (List.mem_of_getElem? (i := 3) rfl)
  refine lv_aload_n hx hb dX13_sentNow_8 rfl (lv_at hl 0 rfl) ?_
  have hL16 : mm ∈ S1.1 := by rw [hS3]; exact List.mem_append_left _ hL_mm
  have hf17 : S1.2 mm = .inr (13, [.int (nI t0), .ref me, .ref sg, .ref cn, .ref im]) := (hfr4 mm hL_mm ).trans hf_mm
  refine p_get C hw (ci := 13) (Cn := RX13) (T := TX13) (N := 5) hL16 hf17 rfl hin_RX13 2 (by decide) (mU mw_90) rfl rfl dX13_sentNow_9 ?_
  have hL18 : sg ∈ S1.1 := by rw [hS3]; exact List.mem_append_left _ hL_sg
  have hf19 : S1.2 sg = .inr (0, [.int (nI sm), .ref se, .int (nI 1)]) := (hfr4 sg hL_sg ).trans hf_sg
  refine p_calli (va_runV (As := []) (rest := [.ref rl]) C.fix (e_Jx4a65c_size_8abf5 l D cy S1 H.size sg se sm 1 hL18 hf19 ) (cwV 0 C.2.2.2.2.1 (gU_V mw_464 mw_465 mw_466 mw_89 (subU mw_467)) rfl rfl rfl hde_X13_sentNow1blk_V_1 ⟨Nat.le_of_ble_eq_true rfl, Nat.le_of_ble_eq_true rfl⟩) (p_preV C hw hL18 hf19 rfl) rfl rfl hl.1 rfl (lv_room (Nat.le_of_ble_eq_true rfl)) dX13_sentNow_12 ⟨(Nat.le_of_ble_eq_true rfl), (Nat.le_of_ble_eq_true rfl)⟩) hw hA (fun r21 S20 H locs hpost hw => ?_)
  obtain ⟨hr_, hS_⟩ := hpost
  subst hr_
  subst hS_
  refine p_callq (va_runV (As := [.int (nI 1)]) (rest := []) C.fix (e_Jx4a65c_get_915e3 l D cy S1 H.size rl ra 2 2 1 w (va_up (va_up (fun _ => none) 0 (some me)) 1 (some w)) hL13 hf5 hL14 hf6 (by first | assumption | decide | omega) (by first | assumption | decide | omega) (by first | assumption | rfl | simp [va_up])) (cwV 1 C.2.2.2.2.1 (gU_V mw_468 mw_469 mw_470 mw_89 (subU mw_471)) rfl rfl rfl hde_X13_sentNow1blk_V_2 ⟨Nat.le_of_ble_eq_true rfl, Nat.le_of_ble_eq_true rfl⟩) (p_preV C hw hL13 hf5 rfl) rfl rfl hl.1 rfl (lv_room (Nat.le_of_ble_eq_true rfl)) dX13_sentNow_15 ⟨(Nat.le_of_ble_eq_true rfl), (Nat.le_of_ble_eq_true rfl)⟩) hw hA (fun r23 S22 H locs hpost hw => ?_)
  obtain ⟨hr_, hS_⟩ := hpost
  subst hr_
  subst hS_
  refine p_castA C hw hL15 hf7 (C.2.2.2.2.1 _ (mU mw_413)) dX13_sentNow_18 ?_
  exact (p_qret C hw (v := some w) (⟨rl, ra, fl, w, rfl, (by simp only [hS3, pup, pnew, List.append_nil, List.append_assoc, List.cons_append, List.nil_append]), (fun a_ ha_ => (hfr4 a_ ha_ )), hf7⟩) hr (by first | exact Or.inl ⟨_, rfl⟩ | exact Or.inr ⟨_, rfl⟩) hlocks dX13_sentNow_21)

theorem hde_X13_addblk_V_0 : yJx4a65c_size_8abf5.cls = RJx4a65c ∧ yJx4a65c_size_8abf5.cls ≠ "java/lang/invoke/MethodHandle" ∧ yJx4a65c_size_8abf5.cls ≠ "java/lang/invoke/VarHandle" ∧ (parseMethodDescriptor yJx4a65c_size_8abf5.desc).map (fun d => d.parameters.length) = some 0 := by decide +kernel
theorem hde_X13_addblk_V_1 : yX13_refuse.cls = RX13 ∧ yX13_refuse.cls ≠ "java/lang/invoke/MethodHandle" ∧ yX13_refuse.cls ≠ "java/lang/invoke/VarHandle" ∧ (parseMethodDescriptor yX13_refuse.desc).map (fun d => d.parameters.length) = some 2 := by decide +kernel
theorem hde_X13_addblk_V_2 : yJx4a65c_add_9ea2d.cls = RJx4a65c ∧ yJx4a65c_add_9ea2d.cls ≠ "java/lang/invoke/MethodHandle" ∧ yJx4a65c_add_9ea2d.cls ≠ "java/lang/invoke/VarHandle" ∧ (parseMethodDescriptor yJx4a65c_add_9ea2d.desc).map (fun d => d.parameters.length) = some 1 := by decide +kernel
theorem hde_X13_addblk_V_3 : yX13_sentNow.cls = RX13 ∧ yX13_sentNow.cls ≠ "java/lang/invoke/MethodHandle" ∧ yX13_sentNow.cls ≠ "java/lang/invoke/VarHandle" ∧ (parseMethodDescriptor yX13_sentNow.desc).map (fun d => d.parameters.length) = some 0 := by decide +kernel
set_option maxHeartbeats 4000000 in
set_option maxRecDepth 100000 in
theorem e_X13_addblk (l : Launch) (D : va_G) (cy : Nat → ClassId) (ed : Nat) (S : pS) (sz : Nat) (mm : Nat) (st : Nat) (me : Nat) (sg : Nat) (cn : Nat) (im : Nat) (sr : Nat) (sa : Nat) (sb : Nat) (hL_mm : mm ∈ S.1) (hf_mm : S.2 mm = .inr (13, [.int (nI 0), .ref me, .ref sg, .ref cn, .ref im])) (hL_me : me ∈ S.1) (hf_me : S.2 me = .inl (cy 0, 0, .inl (fun _ => 0))) (hL_sg : sg ∈ S.1) (hf_sg : S.2 sg = .inr (0, [.int (nI 0), .ref ed, .int (nI 0)])) (hL_st : st ∈ S.1) (hf_st : S.2 st = .inr (12, [.int (nI 1), .int (nI sa), .int (nI sb), .ref sr])) (hsa1 : 1 ≤ sa) (hsa2 : sa < 2 ^ 31) : Met l yX13_add (Cond.code yX13_add cX13_add 3 (some .int) :: lwU) ({ frames := 7, cells := 5, slots := 23, locals := 151 }) (ePc D cy ed S sz [.ref mm, .ref st]) (pQi D cy S sz (fun r S' => ∃ (nl : List Nat), r = (nI 0) ∧ S'.1 = S.1 ++ nl ∧ (∀ a_, a_ ∈ S.1 → a_ ≠ sg → S'.2 a_ = S.2 a_))) 5 23 (pA S sz) := by
  refine Met.ofW (cc := cX13_add) (maxL := 3) (ret := (some .int)) (by decide) rfl ?_
  intro p e s m args below meth c s₁ B hml hv
  obtain ⟨rfl, rfl, C, hw, hA, hr, hlocks, hE⟩ := e_start B hml hv
  have hx := C.1
  have hb := C.2.1
  have hl := lv_entry ([.ref mm, .ref st]) (n := 3) (Nat.le_of_ble_eq_true rfl)
  rw [lg_entry_eq]
  generalize (lg_sl ([.ref mm, .ref st]) ++ List.replicate (3 - (lg_sl ([.ref mm, .ref st])).length) Slot.unset).toArray = ls at hl ⊢
  have hl : lv_has ls 3 [(0, .ref mm), (1, .ref st)] := hl
  have hin_RX13 : ∀ w ∈ u_ws RX13 TX13 5, w ∈ (Cond.code yX13_add cX13_add 3 (some .int) :: lwU) := fun w h => mU (sub_RX13 w h)
  refine lv_aload_n hx hb dX13_add_0 rfl (lv_at hl 0 rfl) ?_
  refine lv_aload_n hx hb dX13_add_1 rfl (lv_at hl 0 rfl) ?_
  refine p_get C hw (ci := 13) (Cn := RX13) (T := TX13) (N := 5) hL_mm hf_mm rfl hin_RX13 2 (by decide) (mU mw_90) rfl rfl dX13_add_2 ?_
  refine p_calli (va_runV (As := []) (rest := [.ref mm]) C.fix (e_Jx4a65c_size_8abf5 l D cy S s.heap.size sg ed 0 0 hL_sg hf_sg ) (cwV 0 C.2.2.2.2.1 (gU_V mw_464 mw_465 mw_466 mw_89 (subU mw_467)) rfl rfl rfl hde_X13_addblk_V_0 ⟨Nat.le_of_ble_eq_true rfl, Nat.le_of_ble_eq_true rfl⟩) (p_preV C hw hL_sg hf_sg rfl) rfl rfl hl.1 rfl (lv_room (Nat.le_of_ble_eq_true rfl)) dX13_add_5 ⟨(Nat.le_of_ble_eq_true rfl), (Nat.le_of_ble_eq_true rfl)⟩) hw hA (fun r2 S1 H locs hpost hw => ?_)
  obtain ⟨hr_, hS_⟩ := hpost
  subst hr_
  subst hS_
  refine lv_iconst (v := nI 4) hx hb dX13_add_8 (by decide) ?_
  refine n_icmp_ne (tgt := 16) hx hb (by first | decide | omega) (by first | decide | omega) dX13_add_9 (by decide) (fun h_9 => ?_) (fun h_9 => ?_)
  · skip
    refine lv_iconst (v := nI 0) hx hb dX13_add_16 (by decide) ?_
    refine lv_iconst (v := nI 2) hx hb dX13_add_17 (by decide) ?_
    refine p_calli (va_runV (As := [.int (nI 0), .int (nI 2)]) (rest := []) C.fix (e_X13_refuse0 l D cy S H.size mm me sg cn im 2 hL_mm hf_mm ) (cwV 2 C.2.2.2.2.1 (gU_V mw_402 mw_403 mw_404 mw_5 (subU mw_405)) rfl rfl rfl hde_X13_addblk_V_1 ⟨Nat.le_of_ble_eq_true rfl, Nat.le_of_ble_eq_true rfl⟩) (p_preV C hw hL_mm hf_mm rfl) rfl rfl hl.1 rfl (lv_room (Nat.le_of_ble_eq_true rfl)) dX13_add_18 ⟨(Nat.le_of_ble_eq_true rfl), (Nat.le_of_ble_eq_true rfl)⟩) hw hA (fun r4 S3 H locs hpost hw => ?_)
    obtain ⟨hr_, hS_⟩ := hpost
    subst hr_
    subst hS_
    refine n_if_eq (tgt := 26) hx hb (by first | decide | omega) dX13_add_21 (by decide) (fun h_21 => ?_) (fun h_21 => ?_)
    · skip
      refine lv_aload_n hx hb dX13_add_26 rfl (lv_at hl 0 rfl) ?_
      refine p_get C hw (ci := 13) (Cn := RX13) (T := TX13) (N := 5) hL_mm hf_mm rfl hin_RX13 2 (by decide) (mU mw_90) rfl rfl dX13_add_27 ?_
      refine lv_aload_n hx hb dX13_add_30 rfl (lv_at hl 1 rfl) ?_
      refine p_calli (va_runV (As := [.ref st]) (rest := []) C.fix (e_Jx4a65c_add_9ea2d1S l D cy ed S H.size sg st sr 1 sa sb hL_sg hf_sg hL_st hf_st ) (cwV 1 C.2.2.2.2.1 (gU_V mw_419 mw_420 mw_421 mw_89 (subU mw_422)) rfl rfl rfl hde_X13_addblk_V_2 ⟨Nat.le_of_ble_eq_true rfl, Nat.le_of_ble_eq_true rfl⟩) (e_preV C hw hA hE hL_sg hf_sg rfl) rfl rfl hl.1 rfl (lv_room (Nat.le_of_ble_eq_true rfl)) dX13_add_31 ⟨(Nat.le_of_ble_eq_true rfl), (Nat.le_of_ble_eq_true rfl)⟩) hw hA (fun r6 S5 H locs hpost hw => ?_)
      obtain ⟨se, hr_, hS7, hfr8, hf9, hf10⟩ := hpost
      subst hr_
      have hq11 : se ∉ S.1 := p_fresh hw hS7 0 rfl
      have hL12 : sg ∈ S5.1 := by rw [hS7]; exact List.mem_append_left _ hL_sg
      have hL13 : se ∈ S5.1 := by rw [hS7]; exact List.mem_append_right _ (List.mem_of_getElem? (i := 0) rfl)
      refine lv_pop hx hb dX13_add_34 rfl ?_
      refine lv_aload_n hx hb dX13_add_35 rfl (lv_at hl 0 rfl) ?_
      have hL14 : mm ∈ S5.1 := by rw [hS7]; exact List.mem_append_left _ hL_mm
      have hf15 : S5.2 mm = .inr (13, [.int (nI 0), .ref me, .ref sg, .ref cn, .ref im]) := (hfr8 mm hL_mm (ne_cells hf_mm hf_sg (by nofun))).trans hf_mm
      have hL16 : me ∈ S5.1 := by rw [hS7]; exact List.mem_append_left _ hL_me
      have hf17 : S5.2 me = .inl (cy 0, 0, .inl (fun _ => 0)) := (hfr8 me hL_me (ne_cells hf_me hf_sg (by nofun))).trans hf_me
      have hL18 : st ∈ S5.1 := by rw [hS7]; exact List.mem_append_left _ hL_st
      have hf19 : S5.2 st = .inr (12, [.int (nI 1), .int (nI sa), .int (nI sb), .ref sr]) := (hfr8 st hL_st (ne_cells hf_st hf_sg (by nofun))).trans hf_st
      refine p_callq (va_runV (As := []) (rest := []) C.fix (e_X13_sentNow1blk l D cy ed S5 H.size mm me sg cn im se st sr 0 sa sb 1 (va_up (fun _ => none) 0 (some st)) hL14 hf15 hL16 hf17 hL12 hf9 hL13 hf10 hL18 hf19 (by first | assumption | rfl | simp [va_up]) (by first | assumption | decide | omega) (by first | assumption | decide | omega)) (cwV 0 C.2.2.2.2.1 (gU_V mw_599 mw_600 mw_601 mw_5 (subU mw_602)) rfl rfl rfl hde_X13_addblk_V_3 ⟨Nat.le_of_ble_eq_true rfl, Nat.le_of_ble_eq_true rfl⟩) (e_preV C hw hA hE hL14 hf15 rfl) rfl rfl hl.1 rfl (lv_room (Nat.le_of_ble_eq_true rfl)) dX13_add_36 ⟨(Nat.le_of_ble_eq_true rfl), (Nat.le_of_ble_eq_true rfl)⟩) hw hA (fun r21 S20 H locs hpost hw => ?_)
      obtain ⟨rl22, ra23, fl24, w25, hr_, hS26, hfr27, hf28⟩ := hpost
      subst hr_
      have hnd29 := p_apart hw hS26
      have hq30 : rl22 ∉ S5.1 := p_fresh hw hS26 0 rfl
      have hq31 : ra23 ∉ S5.1 := p_fresh hw hS26 1 rfl
      have hq32 : fl24 ∉ S5.1 := p_fresh hw hS26 2 rfl
      have hq33 : w25 ∉ S5.1 := p_fresh hw hS26 3 rfl
      have hL34 : w25 ∈ S20.1 := by rw [hS26]; exact List.mem_append_right _ (List.mem_of_getElem? (i := 3) rfl)
      refine n_len C hw 0 rfl hL34 hf28 (n := 0) rfl dX13_add_39 ?_
      refine lv_istore_n (lv' := [(2, .int (nI 0)), (0, .ref mm), (1, .ref st)]) hx hb dX13_add_40 rfl hl (by decide) rfl (fun ls hl => ?_)
      refine lv_iload_n hx hb dX13_add_41 rfl (lv_at hl 0 rfl) ?_
      refine lv_sipush (v := nI 320) hx hb dX13_add_42 (by decide) ?_
      refine n_icmp_gt (tgt := 50) hx hb (by first | decide | omega) (by first | decide | omega) dX13_add_45 (by decide) (fun h_45 => ?_) (fun h_45 => ?_)
      · exact absurd h_45 (by first | decide | omega)
      · skip
        refine lv_iload_n hx hb dX13_add_48 rfl (lv_at hl 0 rfl) ?_
        exact (p_iret C hw (⟨([se] ++ [rl22, ra23, fl24, w25]), rfl, (by simp only [hS26, hS7, pup, pnew, List.append_nil, List.append_assoc, List.cons_append, List.nil_append]), (fun a_ ha_ hn_0 => ((hfr27 a_ (show a_ ∈ S5.1 from by rw [hS7]; exact List.mem_append_left _ ha_) ).trans (hfr8 a_ ha_ hn_0)))⟩) hr hlocks dX13_add_49)
    · exact absurd h_21 (by first | decide | omega)
  · exact absurd h_9 (by first | decide | omega)

theorem hde_X13_rows1chk_V_0 : yJx4a65c_add_9ea2d.cls = RJx4a65c ∧ yJx4a65c_add_9ea2d.cls ≠ "java/lang/invoke/MethodHandle" ∧ yJx4a65c_add_9ea2d.cls ≠ "java/lang/invoke/VarHandle" ∧ (parseMethodDescriptor yJx4a65c_add_9ea2d.desc).map (fun d => d.parameters.length) = some 1 := by decide +kernel
theorem hde_X13_rows1chk_V_1 : yJx4a65c_size_8abf5.cls = RJx4a65c ∧ yJx4a65c_size_8abf5.cls ≠ "java/lang/invoke/MethodHandle" ∧ yJx4a65c_size_8abf5.cls ≠ "java/lang/invoke/VarHandle" ∧ (parseMethodDescriptor yJx4a65c_size_8abf5.desc).map (fun d => d.parameters.length) = some 0 := by decide +kernel
theorem hde_X13_rows1chk_V_2 : yJx4a65c_get_915e3.cls = RJx4a65c ∧ yJx4a65c_get_915e3.cls ≠ "java/lang/invoke/MethodHandle" ∧ yJx4a65c_get_915e3.cls ≠ "java/lang/invoke/VarHandle" ∧ (parseMethodDescriptor yJx4a65c_get_915e3.desc).map (fun d => d.parameters.length) = some 1 := by decide +kernel
theorem hde_X13_rows1chk_V_3 : yX12_code.cls = RX12 ∧ yX12_code.cls ≠ "java/lang/invoke/MethodHandle" ∧ yX12_code.cls ≠ "java/lang/invoke/VarHandle" ∧ (parseMethodDescriptor yX12_code.desc).map (fun d => d.parameters.length) = some 1 := by decide +kernel
set_option maxHeartbeats 4000000 in
set_option maxRecDepth 100000 in
theorem e_X13_rows1chk (l : Launch) (D : va_G) (cy : Nat → ClassId) (ed : Nat) (S : pS) (sz : Nat) (mm : Nat) (bt : Nat) (me : Nat) (sg : Nat) (cn : Nat) (im : Nat) (se : Nat) (st : Nat) (sr : Nat) (t0 : Nat) (sa : Nat) (sb : Nat) (sm : Nat) (sq : Nat → Option Nat) (bg : Nat → Int32) (hL_mm : mm ∈ S.1) (hf_mm : S.2 mm = .inr (13, [.int (nI t0), .ref me, .ref sg, .ref cn, .ref im])) (hL_sg : sg ∈ S.1) (hf_sg : S.2 sg = .inr (0, [.int (nI sm), .ref se, .int (nI 1)])) (hL_se : se ∈ S.1) (hf_se : S.2 se = aQ (cy 4) 10 sq) (hL_st : st ∈ S.1) (hf_st : S.2 st = .inr (12, [.int (nI 2), .int (nI sa), .int (nI sb), .ref sr])) (hL_bt : bt ∈ S.1) (hf_bt : S.2 bt = .inl (cy 0, 0, .inl bg)) (hsq : sq 0 = some st) (hsa1 : 1 ≤ sa) (hsa2 : sa < 512) (hsb1 : 1 ≤ sb) (hsb2 : sb < 2 ^ 31) : Met l yX13_rows (Cond.code yX13_rows cX13_rows 4 (some (.object "java/util/ArrayList")) :: lwU) ({ frames := 5, cells := 4, slots := 13, locals := 108 }) (ePc D cy ed S sz [.ref mm, .ref bt]) (pQq D cy S sz (fun r S' => ∃ (rl : Nat) (ra : Nat) (fl : Nat) (w : Nat), r = some rl ∧ S'.1 = S.1 ++ [rl, ra, fl, w] ∧ (∀ a_, a_ ∈ S.1 → S'.2 a_ = S.2 a_) ∧ S'.2 rl = .inr (0, [.int (nI 2), .ref ra, .int (nI 2)]) ∧ S'.2 ra = aQ (cy 4) 10 (va_up (va_up (fun _ => none) 0 (some bt)) 1 (some w)) ∧ S'.2 w = .inl (cy 0, 0, .inl (fun _ => 0)))) 4 13 (pA S sz) := by
  refine Met.ofW (cc := cX13_rows) (maxL := 4) (ret := (some (.object "java/util/ArrayList"))) (by decide) rfl ?_
  intro p e s m args below meth c s₁ B hml hv
  obtain ⟨rfl, rfl, C, hw, hA, hr, hlocks, hE⟩ := e_start B hml hv
  have hx := C.1
  have hb := C.2.1
  have hl := lv_entry ([.ref mm, .ref bt]) (n := 4) (Nat.le_of_ble_eq_true rfl)
  rw [lg_entry_eq]
  generalize (lg_sl ([.ref mm, .ref bt]) ++ List.replicate (4 - (lg_sl ([.ref mm, .ref bt])).length) Slot.unset).toArray = ls at hl ⊢
  have hl : lv_has ls 4 [(0, .ref mm), (1, .ref bt)] := hl
  have hin_RJx4a65c : ∀ w ∈ u_ws RJx4a65c TJx4a65c 3, w ∈ (Cond.code yX13_rows cX13_rows 4 (some (.object "java/util/ArrayList")) :: lwU) := fun w h => mU (sub_RJx4a65c w h)
  have hin_RX13 : ∀ w ∈ u_ws RX13 TX13 5, w ∈ (Cond.code yX13_rows cX13_rows 4 (some (.object "java/util/ArrayList")) :: lwU) := fun w h => mU (sub_RX13 w h)
  refine p_new C hw hA (ci := 0) (Cn := RJx4a65c) (T := TJx4a65c) (N := 3) (fs := [.int (nI 0), .null, .int (nI 0)]) tyJx4a65c tyJx4a65c_ok rfl hin_RJx4a65c (mU mw_87) (mU mw_88) (mU mw_89) (fun j hj => by rcases (show j = 0 ∨ j = 1 ∨ j = 2 by omega) with rfl | rfl | rfl <;> rfl) (Nat.le_of_ble_eq_true rfl) (Nat.le_of_ble_eq_true rfl) dX13_rows_0 (fun rl H hq_rl hw => ?_)
  obtain ⟨S1, hS1⟩ : ∃ z, z = pnew S rl (.inr (0, [.int (nI 0), .null, .int (nI 0)])) := ⟨_, rfl⟩
  replace hw : pW D (pA S s.heap.size) s.heap S1 H [] := by rw [hS1]; exact hw
  have hL2 : rl ∈ S1.1 := by rw [hS1]; exact List.mem_append_right _ List.mem_cons_self
  have hf3 : S1.2 rl = .inr (0, [.int (nI 0), .null, .int (nI 0)]) := by rw [hS1]; exact pnew_s
  refine lv_dup hx hb dX13_rows_3 rfl ?_
  refine p_callv (va_runI (As := []) (rest := [.ref rl]) C.fix (e_Jx4a65c_init_da8c8 l D cy ed S1 H.size rl 0 0 hL2 hf3 ) (cwI 0 C.2.2.2.2.1 (gU_sub (subU mw_96)) rfl rfl rfl (C.2.2.2.2.1 (.initialized RJx4a65c) (mU mw_89)) (C.2.2.2.2.1 (.methodLink RX13 15 yJx4a65c_init_da8c8) (mU mw_94)) (C.2.2.2.2.1 (.instanceMethod yJx4a65c_init_da8c8) (mU mw_95)) rfl (by decide +kernel) ⟨Nat.le_of_ble_eq_true rfl, Nat.le_of_ble_eq_true rfl⟩) (e_preS C hw hA hE) rfl rfl hl.1 rfl (lv_room (Nat.le_of_ble_eq_true rfl)) dX13_rows_4 ⟨(Nat.le_of_ble_eq_true rfl), (Nat.le_of_ble_eq_true rfl)⟩) hw hA (fun S4 H locs hpost hw => ?_)
  obtain ⟨hS6, hfr7, hf8⟩ := hpost
  have hL9 : rl ∈ S4.1 := by rw [hS6]; exact List.mem_append_left _ hL2
  refine lv_astore_n (lv' := [(2, .ref rl), (0, .ref mm), (1, .ref bt)]) hx hb dX13_rows_7 rfl hl (by decide) rfl (fun ls hl => ?_)
  refine lv_aload_n hx hb dX13_rows_8 rfl (lv_at hl 0 rfl) ?_
  refine lv_aload_n hx hb dX13_rows_9 rfl (lv_at hl 2 rfl) ?_
  have hL10 : bt ∈ S1.1 := by rw [hS1]; exact List.mem_append_left _ hL_bt
  have hf11 : S1.2 bt = .inl (cy 0, 0, .inl bg) := by rw [hS1]; exact (pnew_n (fun z : bt = rl => hq_rl (by rw [← z]; exact hL_bt))).trans hf_bt
  have hL12 : bt ∈ S4.1 := by rw [hS6]; exact List.mem_append_left _ hL10
  have hf13 : S4.2 bt = .inl (cy 0, 0, .inl bg) := (hfr7 bt hL10 (fun z : bt = rl => hq_rl (by rw [← z]; exact hL_bt))).trans hf11
  refine p_calli (va_runV (As := [.ref bt]) (rest := []) C.fix (e_Jx4a65c_add_9ea2d1I l D cy ed S4 H.size rl bt 0 bg hL9 hf8 hL12 hf13 ) (cwV 1 C.2.2.2.2.1 (gU_V mw_419 mw_420 mw_421 mw_89 (subU mw_422)) rfl rfl rfl hde_X13_rows1chk_V_0 ⟨Nat.le_of_ble_eq_true rfl, Nat.le_of_ble_eq_true rfl⟩) (e_preV C hw hA hE hL9 hf8 rfl) rfl rfl hl.1 rfl (lv_room (Nat.le_of_ble_eq_true rfl)) dX13_rows_10 ⟨(Nat.le_of_ble_eq_true rfl), (Nat.le_of_ble_eq_true rfl)⟩) hw hA (fun r15 S14 H locs hpost hw => ?_)
  obtain ⟨ra, hr_, hS16, hfr17, hf18, hf19⟩ := hpost
  subst hr_
  have hq20 : ra ∉ S4.1 := p_fresh hw hS16 0 rfl
  have hL21 : rl ∈ S14.1 := by rw [hS16]; exact List.mem_append_left _ hL9
  have hL22 : ra ∈ S14.1 := by rw [hS16]; exact List.mem_append_right _ (List.mem_of_getElem? (i := 0) rfl)
  refine lv_pop hx hb dX13_rows_13 rfl ?_
  refine lv_iconst (v := nI 0) hx hb dX13_rows_14 (by decide) ?_
  refine lv_istore_n (lv' := [(3, .int (nI 0)), (2, .ref rl), (0, .ref mm), (1, .ref bt)]) hx hb dX13_rows_15 rfl hl (by decide) rfl (fun ls hl => ?_)
  refine lv_iload_n hx hb dX13_rows_16 rfl (lv_at hl 0 rfl) ?_
  refine lv_aload_n hx hb dX13_rows_17 rfl (lv_at hl 2 rfl) ?_
  have hL23 : mm ∈ S1.1 := by rw [hS1]; exact List.mem_append_left _ hL_mm
  have hf24 : S1.2 mm = .inr (13, [.int (nI t0), .ref me, .ref sg, .ref cn, .ref im]) := by rw [hS1]; exact (pnew_n (fun z : mm = rl => hq_rl (by rw [← z]; exact hL_mm))).trans hf_mm
  have hL25 : mm ∈ S4.1 := by rw [hS6]; exact List.mem_append_left _ hL23
  have hf26 : S4.2 mm = .inr (13, [.int (nI t0), .ref me, .ref sg, .ref cn, .ref im]) := (hfr7 mm hL23 (fun z : mm = rl => hq_rl (by rw [← z]; exact hL_mm))).trans hf24
  have hL27 : mm ∈ S14.1 := by rw [hS16]; exact List.mem_append_left _ hL25
  have hf28 : S14.2 mm = .inr (13, [.int (nI t0), .ref me, .ref sg, .ref cn, .ref im]) := (hfr17 mm hL25 (fun z : mm = rl => hq_rl (by rw [← z]; exact hL_mm))).trans hf26
  refine p_get C hw (ci := 13) (Cn := RX13) (T := TX13) (N := 5) hL27 hf28 rfl hin_RX13 2 (by decide) (mU mw_90) rfl rfl dX13_rows_18 ?_
  have hL29 : sg ∈ S1.1 := by rw [hS1]; exact List.mem_append_left _ hL_sg
  have hf30 : S1.2 sg = .inr (0, [.int (nI sm), .ref se, .int (nI 1)]) := by rw [hS1]; exact (pnew_n (fun z : sg = rl => hq_rl (by rw [← z]; exact hL_sg))).trans hf_sg
  have hL31 : sg ∈ S4.1 := by rw [hS6]; exact List.mem_append_left _ hL29
  have hf32 : S4.2 sg = .inr (0, [.int (nI sm), .ref se, .int (nI 1)]) := (hfr7 sg hL29 (fun z : sg = rl => hq_rl (by rw [← z]; exact hL_sg))).trans hf30
  have hL33 : sg ∈ S14.1 := by rw [hS16]; exact List.mem_append_left _ hL31
  have hf34 : S14.2 sg = .inr (0, [.int (nI sm), .ref se, .int (nI 1)]) := (hfr17 sg hL31 (fun z : sg = rl => hq_rl (by rw [← z]; exact hL_sg))).trans hf32
  refine p_calli (va_runV (As := []) (rest := [.int (nI 0)]) C.fix (e_Jx4a65c_size_8abf5 l D cy S14 H.size sg se sm 1 hL33 hf34 ) (cwV 0 C.2.2.2.2.1 (gU_V mw_464 mw_465 mw_466 mw_89 (subU mw_467)) rfl rfl rfl hde_X13_rows1chk_V_1 ⟨Nat.le_of_ble_eq_true rfl, Nat.le_of_ble_eq_true rfl⟩) (p_preV C hw hL33 hf34 rfl) rfl rfl hl.1 rfl (lv_room (Nat.le_of_ble_eq_true rfl)) dX13_rows_21 ⟨(Nat.le_of_ble_eq_true rfl), (Nat.le_of_ble_eq_true rfl)⟩) hw hA (fun r36 S35 H locs hpost hw => ?_)
  obtain ⟨hr_, hS_⟩ := hpost
  subst hr_
  subst hS_
  refine n_icmp_ge (tgt := 60) hx hb (by first | decide | omega) (by first | decide | omega) dX13_rows_24 (by decide) (fun h_24 => ?_) (fun h_24 => ?_)
  · exact absurd h_24 (by first | decide | omega)
  · skip
    refine lv_aload_n hx hb dX13_rows_27 rfl (lv_at hl 1 rfl) ?_
    refine lv_aload_n hx hb dX13_rows_28 rfl (lv_at hl 2 rfl) ?_
    refine p_get C hw (ci := 13) (Cn := RX13) (T := TX13) (N := 5) hL27 hf28 rfl hin_RX13 2 (by decide) (mU mw_90) rfl rfl dX13_rows_29 ?_
    refine lv_iload_n hx hb dX13_rows_32 rfl (lv_at hl 0 rfl) ?_
    have hL37 : se ∈ S1.1 := by rw [hS1]; exact List.mem_append_left _ hL_se
    have hf38 : S1.2 se = aQ (cy 4) 10 sq := by rw [hS1]; exact (pnew_n (fun z : se = rl => hq_rl (by rw [← z]; exact hL_se))).trans hf_se
    have hL39 : se ∈ S4.1 := by rw [hS6]; exact List.mem_append_left _ hL37
    have hf40 : S4.2 se = aQ (cy 4) 10 sq := (hfr7 se hL37 (fun z : se = rl => hq_rl (by rw [← z]; exact hL_se))).trans hf38
    have hL41 : se ∈ S14.1 := by rw [hS16]; exact List.mem_append_left _ hL39
    have hf42 : S14.2 se = aQ (cy 4) 10 sq := (hfr17 se hL39 (fun z : se = rl => hq_rl (by rw [← z]; exact hL_se))).trans hf40
    refine p_callq (va_runV (As := [.int (nI 0)]) (rest := [.ref rl]) C.fix (e_Jx4a65c_get_915e3 l D cy S14 H.size sg se sm 1 0 st sq hL33 hf34 hL41 hf42 (by first | assumption | decide | omega) (by first | assumption | decide | omega) (by first | assumption | rfl | simp [va_up])) (cwV 1 C.2.2.2.2.1 (gU_V mw_468 mw_469 mw_470 mw_89 (subU mw_471)) rfl rfl rfl hde_X13_rows1chk_V_2 ⟨Nat.le_of_ble_eq_true rfl, Nat.le_of_ble_eq_true rfl⟩) (p_preV C hw hL33 hf34 rfl) rfl rfl hl.1 rfl (lv_room (Nat.le_of_ble_eq_true rfl)) dX13_rows_33 ⟨(Nat.le_of_ble_eq_true rfl), (Nat.le_of_ble_eq_true rfl)⟩) hw hA (fun r44 S43 H locs hpost hw => ?_)
    obtain ⟨hr_, hS_⟩ := hpost
    subst hr_
    subst hS_
    have hL45 : st ∈ S1.1 := by rw [hS1]; exact List.mem_append_left _ hL_st
    have hf46 : S1.2 st = .inr (12, [.int (nI 2), .int (nI sa), .int (nI sb), .ref sr]) := by rw [hS1]; exact (pnew_n (fun z : st = rl => hq_rl (by rw [← z]; exact hL_st))).trans hf_st
    have hL47 : st ∈ S4.1 := by rw [hS6]; exact List.mem_append_left _ hL45
    have hf48 : S4.2 st = .inr (12, [.int (nI 2), .int (nI sa), .int (nI sb), .ref sr]) := (hfr7 st hL45 (fun z : st = rl => hq_rl (by rw [← z]; exact hL_st))).trans hf46
    have hL49 : st ∈ S14.1 := by rw [hS16]; exact List.mem_append_left _ hL47
    have hf50 : S14.2 st = .inr (12, [.int (nI 2), .int (nI sa), .int (nI sb), .ref sr]) := (hfr17 st hL47 (fun z : st = rl => hq_rl (by rw [← z]; exact hL_st))).trans hf48
    refine p_castS C hw hL49 hf50 rfl (C.2.2.2.2.1 _ (mU mw_418)) dX13_rows_36 ?_
    refine lv_aload_n hx hb dX13_rows_39 rfl (lv_at hl 1 rfl) ?_
    refine lv_iload_n hx hb dX13_rows_40 rfl (lv_at hl 0 rfl) ?_
    refine p_callq (va_runV (As := [.int (nI 0)]) (rest := [.ref st, .ref rl]) C.fix (e_Jx4a65c_get_915e3 l D cy S14 H.size rl ra 1 1 0 bt (va_up (fun _ => none) 0 (some bt)) hL21 hf18 hL22 hf19 (by first | assumption | decide | omega) (by first | assumption | decide | omega) (by first | assumption | rfl | simp [va_up])) (cwV 1 C.2.2.2.2.1 (gU_V mw_468 mw_469 mw_470 mw_89 (subU mw_471)) rfl rfl rfl hde_X13_rows1chk_V_2 ⟨Nat.le_of_ble_eq_true rfl, Nat.le_of_ble_eq_true rfl⟩) (p_preV C hw hL21 hf18 rfl) rfl rfl hl.1 rfl (lv_room (Nat.le_of_ble_eq_true rfl)) dX13_rows_41 ⟨(Nat.le_of_ble_eq_true rfl), (Nat.le_of_ble_eq_true rfl)⟩) hw hA (fun r52 S51 H locs hpost hw => ?_)
    obtain ⟨hr_, hS_⟩ := hpost
    subst hr_
    subst hS_
    have hL53 : bt ∈ S14.1 := by rw [hS16]; exact List.mem_append_left _ hL12
    have hf54 : S14.2 bt = .inl (cy 0, 0, .inl bg) := (hfr17 bt hL12 (fun z : bt = rl => hq_rl (by rw [← z]; exact hL_bt))).trans hf13
    refine p_castA C hw hL53 hf54 (C.2.2.2.2.1 _ (mU mw_413)) dX13_rows_44 ?_
    refine p_callq (va_runV (As := [.ref bt]) (rest := [.ref rl]) C.fix (e_X12_codechk l D cy S14 H.size st bt sr sa sb bg hL49 hf50 hL53 hf54 (by first | assumption | decide | omega) (by first | assumption | decide | omega) (by first | assumption | decide | omega) (by first | assumption | decide | omega)) (cwV 1 C.2.2.2.2.1 (gU_V mw_484 mw_485 mw_486 mw_407 (subU mw_487)) rfl rfl rfl hde_X13_rows1chk_V_3 ⟨Nat.le_of_ble_eq_true rfl, Nat.le_of_ble_eq_true rfl⟩) (p_preV C hw hL49 hf50 rfl) rfl rfl hl.1 rfl (lv_room (Nat.le_of_ble_eq_true rfl)) dX13_rows_47 ⟨(Nat.le_of_ble_eq_true rfl), (Nat.le_of_ble_eq_true rfl)⟩) hw hA (fun r56 S55 H locs hpost hw => ?_)
    obtain ⟨fl, w, hr_, hS57, hfr58, hf59⟩ := hpost
    subst hr_
    have hnd60 := p_apart hw hS57
    have hq61 : fl ∉ S14.1 := p_fresh hw hS57 0 rfl
    have hq62 : w ∉ S14.1 := p_fresh hw hS57 1 rfl
    have hL63 : w ∈ S55.1 := by rw [hS57]; exact List.mem_append_right _ (List.mem_of_getElem? (i := 1) rfl)
    have hL64 : rl ∈ S55.1 := by rw [hS57]; exact List.mem_append_left _ hL21
    have hf65 : S55.2 rl = .inr (0, [.int (nI 1), .ref ra, .int (nI 1)]) := (hfr58 rl hL21 ).trans hf18
    have hL66 : ra ∈ S55.1 := by rw [hS57]; exact List.mem_append_left _ hL22
    have hf67 : S55.2 ra = aQ (cy 4) 10 (va_up (fun _ => none) 0 (some bt)) := (hfr58 ra hL22 ).trans hf19
    refine p_calli (va_runV (As := [.ref w]) (rest := []) C.fix (e_Jx4a65c_add_9ea2d2I l D cy S55 H.size rl w ra (va_up (fun _ => none) 0 (some bt)) 0 (fun _ => 0) hL64 hf65 hL66 hf67 hL63 hf59 ) (cwV 1 C.2.2.2.2.1 (gU_V mw_419 mw_420 mw_421 mw_89 (subU mw_422)) rfl rfl rfl hde_X13_rows1chk_V_0 ⟨Nat.le_of_ble_eq_true rfl, Nat.le_of_ble_eq_true rfl⟩) (p_preV C hw hL64 hf65 rfl) rfl rfl hl.1 rfl (lv_room (Nat.le_of_ble_eq_true rfl)) dX13_rows_50 ⟨(Nat.le_of_ble_eq_true rfl), (Nat.le_of_ble_eq_true rfl)⟩) hw hA (fun r69 S68 H locs hpost hw => ?_)
    obtain ⟨hr_, hS70, hfr71, hf72, hf73⟩ := hpost
    subst hr_
    have hL74 : rl ∈ S68.1 := by rw [hS70]; exact List.mem_append_left _ hL64
    have hL75 : ra ∈ S68.1 := by rw [hS70]; exact List.mem_append_left _ hL66
    refine lv_pop hx hb dX13_rows_53 rfl ?_
    refine lv_iinc (v := (nI 1)) (lv' := [(3, .int (nI 1)), (2, .ref rl), (0, .ref mm), (1, .ref bt)]) hx hb dX13_rows_54 hl (k := 0) rfl (by decide) (by decide) rfl (fun ls hl => ?_)
    refine lv_goto (tgt := 16) hx hb dX13_rows_57 (by decide) ?_
    refine lv_iload_n hx hb dX13_rows_16 rfl (lv_at hl 0 rfl) ?_
    refine lv_aload_n hx hb dX13_rows_17 rfl (lv_at hl 2 rfl) ?_
    have hL76 : mm ∈ S55.1 := by rw [hS57]; exact List.mem_append_left _ hL27
    have hf77 : S55.2 mm = .inr (13, [.int (nI t0), .ref me, .ref sg, .ref cn, .ref im]) := (hfr58 mm hL27 ).trans hf28
    have hL78 : mm ∈ S68.1 := by rw [hS70]; exact List.mem_append_left _ hL76
    have hf79 : S68.2 mm = .inr (13, [.int (nI t0), .ref me, .ref sg, .ref cn, .ref im]) := (hfr71 mm hL76 (fun z : mm = rl => hq_rl (by rw [← z]; exact hL_mm)) (fun z : mm = ra => hq20 (by rw [← z]; exact hL25))).trans hf77
    refine p_get C hw (ci := 13) (Cn := RX13) (T := TX13) (N := 5) hL78 hf79 rfl hin_RX13 2 (by decide) (mU mw_90) rfl rfl dX13_rows_18 ?_
    have hL80 : sg ∈ S55.1 := by rw [hS57]; exact List.mem_append_left _ hL33
    have hf81 : S55.2 sg = .inr (0, [.int (nI sm), .ref se, .int (nI 1)]) := (hfr58 sg hL33 ).trans hf34
    have hL82 : sg ∈ S68.1 := by rw [hS70]; exact List.mem_append_left _ hL80
    have hf83 : S68.2 sg = .inr (0, [.int (nI sm), .ref se, .int (nI 1)]) := (hfr71 sg hL80 (fun z : sg = rl => hq_rl (by rw [← z]; exact hL_sg)) (fun z : sg = ra => hq20 (by rw [← z]; exact hL31))).trans hf81
    refine p_calli (va_runV (As := []) (rest := [.int (nI 1)]) C.fix (e_Jx4a65c_size_8abf5 l D cy S68 H.size sg se sm 1 hL82 hf83 ) (cwV 0 C.2.2.2.2.1 (gU_V mw_464 mw_465 mw_466 mw_89 (subU mw_467)) rfl rfl rfl hde_X13_rows1chk_V_1 ⟨Nat.le_of_ble_eq_true rfl, Nat.le_of_ble_eq_true rfl⟩) (p_preV C hw hL82 hf83 rfl) rfl rfl hl.1 rfl (lv_room (Nat.le_of_ble_eq_true rfl)) dX13_rows_21 ⟨(Nat.le_of_ble_eq_true rfl), (Nat.le_of_ble_eq_true rfl)⟩) hw hA (fun r85 S84 H locs hpost hw => ?_)
    obtain ⟨hr_, hS_⟩ := hpost
    subst hr_
    subst hS_
    refine n_icmp_ge (tgt := 60) hx hb (by first | decide | omega) (by first | decide | omega) dX13_rows_24 (by decide) (fun h_24 => ?_) (fun h_24 => ?_)
    · skip
      refine lv_aload_n hx hb dX13_rows_60 rfl (lv_at hl 1 rfl) ?_
      have hL86 : w ∈ S68.1 := by rw [hS70]; exact List.mem_append_left _ hL63
      have hf87 : S68.2 w = .inl (cy 0, 0, .inl (fun _ => 0)) := (hfr71 w hL63 (fun z : w = rl => hq62 (by rw [z]; exact hL21)) (fun z : w = ra => hq62 (by rw [z]; exact hL22))).trans hf59
      exact (p_qret C hw (v := some rl) (⟨rl, ra, fl, w, rfl, (by simp only [hS70, hS57, hS16, hS6, hS1, pup, pnew, List.append_nil, List.append_assoc, List.cons_append, List.nil_append]), (fun a_ ha_ => ((hfr71 a_ (show a_ ∈ S55.1 from by rw [hS57]; exact List.mem_append_left _ (show a_ ∈ S14.1 from by rw [hS16]; exact List.mem_append_left _ (show a_ ∈ S4.1 from by rw [hS6]; exact List.mem_append_left _ (show a_ ∈ S1.1 from by rw [hS1]; exact List.mem_append_left _ ha_)))) (fun z : a_ = rl => hq_rl (by rw [← z]; exact ha_)) (fun z : a_ = ra => hq20 (by rw [← z]; exact (show a_ ∈ S4.1 from by rw [hS6]; exact List.mem_append_left _ (show a_ ∈ S1.1 from by rw [hS1]; exact List.mem_append_left _ ha_))))).trans ((hfr58 a_ (show a_ ∈ S14.1 from by rw [hS16]; exact List.mem_append_left _ (show a_ ∈ S4.1 from by rw [hS6]; exact List.mem_append_left _ (show a_ ∈ S1.1 from by rw [hS1]; exact List.mem_append_left _ ha_))) ).trans ((hfr17 a_ (show a_ ∈ S4.1 from by rw [hS6]; exact List.mem_append_left _ (show a_ ∈ S1.1 from by rw [hS1]; exact List.mem_append_left _ ha_)) (fun z : a_ = rl => hq_rl (by rw [← z]; exact ha_))).trans ((hfr7 a_ (show a_ ∈ S1.1 from by rw [hS1]; exact List.mem_append_left _ ha_) (fun z : a_ = rl => hq_rl (by rw [← z]; exact ha_))).trans (show S1.2 a_ = S.2 a_ from by rw [hS1]; exact pnew_n (fun z : a_ = rl => hq_rl (by rw [← z]; exact ha_)))))))), hf72, hf73, hf87⟩) hr (by first | exact Or.inl ⟨_, rfl⟩ | exact Or.inr ⟨_, rfl⟩) hlocks dX13_rows_61)
    · exact absurd h_24 (by first | decide | omega)

theorem hde_X13_sentNow1chk_V_0 : yX13_rows.cls = RX13 ∧ yX13_rows.cls ≠ "java/lang/invoke/MethodHandle" ∧ yX13_rows.cls ≠ "java/lang/invoke/VarHandle" ∧ (parseMethodDescriptor yX13_rows.desc).map (fun d => d.parameters.length) = some 1 := by decide +kernel
theorem hde_X13_sentNow1chk_V_1 : yJx4a65c_size_8abf5.cls = RJx4a65c ∧ yJx4a65c_size_8abf5.cls ≠ "java/lang/invoke/MethodHandle" ∧ yJx4a65c_size_8abf5.cls ≠ "java/lang/invoke/VarHandle" ∧ (parseMethodDescriptor yJx4a65c_size_8abf5.desc).map (fun d => d.parameters.length) = some 0 := by decide +kernel
theorem hde_X13_sentNow1chk_V_2 : yJx4a65c_get_915e3.cls = RJx4a65c ∧ yJx4a65c_get_915e3.cls ≠ "java/lang/invoke/MethodHandle" ∧ yJx4a65c_get_915e3.cls ≠ "java/lang/invoke/VarHandle" ∧ (parseMethodDescriptor yJx4a65c_get_915e3.desc).map (fun d => d.parameters.length) = some 1 := by decide +kernel
set_option maxHeartbeats 4000000 in
set_option maxRecDepth 100000 in
theorem e_X13_sentNow1chk (l : Launch) (D : va_G) (cy : Nat → ClassId) (ed : Nat) (S : pS) (sz : Nat) (mm : Nat) (me : Nat) (sg : Nat) (cn : Nat) (im : Nat) (se : Nat) (st : Nat) (sr : Nat) (t0 : Nat) (sa : Nat) (sb : Nat) (sm : Nat) (sq : Nat → Option Nat) (hL_mm : mm ∈ S.1) (hf_mm : S.2 mm = .inr (13, [.int (nI t0), .ref me, .ref sg, .ref cn, .ref im])) (hL_me : me ∈ S.1) (hf_me : S.2 me = .inl (cy 0, 0, .inl (fun _ => 0))) (hL_sg : sg ∈ S.1) (hf_sg : S.2 sg = .inr (0, [.int (nI sm), .ref se, .int (nI 1)])) (hL_se : se ∈ S.1) (hf_se : S.2 se = aQ (cy 4) 10 sq) (hL_st : st ∈ S.1) (hf_st : S.2 st = .inr (12, [.int (nI 2), .int (nI sa), .int (nI sb), .ref sr])) (hsq : sq 0 = some st) (hsa1 : 1 ≤ sa) (hsa2 : sa < 512) (hsb1 : 1 ≤ sb) (hsb2 : sb < 2 ^ 31) : Met l yX13_sentNow (Cond.code yX13_sentNow cX13_sentNow 1 (some (.array .int)) :: lwU) ({ frames := 6, cells := 4, slots := 13, locals := 131 }) (ePc D cy ed S sz [.ref mm]) (pQq D cy S sz (fun r S' => ∃ (rl : Nat) (ra : Nat) (fl : Nat) (w : Nat), r = some w ∧ S'.1 = S.1 ++ [rl, ra, fl, w] ∧ (∀ a_, a_ ∈ S.1 → S'.2 a_ = S.2 a_) ∧ S'.2 w = .inl (cy 0, 0, .inl (fun _ => 0)))) 4 13 (pA S sz) := by
  refine Met.ofW (cc := cX13_sentNow) (maxL := 1) (ret := (some (.array .int))) (by decide) rfl ?_
  intro p e s m args below meth c s₁ B hml hv
  obtain ⟨rfl, rfl, C, hw, hA, hr, hlocks, hE⟩ := e_start B hml hv
  have hx := C.1
  have hb := C.2.1
  have hl := lv_entry ([.ref mm]) (n := 1) (Nat.le_of_ble_eq_true rfl)
  rw [lg_entry_eq]
  generalize (lg_sl ([.ref mm]) ++ List.replicate (1 - (lg_sl ([.ref mm])).length) Slot.unset).toArray = ls at hl ⊢
  have hl : lv_has ls 1 [(0, .ref mm)] := hl
  have hin_RX13 : ∀ w ∈ u_ws RX13 TX13 5, w ∈ (Cond.code yX13_sentNow cX13_sentNow 1 (some (.array .int)) :: lwU) := fun w h => mU (sub_RX13 w h)
  refine lv_aload_n hx hb dX13_sentNow_0 rfl (lv_at hl 0 rfl) ?_
  refine lv_aload_n hx hb dX13_sentNow_1 rfl (lv_at hl 0 rfl) ?_
  refine p_get C hw (ci := 13) (Cn := RX13) (T := TX13) (N := 5) hL_mm hf_mm rfl hin_RX13 1 (by decide) (mU mw_86) rfl rfl dX13_sentNow_2 ?_
  refine p_callq (va_runV (As := [.ref me]) (rest := []) C.fix (e_X13_rows1chk l D cy ed S s.heap.size mm me me sg cn im se st sr t0 sa sb sm sq (fun _ => 0) hL_mm hf_mm hL_sg hf_sg hL_se hf_se hL_st hf_st hL_me hf_me (by first | assumption | rfl | simp [va_up]) (by first | assumption | decide | omega) (by first | assumption | decide | omega) (by first | assumption | decide | omega) (by first | assumption | decide | omega)) (cwV 1 C.2.2.2.2.1 (gU_V mw_414 mw_415 mw_416 mw_5 (subU mw_417)) rfl rfl rfl hde_X13_sentNow1chk_V_0 ⟨Nat.le_of_ble_eq_true rfl, Nat.le_of_ble_eq_true rfl⟩) (e_preV C hw hA hE hL_mm hf_mm rfl) rfl rfl hl.1 rfl (lv_room (Nat.le_of_ble_eq_true rfl)) dX13_sentNow_5 ⟨(Nat.le_of_ble_eq_true rfl), (Nat.le_of_ble_eq_true rfl)⟩) hw hA (fun r2 S1 H locs hpost hw => ?_)
  obtain ⟨rl, ra, fl, w, hr_, hS3, hfr4, hf5, hf6, hf7⟩ := hpost
  subst hr_
  have hnd8 := p_apart hw hS3
  have hq9 : rl ∉ S.1 := p_fresh hw hS3 0 rfl
  have hq10 : ra ∉ S.1 := p_fresh hw hS3 1 rfl
  have hq11 : fl ∉ S.1 := p_fresh hw hS3 2 rfl
  have hq12 : w ∉ S.1 := p_fresh hw hS3 3 rfl
  have hL13 : rl ∈ S1.1 := by rw [hS3]; exact List.mem_append_right _ (List.mem_of_getElem? (i := 0) rfl)
  have hL14 : ra ∈ S1.1 := by rw [hS3]; exact List.mem_append_right _ (List.mem_of_getElem? (i := 1) rfl)
  have hL15 : w ∈ S1.1 := by rw [hS3]; exact List.mem_append_right _ (List.mem_of_getElem? (i := 3) rfl)
  refine lv_aload_n hx hb dX13_sentNow_8 rfl (lv_at hl 0 rfl) ?_
  have hL16 : mm ∈ S1.1 := by rw [hS3]; exact List.mem_append_left _ hL_mm
  have hf17 : S1.2 mm = .inr (13, [.int (nI t0), .ref me, .ref sg, .ref cn, .ref im]) := (hfr4 mm hL_mm ).trans hf_mm
  refine p_get C hw (ci := 13) (Cn := RX13) (T := TX13) (N := 5) hL16 hf17 rfl hin_RX13 2 (by decide) (mU mw_90) rfl rfl dX13_sentNow_9 ?_
  have hL18 : sg ∈ S1.1 := by rw [hS3]; exact List.mem_append_left _ hL_sg
  have hf19 : S1.2 sg = .inr (0, [.int (nI sm), .ref se, .int (nI 1)]) := (hfr4 sg hL_sg ).trans hf_sg
  refine p_calli (va_runV (As := []) (rest := [.ref rl]) C.fix (e_Jx4a65c_size_8abf5 l D cy S1 H.size sg se sm 1 hL18 hf19 ) (cwV 0 C.2.2.2.2.1 (gU_V mw_464 mw_465 mw_466 mw_89 (subU mw_467)) rfl rfl rfl hde_X13_sentNow1chk_V_1 ⟨Nat.le_of_ble_eq_true rfl, Nat.le_of_ble_eq_true rfl⟩) (p_preV C hw hL18 hf19 rfl) rfl rfl hl.1 rfl (lv_room (Nat.le_of_ble_eq_true rfl)) dX13_sentNow_12 ⟨(Nat.le_of_ble_eq_true rfl), (Nat.le_of_ble_eq_true rfl)⟩) hw hA (fun r21 S20 H locs hpost hw => ?_)
  obtain ⟨hr_, hS_⟩ := hpost
  subst hr_
  subst hS_
  refine p_callq (va_runV (As := [.int (nI 1)]) (rest := []) C.fix (e_Jx4a65c_get_915e3 l D cy S1 H.size rl ra 2 2 1 w (va_up (va_up (fun _ => none) 0 (some me)) 1 (some w)) hL13 hf5 hL14 hf6 (by first | assumption | decide | omega) (by first | assumption | decide | omega) (by first | assumption | rfl | simp [va_up])) (cwV 1 C.2.2.2.2.1 (gU_V mw_468 mw_469 mw_470 mw_89 (subU mw_471)) rfl rfl rfl hde_X13_sentNow1chk_V_2 ⟨Nat.le_of_ble_eq_true rfl, Nat.le_of_ble_eq_true rfl⟩) (p_preV C hw hL13 hf5 rfl) rfl rfl hl.1 rfl (lv_room (Nat.le_of_ble_eq_true rfl)) dX13_sentNow_15 ⟨(Nat.le_of_ble_eq_true rfl), (Nat.le_of_ble_eq_true rfl)⟩) hw hA (fun r23 S22 H locs hpost hw => ?_)
  obtain ⟨hr_, hS_⟩ := hpost
  subst hr_
  subst hS_
  refine p_castA C hw hL15 hf7 (C.2.2.2.2.1 _ (mU mw_413)) dX13_sentNow_18 ?_
  exact (p_qret C hw (v := some w) (⟨rl, ra, fl, w, rfl, (by simp only [hS3, pup, pnew, List.append_nil, List.append_assoc, List.cons_append, List.nil_append]), (fun a_ ha_ => (hfr4 a_ ha_ )), hf7⟩) hr (by first | exact Or.inl ⟨_, rfl⟩ | exact Or.inr ⟨_, rfl⟩) hlocks dX13_sentNow_21)

theorem hde_X13_addchk_V_0 : yJx4a65c_size_8abf5.cls = RJx4a65c ∧ yJx4a65c_size_8abf5.cls ≠ "java/lang/invoke/MethodHandle" ∧ yJx4a65c_size_8abf5.cls ≠ "java/lang/invoke/VarHandle" ∧ (parseMethodDescriptor yJx4a65c_size_8abf5.desc).map (fun d => d.parameters.length) = some 0 := by decide +kernel
theorem hde_X13_addchk_V_1 : yX13_refuse.cls = RX13 ∧ yX13_refuse.cls ≠ "java/lang/invoke/MethodHandle" ∧ yX13_refuse.cls ≠ "java/lang/invoke/VarHandle" ∧ (parseMethodDescriptor yX13_refuse.desc).map (fun d => d.parameters.length) = some 2 := by decide +kernel
theorem hde_X13_addchk_V_2 : yJx4a65c_add_9ea2d.cls = RJx4a65c ∧ yJx4a65c_add_9ea2d.cls ≠ "java/lang/invoke/MethodHandle" ∧ yJx4a65c_add_9ea2d.cls ≠ "java/lang/invoke/VarHandle" ∧ (parseMethodDescriptor yJx4a65c_add_9ea2d.desc).map (fun d => d.parameters.length) = some 1 := by decide +kernel
theorem hde_X13_addchk_V_3 : yX13_sentNow.cls = RX13 ∧ yX13_sentNow.cls ≠ "java/lang/invoke/MethodHandle" ∧ yX13_sentNow.cls ≠ "java/lang/invoke/VarHandle" ∧ (parseMethodDescriptor yX13_sentNow.desc).map (fun d => d.parameters.length) = some 0 := by decide +kernel
set_option maxHeartbeats 4000000 in
set_option maxRecDepth 100000 in
theorem e_X13_addchk (l : Launch) (D : va_G) (cy : Nat → ClassId) (ed : Nat) (S : pS) (sz : Nat) (mm : Nat) (st : Nat) (me : Nat) (sg : Nat) (cn : Nat) (im : Nat) (sr : Nat) (sa : Nat) (sb : Nat) (hL_mm : mm ∈ S.1) (hf_mm : S.2 mm = .inr (13, [.int (nI 0), .ref me, .ref sg, .ref cn, .ref im])) (hL_me : me ∈ S.1) (hf_me : S.2 me = .inl (cy 0, 0, .inl (fun _ => 0))) (hL_sg : sg ∈ S.1) (hf_sg : S.2 sg = .inr (0, [.int (nI 0), .ref ed, .int (nI 0)])) (hL_st : st ∈ S.1) (hf_st : S.2 st = .inr (12, [.int (nI 2), .int (nI sa), .int (nI sb), .ref sr])) (hsa1 : 1 ≤ sa) (hsa2 : sa < 512) (hsb1 : 1 ≤ sb) (hsb2 : sb < 2 ^ 31) : Met l yX13_add (Cond.code yX13_add cX13_add 3 (some .int) :: lwU) ({ frames := 7, cells := 5, slots := 23, locals := 151 }) (ePc D cy ed S sz [.ref mm, .ref st]) (pQi D cy S sz (fun r S' => ∃ (nl : List Nat), r = (nI 0) ∧ S'.1 = S.1 ++ nl ∧ (∀ a_, a_ ∈ S.1 → a_ ≠ sg → S'.2 a_ = S.2 a_))) 5 23 (pA S sz) := by
  refine Met.ofW (cc := cX13_add) (maxL := 3) (ret := (some .int)) (by decide) rfl ?_
  intro p e s m args below meth c s₁ B hml hv
  obtain ⟨rfl, rfl, C, hw, hA, hr, hlocks, hE⟩ := e_start B hml hv
  have hx := C.1
  have hb := C.2.1
  have hl := lv_entry ([.ref mm, .ref st]) (n := 3) (Nat.le_of_ble_eq_true rfl)
  rw [lg_entry_eq]
  generalize (lg_sl ([.ref mm, .ref st]) ++ List.replicate (3 - (lg_sl ([.ref mm, .ref st])).length) Slot.unset).toArray = ls at hl ⊢
  have hl : lv_has ls 3 [(0, .ref mm), (1, .ref st)] := hl
  have hin_RX13 : ∀ w ∈ u_ws RX13 TX13 5, w ∈ (Cond.code yX13_add cX13_add 3 (some .int) :: lwU) := fun w h => mU (sub_RX13 w h)
  refine lv_aload_n hx hb dX13_add_0 rfl (lv_at hl 0 rfl) ?_
  refine lv_aload_n hx hb dX13_add_1 rfl (lv_at hl 0 rfl) ?_
  refine p_get C hw (ci := 13) (Cn := RX13) (T := TX13) (N := 5) hL_mm hf_mm rfl hin_RX13 2 (by decide) (mU mw_90) rfl rfl dX13_add_2 ?_
  refine p_calli (va_runV (As := []) (rest := [.ref mm]) C.fix (e_Jx4a65c_size_8abf5 l D cy S s.heap.size sg ed 0 0 hL_sg hf_sg ) (cwV 0 C.2.2.2.2.1 (gU_V mw_464 mw_465 mw_466 mw_89 (subU mw_467)) rfl rfl rfl hde_X13_addchk_V_0 ⟨Nat.le_of_ble_eq_true rfl, Nat.le_of_ble_eq_true rfl⟩) (p_preV C hw hL_sg hf_sg rfl) rfl rfl hl.1 rfl (lv_room (Nat.le_of_ble_eq_true rfl)) dX13_add_5 ⟨(Nat.le_of_ble_eq_true rfl), (Nat.le_of_ble_eq_true rfl)⟩) hw hA (fun r2 S1 H locs hpost hw => ?_)
  obtain ⟨hr_, hS_⟩ := hpost
  subst hr_
  subst hS_
  refine lv_iconst (v := nI 4) hx hb dX13_add_8 (by decide) ?_
  refine n_icmp_ne (tgt := 16) hx hb (by first | decide | omega) (by first | decide | omega) dX13_add_9 (by decide) (fun h_9 => ?_) (fun h_9 => ?_)
  · skip
    refine lv_iconst (v := nI 0) hx hb dX13_add_16 (by decide) ?_
    refine lv_iconst (v := nI 2) hx hb dX13_add_17 (by decide) ?_
    refine p_calli (va_runV (As := [.int (nI 0), .int (nI 2)]) (rest := []) C.fix (e_X13_refuse0 l D cy S H.size mm me sg cn im 2 hL_mm hf_mm ) (cwV 2 C.2.2.2.2.1 (gU_V mw_402 mw_403 mw_404 mw_5 (subU mw_405)) rfl rfl rfl hde_X13_addchk_V_1 ⟨Nat.le_of_ble_eq_true rfl, Nat.le_of_ble_eq_true rfl⟩) (p_preV C hw hL_mm hf_mm rfl) rfl rfl hl.1 rfl (lv_room (Nat.le_of_ble_eq_true rfl)) dX13_add_18 ⟨(Nat.le_of_ble_eq_true rfl), (Nat.le_of_ble_eq_true rfl)⟩) hw hA (fun r4 S3 H locs hpost hw => ?_)
    obtain ⟨hr_, hS_⟩ := hpost
    subst hr_
    subst hS_
    refine n_if_eq (tgt := 26) hx hb (by first | decide | omega) dX13_add_21 (by decide) (fun h_21 => ?_) (fun h_21 => ?_)
    · skip
      refine lv_aload_n hx hb dX13_add_26 rfl (lv_at hl 0 rfl) ?_
      refine p_get C hw (ci := 13) (Cn := RX13) (T := TX13) (N := 5) hL_mm hf_mm rfl hin_RX13 2 (by decide) (mU mw_90) rfl rfl dX13_add_27 ?_
      refine lv_aload_n hx hb dX13_add_30 rfl (lv_at hl 1 rfl) ?_
      refine p_calli (va_runV (As := [.ref st]) (rest := []) C.fix (e_Jx4a65c_add_9ea2d1S l D cy ed S H.size sg st sr 2 sa sb hL_sg hf_sg hL_st hf_st ) (cwV 1 C.2.2.2.2.1 (gU_V mw_419 mw_420 mw_421 mw_89 (subU mw_422)) rfl rfl rfl hde_X13_addchk_V_2 ⟨Nat.le_of_ble_eq_true rfl, Nat.le_of_ble_eq_true rfl⟩) (e_preV C hw hA hE hL_sg hf_sg rfl) rfl rfl hl.1 rfl (lv_room (Nat.le_of_ble_eq_true rfl)) dX13_add_31 ⟨(Nat.le_of_ble_eq_true rfl), (Nat.le_of_ble_eq_true rfl)⟩) hw hA (fun r6 S5 H locs hpost hw => ?_)
      obtain ⟨se, hr_, hS7, hfr8, hf9, hf10⟩ := hpost
      subst hr_
      have hq11 : se ∉ S.1 := p_fresh hw hS7 0 rfl
      have hL12 : sg ∈ S5.1 := by rw [hS7]; exact List.mem_append_left _ hL_sg
      have hL13 : se ∈ S5.1 := by rw [hS7]; exact List.mem_append_right _ (List.mem_of_getElem? (i := 0) rfl)
      refine lv_pop hx hb dX13_add_34 rfl ?_
      refine lv_aload_n hx hb dX13_add_35 rfl (lv_at hl 0 rfl) ?_
      have hL14 : mm ∈ S5.1 := by rw [hS7]; exact List.mem_append_left _ hL_mm
      have hf15 : S5.2 mm = .inr (13, [.int (nI 0), .ref me, .ref sg, .ref cn, .ref im]) := (hfr8 mm hL_mm (ne_cells hf_mm hf_sg (by nofun))).trans hf_mm
      have hL16 : me ∈ S5.1 := by rw [hS7]; exact List.mem_append_left _ hL_me
      have hf17 : S5.2 me = .inl (cy 0, 0, .inl (fun _ => 0)) := (hfr8 me hL_me (ne_cells hf_me hf_sg (by nofun))).trans hf_me
      have hL18 : st ∈ S5.1 := by rw [hS7]; exact List.mem_append_left _ hL_st
      have hf19 : S5.2 st = .inr (12, [.int (nI 2), .int (nI sa), .int (nI sb), .ref sr]) := (hfr8 st hL_st (ne_cells hf_st hf_sg (by nofun))).trans hf_st
      refine p_callq (va_runV (As := []) (rest := []) C.fix (e_X13_sentNow1chk l D cy ed S5 H.size mm me sg cn im se st sr 0 sa sb 1 (va_up (fun _ => none) 0 (some st)) hL14 hf15 hL16 hf17 hL12 hf9 hL13 hf10 hL18 hf19 (by first | assumption | rfl | simp [va_up]) (by first | assumption | decide | omega) (by first | assumption | decide | omega) (by first | assumption | decide | omega) (by first | assumption | decide | omega)) (cwV 0 C.2.2.2.2.1 (gU_V mw_599 mw_600 mw_601 mw_5 (subU mw_602)) rfl rfl rfl hde_X13_addchk_V_3 ⟨Nat.le_of_ble_eq_true rfl, Nat.le_of_ble_eq_true rfl⟩) (e_preV C hw hA hE hL14 hf15 rfl) rfl rfl hl.1 rfl (lv_room (Nat.le_of_ble_eq_true rfl)) dX13_add_36 ⟨(Nat.le_of_ble_eq_true rfl), (Nat.le_of_ble_eq_true rfl)⟩) hw hA (fun r21 S20 H locs hpost hw => ?_)
      obtain ⟨rl22, ra23, fl24, w25, hr_, hS26, hfr27, hf28⟩ := hpost
      subst hr_
      have hnd29 := p_apart hw hS26
      have hq30 : rl22 ∉ S5.1 := p_fresh hw hS26 0 rfl
      have hq31 : ra23 ∉ S5.1 := p_fresh hw hS26 1 rfl
      have hq32 : fl24 ∉ S5.1 := p_fresh hw hS26 2 rfl
      have hq33 : w25 ∉ S5.1 := p_fresh hw hS26 3 rfl
      have hL34 : w25 ∈ S20.1 := by rw [hS26]; exact List.mem_append_right _ (List.mem_of_getElem? (i := 3) rfl)
      refine n_len C hw 0 rfl hL34 hf28 (n := 0) rfl dX13_add_39 ?_
      refine lv_istore_n (lv' := [(2, .int (nI 0)), (0, .ref mm), (1, .ref st)]) hx hb dX13_add_40 rfl hl (by decide) rfl (fun ls hl => ?_)
      refine lv_iload_n hx hb dX13_add_41 rfl (lv_at hl 0 rfl) ?_
      refine lv_sipush (v := nI 320) hx hb dX13_add_42 (by decide) ?_
      refine n_icmp_gt (tgt := 50) hx hb (by first | decide | omega) (by first | decide | omega) dX13_add_45 (by decide) (fun h_45 => ?_) (fun h_45 => ?_)
      · exact absurd h_45 (by first | decide | omega)
      · skip
        refine lv_iload_n hx hb dX13_add_48 rfl (lv_at hl 0 rfl) ?_
        exact (p_iret C hw (⟨([se] ++ [rl22, ra23, fl24, w25]), rfl, (by simp only [hS26, hS7, pup, pnew, List.append_nil, List.append_assoc, List.cons_append, List.nil_append]), (fun a_ ha_ hn_0 => ((hfr27 a_ (show a_ ∈ S5.1 from by rw [hS7]; exact List.mem_append_left _ ha_) ).trans (hfr8 a_ ha_ hn_0)))⟩) hr hlocks dX13_add_49)
    · exact absurd h_21 (by first | decide | omega)
  · exact absurd h_9 (by first | decide | omega)

theorem hde_X13_rows1trl_V_0 : yJx4a65c_add_9ea2d.cls = RJx4a65c ∧ yJx4a65c_add_9ea2d.cls ≠ "java/lang/invoke/MethodHandle" ∧ yJx4a65c_add_9ea2d.cls ≠ "java/lang/invoke/VarHandle" ∧ (parseMethodDescriptor yJx4a65c_add_9ea2d.desc).map (fun d => d.parameters.length) = some 1 := by decide +kernel
theorem hde_X13_rows1trl_V_1 : yJx4a65c_size_8abf5.cls = RJx4a65c ∧ yJx4a65c_size_8abf5.cls ≠ "java/lang/invoke/MethodHandle" ∧ yJx4a65c_size_8abf5.cls ≠ "java/lang/invoke/VarHandle" ∧ (parseMethodDescriptor yJx4a65c_size_8abf5.desc).map (fun d => d.parameters.length) = some 0 := by decide +kernel
theorem hde_X13_rows1trl_V_2 : yJx4a65c_get_915e3.cls = RJx4a65c ∧ yJx4a65c_get_915e3.cls ≠ "java/lang/invoke/MethodHandle" ∧ yJx4a65c_get_915e3.cls ≠ "java/lang/invoke/VarHandle" ∧ (parseMethodDescriptor yJx4a65c_get_915e3.desc).map (fun d => d.parameters.length) = some 1 := by decide +kernel
theorem hde_X13_rows1trl_V_3 : yX12_code.cls = RX12 ∧ yX12_code.cls ≠ "java/lang/invoke/MethodHandle" ∧ yX12_code.cls ≠ "java/lang/invoke/VarHandle" ∧ (parseMethodDescriptor yX12_code.desc).map (fun d => d.parameters.length) = some 1 := by decide +kernel
set_option maxHeartbeats 4000000 in
set_option maxRecDepth 100000 in
theorem e_X13_rows1trl (l : Launch) (D : va_G) (cy : Nat → ClassId) (ed : Nat) (S : pS) (sz : Nat) (mm : Nat) (bt : Nat) (me : Nat) (sg : Nat) (cn : Nat) (im : Nat) (se : Nat) (st : Nat) (sr : Nat) (t0 : Nat) (sa : Nat) (sb : Nat) (sm : Nat) (sq : Nat → Option Nat) (bg : Nat → Int32) (hL_mm : mm ∈ S.1) (hf_mm : S.2 mm = .inr (13, [.int (nI t0), .ref me, .ref sg, .ref cn, .ref im])) (hL_sg : sg ∈ S.1) (hf_sg : S.2 sg = .inr (0, [.int (nI sm), .ref se, .int (nI 1)])) (hL_se : se ∈ S.1) (hf_se : S.2 se = aQ (cy 4) 10 sq) (hL_st : st ∈ S.1) (hf_st : S.2 st = .inr (12, [.int (nI 3), .int (nI sa), .int (nI sb), .ref sr])) (hL_bt : bt ∈ S.1) (hf_bt : S.2 bt = .inl (cy 0, 0, .inl bg)) (hsq : sq 0 = some st) : Met l yX13_rows (Cond.code yX13_rows cX13_rows 4 (some (.object "java/util/ArrayList")) :: lwU) ({ frames := 5, cells := 2, slots := 13, locals := 108 }) (ePc D cy ed S sz [.ref mm, .ref bt]) (pQq D cy S sz (fun r S' => ∃ (rl : Nat) (ra : Nat), r = some rl ∧ S'.1 = S.1 ++ [rl, ra] ∧ (∀ a_, a_ ∈ S.1 → S'.2 a_ = S.2 a_) ∧ S'.2 rl = .inr (0, [.int (nI 2), .ref ra, .int (nI 2)]) ∧ S'.2 ra = aQ (cy 4) 10 (va_up (va_up (fun _ => none) 0 (some bt)) 1 (some bt)))) 2 13 (pA S sz) := by
  refine Met.ofW (cc := cX13_rows) (maxL := 4) (ret := (some (.object "java/util/ArrayList"))) (by decide) rfl ?_
  intro p e s m args below meth c s₁ B hml hv
  obtain ⟨rfl, rfl, C, hw, hA, hr, hlocks, hE⟩ := e_start B hml hv
  have hx := C.1
  have hb := C.2.1
  have hl := lv_entry ([.ref mm, .ref bt]) (n := 4) (Nat.le_of_ble_eq_true rfl)
  rw [lg_entry_eq]
  generalize (lg_sl ([.ref mm, .ref bt]) ++ List.replicate (4 - (lg_sl ([.ref mm, .ref bt])).length) Slot.unset).toArray = ls at hl ⊢
  have hl : lv_has ls 4 [(0, .ref mm), (1, .ref bt)] := hl
  have hin_RJx4a65c : ∀ w ∈ u_ws RJx4a65c TJx4a65c 3, w ∈ (Cond.code yX13_rows cX13_rows 4 (some (.object "java/util/ArrayList")) :: lwU) := fun w h => mU (sub_RJx4a65c w h)
  have hin_RX13 : ∀ w ∈ u_ws RX13 TX13 5, w ∈ (Cond.code yX13_rows cX13_rows 4 (some (.object "java/util/ArrayList")) :: lwU) := fun w h => mU (sub_RX13 w h)
  refine p_new C hw hA (ci := 0) (Cn := RJx4a65c) (T := TJx4a65c) (N := 3) (fs := [.int (nI 0), .null, .int (nI 0)]) tyJx4a65c tyJx4a65c_ok rfl hin_RJx4a65c (mU mw_87) (mU mw_88) (mU mw_89) (fun j hj => by rcases (show j = 0 ∨ j = 1 ∨ j = 2 by omega) with rfl | rfl | rfl <;> rfl) (Nat.le_of_ble_eq_true rfl) (Nat.le_of_ble_eq_true rfl) dX13_rows_0 (fun rl H hq_rl hw => ?_)
  obtain ⟨S1, hS1⟩ : ∃ z, z = pnew S rl (.inr (0, [.int (nI 0), .null, .int (nI 0)])) := ⟨_, rfl⟩
  replace hw : pW D (pA S s.heap.size) s.heap S1 H [] := by rw [hS1]; exact hw
  have hL2 : rl ∈ S1.1 := by rw [hS1]; exact List.mem_append_right _ List.mem_cons_self
  have hf3 : S1.2 rl = .inr (0, [.int (nI 0), .null, .int (nI 0)]) := by rw [hS1]; exact pnew_s
  refine lv_dup hx hb dX13_rows_3 rfl ?_
  refine p_callv (va_runI (As := []) (rest := [.ref rl]) C.fix (e_Jx4a65c_init_da8c8 l D cy ed S1 H.size rl 0 0 hL2 hf3 ) (cwI 0 C.2.2.2.2.1 (gU_sub (subU mw_96)) rfl rfl rfl (C.2.2.2.2.1 (.initialized RJx4a65c) (mU mw_89)) (C.2.2.2.2.1 (.methodLink RX13 15 yJx4a65c_init_da8c8) (mU mw_94)) (C.2.2.2.2.1 (.instanceMethod yJx4a65c_init_da8c8) (mU mw_95)) rfl (by decide +kernel) ⟨Nat.le_of_ble_eq_true rfl, Nat.le_of_ble_eq_true rfl⟩) (e_preS C hw hA hE) rfl rfl hl.1 rfl (lv_room (Nat.le_of_ble_eq_true rfl)) dX13_rows_4 ⟨(Nat.le_of_ble_eq_true rfl), (Nat.le_of_ble_eq_true rfl)⟩) hw hA (fun S4 H locs hpost hw => ?_)
  obtain ⟨hS6, hfr7, hf8⟩ := hpost
  have hL9 : rl ∈ S4.1 := by rw [hS6]; exact List.mem_append_left _ hL2
  refine lv_astore_n (lv' := [(2, .ref rl), (0, .ref mm), (1, .ref bt)]) hx hb dX13_rows_7 rfl hl (by decide) rfl (fun ls hl => ?_)
  refine lv_aload_n hx hb dX13_rows_8 rfl (lv_at hl 0 rfl) ?_
  refine lv_aload_n hx hb dX13_rows_9 rfl (lv_at hl 2 rfl) ?_
  have hL10 : bt ∈ S1.1 := by rw [hS1]; exact List.mem_append_left _ hL_bt
  have hf11 : S1.2 bt = .inl (cy 0, 0, .inl bg) := by rw [hS1]; exact (pnew_n (fun z : bt = rl => hq_rl (by rw [← z]; exact hL_bt))).trans hf_bt
  have hL12 : bt ∈ S4.1 := by rw [hS6]; exact List.mem_append_left _ hL10
  have hf13 : S4.2 bt = .inl (cy 0, 0, .inl bg) := (hfr7 bt hL10 (fun z : bt = rl => hq_rl (by rw [← z]; exact hL_bt))).trans hf11
  refine p_calli (va_runV (As := [.ref bt]) (rest := []) C.fix (e_Jx4a65c_add_9ea2d1I l D cy ed S4 H.size rl bt 0 bg hL9 hf8 hL12 hf13 ) (cwV 1 C.2.2.2.2.1 (gU_V mw_419 mw_420 mw_421 mw_89 (subU mw_422)) rfl rfl rfl hde_X13_rows1trl_V_0 ⟨Nat.le_of_ble_eq_true rfl, Nat.le_of_ble_eq_true rfl⟩) (e_preV C hw hA hE hL9 hf8 rfl) rfl rfl hl.1 rfl (lv_room (Nat.le_of_ble_eq_true rfl)) dX13_rows_10 ⟨(Nat.le_of_ble_eq_true rfl), (Nat.le_of_ble_eq_true rfl)⟩) hw hA (fun r15 S14 H locs hpost hw => ?_)
  obtain ⟨ra, hr_, hS16, hfr17, hf18, hf19⟩ := hpost
  subst hr_
  have hq20 : ra ∉ S4.1 := p_fresh hw hS16 0 rfl
  have hL21 : rl ∈ S14.1 := by rw [hS16]; exact List.mem_append_left _ hL9
  have hL22 : ra ∈ S14.1 := by rw [hS16]; exact List.mem_append_right _ (List.mem_of_getElem? (i := 0) rfl)
  refine lv_pop hx hb dX13_rows_13 rfl ?_
  refine lv_iconst (v := nI 0) hx hb dX13_rows_14 (by decide) ?_
  refine lv_istore_n (lv' := [(3, .int (nI 0)), (2, .ref rl), (0, .ref mm), (1, .ref bt)]) hx hb dX13_rows_15 rfl hl (by decide) rfl (fun ls hl => ?_)
  refine lv_iload_n hx hb dX13_rows_16 rfl (lv_at hl 0 rfl) ?_
  refine lv_aload_n hx hb dX13_rows_17 rfl (lv_at hl 2 rfl) ?_
  have hL23 : mm ∈ S1.1 := by rw [hS1]; exact List.mem_append_left _ hL_mm
  have hf24 : S1.2 mm = .inr (13, [.int (nI t0), .ref me, .ref sg, .ref cn, .ref im]) := by rw [hS1]; exact (pnew_n (fun z : mm = rl => hq_rl (by rw [← z]; exact hL_mm))).trans hf_mm
  have hL25 : mm ∈ S4.1 := by rw [hS6]; exact List.mem_append_left _ hL23
  have hf26 : S4.2 mm = .inr (13, [.int (nI t0), .ref me, .ref sg, .ref cn, .ref im]) := (hfr7 mm hL23 (fun z : mm = rl => hq_rl (by rw [← z]; exact hL_mm))).trans hf24
  have hL27 : mm ∈ S14.1 := by rw [hS16]; exact List.mem_append_left _ hL25
  have hf28 : S14.2 mm = .inr (13, [.int (nI t0), .ref me, .ref sg, .ref cn, .ref im]) := (hfr17 mm hL25 (fun z : mm = rl => hq_rl (by rw [← z]; exact hL_mm))).trans hf26
  refine p_get C hw (ci := 13) (Cn := RX13) (T := TX13) (N := 5) hL27 hf28 rfl hin_RX13 2 (by decide) (mU mw_90) rfl rfl dX13_rows_18 ?_
  have hL29 : sg ∈ S1.1 := by rw [hS1]; exact List.mem_append_left _ hL_sg
  have hf30 : S1.2 sg = .inr (0, [.int (nI sm), .ref se, .int (nI 1)]) := by rw [hS1]; exact (pnew_n (fun z : sg = rl => hq_rl (by rw [← z]; exact hL_sg))).trans hf_sg
  have hL31 : sg ∈ S4.1 := by rw [hS6]; exact List.mem_append_left _ hL29
  have hf32 : S4.2 sg = .inr (0, [.int (nI sm), .ref se, .int (nI 1)]) := (hfr7 sg hL29 (fun z : sg = rl => hq_rl (by rw [← z]; exact hL_sg))).trans hf30
  have hL33 : sg ∈ S14.1 := by rw [hS16]; exact List.mem_append_left _ hL31
  have hf34 : S14.2 sg = .inr (0, [.int (nI sm), .ref se, .int (nI 1)]) := (hfr17 sg hL31 (fun z : sg = rl => hq_rl (by rw [← z]; exact hL_sg))).trans hf32
  refine p_calli (va_runV (As := []) (rest := [.int (nI 0)]) C.fix (e_Jx4a65c_size_8abf5 l D cy S14 H.size sg se sm 1 hL33 hf34 ) (cwV 0 C.2.2.2.2.1 (gU_V mw_464 mw_465 mw_466 mw_89 (subU mw_467)) rfl rfl rfl hde_X13_rows1trl_V_1 ⟨Nat.le_of_ble_eq_true rfl, Nat.le_of_ble_eq_true rfl⟩) (p_preV C hw hL33 hf34 rfl) rfl rfl hl.1 rfl (lv_room (Nat.le_of_ble_eq_true rfl)) dX13_rows_21 ⟨(Nat.le_of_ble_eq_true rfl), (Nat.le_of_ble_eq_true rfl)⟩) hw hA (fun r36 S35 H locs hpost hw => ?_)
  obtain ⟨hr_, hS_⟩ := hpost
  subst hr_
  subst hS_
  refine n_icmp_ge (tgt := 60) hx hb (by first | decide | omega) (by first | decide | omega) dX13_rows_24 (by decide) (fun h_24 => ?_) (fun h_24 => ?_)
  · exact absurd h_24 (by first | decide | omega)
  · skip
    refine lv_aload_n hx hb dX13_rows_27 rfl (lv_at hl 1 rfl) ?_
    refine lv_aload_n hx hb dX13_rows_28 rfl (lv_at hl 2 rfl) ?_
    refine p_get C hw (ci := 13) (Cn := RX13) (T := TX13) (N := 5) hL27 hf28 rfl hin_RX13 2 (by decide) (mU mw_90) rfl rfl dX13_rows_29 ?_
    refine lv_iload_n hx hb dX13_rows_32 rfl (lv_at hl 0 rfl) ?_
    have hL37 : se ∈ S1.1 := by rw [hS1]; exact List.mem_append_left _ hL_se
    have hf38 : S1.2 se = aQ (cy 4) 10 sq := by rw [hS1]; exact (pnew_n (fun z : se = rl => hq_rl (by rw [← z]; exact hL_se))).trans hf_se
    have hL39 : se ∈ S4.1 := by rw [hS6]; exact List.mem_append_left _ hL37
    have hf40 : S4.2 se = aQ (cy 4) 10 sq := (hfr7 se hL37 (fun z : se = rl => hq_rl (by rw [← z]; exact hL_se))).trans hf38
    have hL41 : se ∈ S14.1 := by rw [hS16]; exact List.mem_append_left _ hL39
    have hf42 : S14.2 se = aQ (cy 4) 10 sq := (hfr17 se hL39 (fun z : se = rl => hq_rl (by rw [← z]; exact hL_se))).trans hf40
    refine p_callq (va_runV (As := [.int (nI 0)]) (rest := [.ref rl]) C.fix (e_Jx4a65c_get_915e3 l D cy S14 H.size sg se sm 1 0 st sq hL33 hf34 hL41 hf42 (by first | assumption | decide | omega) (by first | assumption | decide | omega) (by first | assumption | rfl | simp [va_up])) (cwV 1 C.2.2.2.2.1 (gU_V mw_468 mw_469 mw_470 mw_89 (subU mw_471)) rfl rfl rfl hde_X13_rows1trl_V_2 ⟨Nat.le_of_ble_eq_true rfl, Nat.le_of_ble_eq_true rfl⟩) (p_preV C hw hL33 hf34 rfl) rfl rfl hl.1 rfl (lv_room (Nat.le_of_ble_eq_true rfl)) dX13_rows_33 ⟨(Nat.le_of_ble_eq_true rfl), (Nat.le_of_ble_eq_true rfl)⟩) hw hA (fun r44 S43 H locs hpost hw => ?_)
    obtain ⟨hr_, hS_⟩ := hpost
    subst hr_
    subst hS_
    have hL45 : st ∈ S1.1 := by rw [hS1]; exact List.mem_append_left _ hL_st
    have hf46 : S1.2 st = .inr (12, [.int (nI 3), .int (nI sa), .int (nI sb), .ref sr]) := by rw [hS1]; exact (pnew_n (fun z : st = rl => hq_rl (by rw [← z]; exact hL_st))).trans hf_st
    have hL47 : st ∈ S4.1 := by rw [hS6]; exact List.mem_append_left _ hL45
    have hf48 : S4.2 st = .inr (12, [.int (nI 3), .int (nI sa), .int (nI sb), .ref sr]) := (hfr7 st hL45 (fun z : st = rl => hq_rl (by rw [← z]; exact hL_st))).trans hf46
    have hL49 : st ∈ S14.1 := by rw [hS16]; exact List.mem_append_left _ hL47
    have hf50 : S14.2 st = .inr (12, [.int (nI 3), .int (nI sa), .int (nI sb), .ref sr]) := (hfr17 st hL47 (fun z : st = rl => hq_rl (by rw [← z]; exact hL_st))).trans hf48
    refine p_castS C hw hL49 hf50 rfl (C.2.2.2.2.1 _ (mU mw_418)) dX13_rows_36 ?_
    refine lv_aload_n hx hb dX13_rows_39 rfl (lv_at hl 1 rfl) ?_
    refine lv_iload_n hx hb dX13_rows_40 rfl (lv_at hl 0 rfl) ?_
    refine p_callq (va_runV (As := [.int (nI 0)]) (rest := [.ref st, .ref rl]) C.fix (e_Jx4a65c_get_915e3 l D cy S14 H.size rl ra 1 1 0 bt (va_up (fun _ => none) 0 (some bt)) hL21 hf18 hL22 hf19 (by first | assumption | decide | omega) (by first | assumption | decide | omega) (by first | assumption | rfl | simp [va_up])) (cwV 1 C.2.2.2.2.1 (gU_V mw_468 mw_469 mw_470 mw_89 (subU mw_471)) rfl rfl rfl hde_X13_rows1trl_V_2 ⟨Nat.le_of_ble_eq_true rfl, Nat.le_of_ble_eq_true rfl⟩) (p_preV C hw hL21 hf18 rfl) rfl rfl hl.1 rfl (lv_room (Nat.le_of_ble_eq_true rfl)) dX13_rows_41 ⟨(Nat.le_of_ble_eq_true rfl), (Nat.le_of_ble_eq_true rfl)⟩) hw hA (fun r52 S51 H locs hpost hw => ?_)
    obtain ⟨hr_, hS_⟩ := hpost
    subst hr_
    subst hS_
    have hL53 : bt ∈ S14.1 := by rw [hS16]; exact List.mem_append_left _ hL12
    have hf54 : S14.2 bt = .inl (cy 0, 0, .inl bg) := (hfr17 bt hL12 (fun z : bt = rl => hq_rl (by rw [← z]; exact hL_bt))).trans hf13
    refine p_castA C hw hL53 hf54 (C.2.2.2.2.1 _ (mU mw_413)) dX13_rows_44 ?_
    refine p_callq (va_runV (As := [.ref bt]) (rest := [.ref rl]) C.fix (e_X12_codetrl l D cy S14 H.size st bt sr sa sb bg hL49 hf50 hL53 hf54 ) (cwV 1 C.2.2.2.2.1 (gU_V mw_484 mw_485 mw_486 mw_407 (subU mw_487)) rfl rfl rfl hde_X13_rows1trl_V_3 ⟨Nat.le_of_ble_eq_true rfl, Nat.le_of_ble_eq_true rfl⟩) (p_preV C hw hL49 hf50 rfl) rfl rfl hl.1 rfl (lv_room (Nat.le_of_ble_eq_true rfl)) dX13_rows_47 ⟨(Nat.le_of_ble_eq_true rfl), (Nat.le_of_ble_eq_true rfl)⟩) hw hA (fun r56 S55 H locs hpost hw => ?_)
    obtain ⟨hr_, hS_⟩ := hpost
    subst hr_
    subst hS_
    refine p_calli (va_runV (As := [.ref bt]) (rest := []) C.fix (e_Jx4a65c_add_9ea2d2I l D cy S14 H.size rl bt ra (va_up (fun _ => none) 0 (some bt)) 0 bg hL21 hf18 hL22 hf19 hL53 hf54 ) (cwV 1 C.2.2.2.2.1 (gU_V mw_419 mw_420 mw_421 mw_89 (subU mw_422)) rfl rfl rfl hde_X13_rows1trl_V_0 ⟨Nat.le_of_ble_eq_true rfl, Nat.le_of_ble_eq_true rfl⟩) (p_preV C hw hL21 hf18 rfl) rfl rfl hl.1 rfl (lv_room (Nat.le_of_ble_eq_true rfl)) dX13_rows_50 ⟨(Nat.le_of_ble_eq_true rfl), (Nat.le_of_ble_eq_true rfl)⟩) hw hA (fun r58 S57 H locs hpost hw => ?_)
    obtain ⟨hr_, hS59, hfr60, hf61, hf62⟩ := hpost
    subst hr_
    have hL63 : rl ∈ S57.1 := by rw [hS59]; exact List.mem_append_left _ hL21
    have hL64 : ra ∈ S57.1 := by rw [hS59]; exact List.mem_append_left _ hL22
    refine lv_pop hx hb dX13_rows_53 rfl ?_
    refine lv_iinc (v := (nI 1)) (lv' := [(3, .int (nI 1)), (2, .ref rl), (0, .ref mm), (1, .ref bt)]) hx hb dX13_rows_54 hl (k := 0) rfl (by decide) (by decide) rfl (fun ls hl => ?_)
    refine lv_goto (tgt := 16) hx hb dX13_rows_57 (by decide) ?_
    refine lv_iload_n hx hb dX13_rows_16 rfl (lv_at hl 0 rfl) ?_
    refine lv_aload_n hx hb dX13_rows_17 rfl (lv_at hl 2 rfl) ?_
    have hL65 : mm ∈ S57.1 := by rw [hS59]; exact List.mem_append_left _ hL27
    have hf66 : S57.2 mm = .inr (13, [.int (nI t0), .ref me, .ref sg, .ref cn, .ref im]) := (hfr60 mm hL27 (fun z : mm = rl => hq_rl (by rw [← z]; exact hL_mm)) (fun z : mm = ra => hq20 (by rw [← z]; exact hL25))).trans hf28
    refine p_get C hw (ci := 13) (Cn := RX13) (T := TX13) (N := 5) hL65 hf66 rfl hin_RX13 2 (by decide) (mU mw_90) rfl rfl dX13_rows_18 ?_
    have hL67 : sg ∈ S57.1 := by rw [hS59]; exact List.mem_append_left _ hL33
    have hf68 : S57.2 sg = .inr (0, [.int (nI sm), .ref se, .int (nI 1)]) := (hfr60 sg hL33 (fun z : sg = rl => hq_rl (by rw [← z]; exact hL_sg)) (fun z : sg = ra => hq20 (by rw [← z]; exact hL31))).trans hf34
    refine p_calli (va_runV (As := []) (rest := [.int (nI 1)]) C.fix (e_Jx4a65c_size_8abf5 l D cy S57 H.size sg se sm 1 hL67 hf68 ) (cwV 0 C.2.2.2.2.1 (gU_V mw_464 mw_465 mw_466 mw_89 (subU mw_467)) rfl rfl rfl hde_X13_rows1trl_V_1 ⟨Nat.le_of_ble_eq_true rfl, Nat.le_of_ble_eq_true rfl⟩) (p_preV C hw hL67 hf68 rfl) rfl rfl hl.1 rfl (lv_room (Nat.le_of_ble_eq_true rfl)) dX13_rows_21 ⟨(Nat.le_of_ble_eq_true rfl), (Nat.le_of_ble_eq_true rfl)⟩) hw hA (fun r70 S69 H locs hpost hw => ?_)
    obtain ⟨hr_, hS_⟩ := hpost
    subst hr_
    subst hS_
    refine n_icmp_ge (tgt := 60) hx hb (by first | decide | omega) (by first | decide | omega) dX13_rows_24 (by decide) (fun h_24 => ?_) (fun h_24 => ?_)
    · skip
      refine lv_aload_n hx hb dX13_rows_60 rfl (lv_at hl 1 rfl) ?_
      exact (p_qret C hw (v := some rl) (⟨rl, ra, rfl, (by simp only [hS59, hS16, hS6, hS1, pup, pnew, List.append_nil, List.append_assoc, List.cons_append, List.nil_append]), (fun a_ ha_ => ((hfr60 a_ (show a_ ∈ S14.1 from by rw [hS16]; exact List.mem_append_left _ (show a_ ∈ S4.1 from by rw [hS6]; exact List.mem_append_left _ (show a_ ∈ S1.1 from by rw [hS1]; exact List.mem_append_left _ ha_))) (fun z : a_ = rl => hq_rl (by rw [← z]; exact ha_)) (fun z : a_ = ra => hq20 (by rw [← z]; exact (show a_ ∈ S4.1 from by rw [hS6]; exact List.mem_append_left _ (show a_ ∈ S1.1 from by rw [hS1]; exact List.mem_append_left _ ha_))))).trans ((hfr17 a_ (show a_ ∈ S4.1 from by rw [hS6]; exact List.mem_append_left _ (show a_ ∈ S1.1 from by rw [hS1]; exact List.mem_append_left _ ha_)) (fun z : a_ = rl => hq_rl (by rw [← z]; exact ha_))).trans ((hfr7 a_ (show a_ ∈ S1.1 from by rw [hS1]; exact List.mem_append_left _ ha_) (fun z : a_ = rl => hq_rl (by rw [← z]; exact ha_))).trans (show S1.2 a_ = S.2 a_ from by rw [hS1]; exact pnew_n (fun z : a_ = rl => hq_rl (by rw [← z]; exact ha_))))))), hf61, hf62⟩) hr (by first | exact Or.inl ⟨_, rfl⟩ | exact Or.inr ⟨_, rfl⟩) hlocks dX13_rows_61)
    · exact absurd h_24 (by first | decide | omega)

theorem hde_X13_sentNow1trl_V_0 : yX13_rows.cls = RX13 ∧ yX13_rows.cls ≠ "java/lang/invoke/MethodHandle" ∧ yX13_rows.cls ≠ "java/lang/invoke/VarHandle" ∧ (parseMethodDescriptor yX13_rows.desc).map (fun d => d.parameters.length) = some 1 := by decide +kernel
theorem hde_X13_sentNow1trl_V_1 : yJx4a65c_size_8abf5.cls = RJx4a65c ∧ yJx4a65c_size_8abf5.cls ≠ "java/lang/invoke/MethodHandle" ∧ yJx4a65c_size_8abf5.cls ≠ "java/lang/invoke/VarHandle" ∧ (parseMethodDescriptor yJx4a65c_size_8abf5.desc).map (fun d => d.parameters.length) = some 0 := by decide +kernel
theorem hde_X13_sentNow1trl_V_2 : yJx4a65c_get_915e3.cls = RJx4a65c ∧ yJx4a65c_get_915e3.cls ≠ "java/lang/invoke/MethodHandle" ∧ yJx4a65c_get_915e3.cls ≠ "java/lang/invoke/VarHandle" ∧ (parseMethodDescriptor yJx4a65c_get_915e3.desc).map (fun d => d.parameters.length) = some 1 := by decide +kernel
set_option maxHeartbeats 4000000 in
set_option maxRecDepth 100000 in
theorem e_X13_sentNow1trl (l : Launch) (D : va_G) (cy : Nat → ClassId) (ed : Nat) (S : pS) (sz : Nat) (mm : Nat) (me : Nat) (sg : Nat) (cn : Nat) (im : Nat) (se : Nat) (st : Nat) (sr : Nat) (t0 : Nat) (sa : Nat) (sb : Nat) (sm : Nat) (sq : Nat → Option Nat) (hL_mm : mm ∈ S.1) (hf_mm : S.2 mm = .inr (13, [.int (nI t0), .ref me, .ref sg, .ref cn, .ref im])) (hL_me : me ∈ S.1) (hf_me : S.2 me = .inl (cy 0, 0, .inl (fun _ => 0))) (hL_sg : sg ∈ S.1) (hf_sg : S.2 sg = .inr (0, [.int (nI sm), .ref se, .int (nI 1)])) (hL_se : se ∈ S.1) (hf_se : S.2 se = aQ (cy 4) 10 sq) (hL_st : st ∈ S.1) (hf_st : S.2 st = .inr (12, [.int (nI 3), .int (nI sa), .int (nI sb), .ref sr])) (hsq : sq 0 = some st) : Met l yX13_sentNow (Cond.code yX13_sentNow cX13_sentNow 1 (some (.array .int)) :: lwU) ({ frames := 6, cells := 2, slots := 13, locals := 131 }) (ePc D cy ed S sz [.ref mm]) (pQq D cy S sz (fun r S' => ∃ (rl : Nat) (ra : Nat), r = some me ∧ S'.1 = S.1 ++ [rl, ra] ∧ (∀ a_, a_ ∈ S.1 → S'.2 a_ = S.2 a_))) 2 13 (pA S sz) := by
  refine Met.ofW (cc := cX13_sentNow) (maxL := 1) (ret := (some (.array .int))) (by decide) rfl ?_
  intro p e s m args below meth c s₁ B hml hv
  obtain ⟨rfl, rfl, C, hw, hA, hr, hlocks, hE⟩ := e_start B hml hv
  have hx := C.1
  have hb := C.2.1
  have hl := lv_entry ([.ref mm]) (n := 1) (Nat.le_of_ble_eq_true rfl)
  rw [lg_entry_eq]
  generalize (lg_sl ([.ref mm]) ++ List.replicate (1 - (lg_sl ([.ref mm])).length) Slot.unset).toArray = ls at hl ⊢
  have hl : lv_has ls 1 [(0, .ref mm)] := hl
  have hin_RX13 : ∀ w ∈ u_ws RX13 TX13 5, w ∈ (Cond.code yX13_sentNow cX13_sentNow 1 (some (.array .int)) :: lwU) := fun w h => mU (sub_RX13 w h)
  refine lv_aload_n hx hb dX13_sentNow_0 rfl (lv_at hl 0 rfl) ?_
  refine lv_aload_n hx hb dX13_sentNow_1 rfl (lv_at hl 0 rfl) ?_
  refine p_get C hw (ci := 13) (Cn := RX13) (T := TX13) (N := 5) hL_mm hf_mm rfl hin_RX13 1 (by decide) (mU mw_86) rfl rfl dX13_sentNow_2 ?_
  refine p_callq (va_runV (As := [.ref me]) (rest := []) C.fix (e_X13_rows1trl l D cy ed S s.heap.size mm me me sg cn im se st sr t0 sa sb sm sq (fun _ => 0) hL_mm hf_mm hL_sg hf_sg hL_se hf_se hL_st hf_st hL_me hf_me (by first | assumption | rfl | simp [va_up])) (cwV 1 C.2.2.2.2.1 (gU_V mw_414 mw_415 mw_416 mw_5 (subU mw_417)) rfl rfl rfl hde_X13_sentNow1trl_V_0 ⟨Nat.le_of_ble_eq_true rfl, Nat.le_of_ble_eq_true rfl⟩) (e_preV C hw hA hE hL_mm hf_mm rfl) rfl rfl hl.1 rfl (lv_room (Nat.le_of_ble_eq_true rfl)) dX13_sentNow_5 ⟨(Nat.le_of_ble_eq_true rfl), (Nat.le_of_ble_eq_true rfl)⟩) hw hA (fun r2 S1 H locs hpost hw => ?_)
  obtain ⟨rl, ra, hr_, hS3, hfr4, hf5, hf6⟩ := hpost
  subst hr_
  have hnd7 := p_apart hw hS3
  have hq8 : rl ∉ S.1 := p_fresh hw hS3 0 rfl
  have hq9 : ra ∉ S.1 := p_fresh hw hS3 1 rfl
  have hL10 : rl ∈ S1.1 := by rw [hS3]; exact List.mem_append_right _ (List.mem_of_getElem? (i := 0) rfl)
  have hL11 : ra ∈ S1.1 := by rw [hS3]; exact List.mem_append_right _ (List.mem_of_getElem? (i := 1) rfl)
  refine lv_aload_n hx hb dX13_sentNow_8 rfl (lv_at hl 0 rfl) ?_
  have hL12 : mm ∈ S1.1 := by rw [hS3]; exact List.mem_append_left _ hL_mm
  have hf13 : S1.2 mm = .inr (13, [.int (nI t0), .ref me, .ref sg, .ref cn, .ref im]) := (hfr4 mm hL_mm ).trans hf_mm
  refine p_get C hw (ci := 13) (Cn := RX13) (T := TX13) (N := 5) hL12 hf13 rfl hin_RX13 2 (by decide) (mU mw_90) rfl rfl dX13_sentNow_9 ?_
  have hL14 : sg ∈ S1.1 := by rw [hS3]; exact List.mem_append_left _ hL_sg
  have hf15 : S1.2 sg = .inr (0, [.int (nI sm), .ref se, .int (nI 1)]) := (hfr4 sg hL_sg ).trans hf_sg
  refine p_calli (va_runV (As := []) (rest := [.ref rl]) C.fix (e_Jx4a65c_size_8abf5 l D cy S1 H.size sg se sm 1 hL14 hf15 ) (cwV 0 C.2.2.2.2.1 (gU_V mw_464 mw_465 mw_466 mw_89 (subU mw_467)) rfl rfl rfl hde_X13_sentNow1trl_V_1 ⟨Nat.le_of_ble_eq_true rfl, Nat.le_of_ble_eq_true rfl⟩) (p_preV C hw hL14 hf15 rfl) rfl rfl hl.1 rfl (lv_room (Nat.le_of_ble_eq_true rfl)) dX13_sentNow_12 ⟨(Nat.le_of_ble_eq_true rfl), (Nat.le_of_ble_eq_true rfl)⟩) hw hA (fun r17 S16 H locs hpost hw => ?_)
  obtain ⟨hr_, hS_⟩ := hpost
  subst hr_
  subst hS_
  refine p_callq (va_runV (As := [.int (nI 1)]) (rest := []) C.fix (e_Jx4a65c_get_915e3 l D cy S1 H.size rl ra 2 2 1 me (va_up (va_up (fun _ => none) 0 (some me)) 1 (some me)) hL10 hf5 hL11 hf6 (by first | assumption | decide | omega) (by first | assumption | decide | omega) (by first | assumption | rfl | simp [va_up])) (cwV 1 C.2.2.2.2.1 (gU_V mw_468 mw_469 mw_470 mw_89 (subU mw_471)) rfl rfl rfl hde_X13_sentNow1trl_V_2 ⟨Nat.le_of_ble_eq_true rfl, Nat.le_of_ble_eq_true rfl⟩) (p_preV C hw hL10 hf5 rfl) rfl rfl hl.1 rfl (lv_room (Nat.le_of_ble_eq_true rfl)) dX13_sentNow_15 ⟨(Nat.le_of_ble_eq_true rfl), (Nat.le_of_ble_eq_true rfl)⟩) hw hA (fun r19 S18 H locs hpost hw => ?_)
  obtain ⟨hr_, hS_⟩ := hpost
  subst hr_
  subst hS_
  have hL20 : me ∈ S1.1 := by rw [hS3]; exact List.mem_append_left _ hL_me
  have hf21 : S1.2 me = .inl (cy 0, 0, .inl (fun _ => 0)) := (hfr4 me hL_me ).trans hf_me
  refine p_castA C hw hL20 hf21 (C.2.2.2.2.1 _ (mU mw_413)) dX13_sentNow_18 ?_
  exact (p_qret C hw (v := some me) (⟨rl, ra, rfl, (by simp only [hS3, pup, pnew, List.append_nil, List.append_assoc, List.cons_append, List.nil_append]), (fun a_ ha_ => (hfr4 a_ ha_ ))⟩) hr (by first | exact Or.inl ⟨_, rfl⟩ | exact Or.inr ⟨_, rfl⟩) hlocks dX13_sentNow_21)

theorem hde_X13_addtrl_V_0 : yJx4a65c_size_8abf5.cls = RJx4a65c ∧ yJx4a65c_size_8abf5.cls ≠ "java/lang/invoke/MethodHandle" ∧ yJx4a65c_size_8abf5.cls ≠ "java/lang/invoke/VarHandle" ∧ (parseMethodDescriptor yJx4a65c_size_8abf5.desc).map (fun d => d.parameters.length) = some 0 := by decide +kernel
theorem hde_X13_addtrl_V_1 : yX13_refuse.cls = RX13 ∧ yX13_refuse.cls ≠ "java/lang/invoke/MethodHandle" ∧ yX13_refuse.cls ≠ "java/lang/invoke/VarHandle" ∧ (parseMethodDescriptor yX13_refuse.desc).map (fun d => d.parameters.length) = some 2 := by decide +kernel
theorem hde_X13_addtrl_V_2 : yJx4a65c_add_9ea2d.cls = RJx4a65c ∧ yJx4a65c_add_9ea2d.cls ≠ "java/lang/invoke/MethodHandle" ∧ yJx4a65c_add_9ea2d.cls ≠ "java/lang/invoke/VarHandle" ∧ (parseMethodDescriptor yJx4a65c_add_9ea2d.desc).map (fun d => d.parameters.length) = some 1 := by decide +kernel
theorem hde_X13_addtrl_V_3 : yX13_sentNow.cls = RX13 ∧ yX13_sentNow.cls ≠ "java/lang/invoke/MethodHandle" ∧ yX13_sentNow.cls ≠ "java/lang/invoke/VarHandle" ∧ (parseMethodDescriptor yX13_sentNow.desc).map (fun d => d.parameters.length) = some 0 := by decide +kernel
set_option maxHeartbeats 4000000 in
set_option maxRecDepth 100000 in
theorem e_X13_addtrl (l : Launch) (D : va_G) (cy : Nat → ClassId) (ed : Nat) (S : pS) (sz : Nat) (mm : Nat) (st : Nat) (me : Nat) (sg : Nat) (cn : Nat) (im : Nat) (sr : Nat) (sa : Nat) (sb : Nat) (hL_mm : mm ∈ S.1) (hf_mm : S.2 mm = .inr (13, [.int (nI 0), .ref me, .ref sg, .ref cn, .ref im])) (hL_me : me ∈ S.1) (hf_me : S.2 me = .inl (cy 0, 0, .inl (fun _ => 0))) (hL_sg : sg ∈ S.1) (hf_sg : S.2 sg = .inr (0, [.int (nI 0), .ref ed, .int (nI 0)])) (hL_st : st ∈ S.1) (hf_st : S.2 st = .inr (12, [.int (nI 3), .int (nI sa), .int (nI sb), .ref sr]))  : Met l yX13_add (Cond.code yX13_add cX13_add 3 (some .int) :: lwU) ({ frames := 7, cells := 3, slots := 23, locals := 151 }) (ePc D cy ed S sz [.ref mm, .ref st]) (pQi D cy S sz (fun r S' => ∃ (nl : List Nat), r = (nI 0) ∧ S'.1 = S.1 ++ nl ∧ (∀ a_, a_ ∈ S.1 → a_ ≠ sg → S'.2 a_ = S.2 a_))) 3 23 (pA S sz) := by
  refine Met.ofW (cc := cX13_add) (maxL := 3) (ret := (some .int)) (by decide) rfl ?_
  intro p e s m args below meth c s₁ B hml hv
  obtain ⟨rfl, rfl, C, hw, hA, hr, hlocks, hE⟩ := e_start B hml hv
  have hx := C.1
  have hb := C.2.1
  have hl := lv_entry ([.ref mm, .ref st]) (n := 3) (Nat.le_of_ble_eq_true rfl)
  rw [lg_entry_eq]
  generalize (lg_sl ([.ref mm, .ref st]) ++ List.replicate (3 - (lg_sl ([.ref mm, .ref st])).length) Slot.unset).toArray = ls at hl ⊢
  have hl : lv_has ls 3 [(0, .ref mm), (1, .ref st)] := hl
  have hin_RX13 : ∀ w ∈ u_ws RX13 TX13 5, w ∈ (Cond.code yX13_add cX13_add 3 (some .int) :: lwU) := fun w h => mU (sub_RX13 w h)
  refine lv_aload_n hx hb dX13_add_0 rfl (lv_at hl 0 rfl) ?_
  refine lv_aload_n hx hb dX13_add_1 rfl (lv_at hl 0 rfl) ?_
  refine p_get C hw (ci := 13) (Cn := RX13) (T := TX13) (N := 5) hL_mm hf_mm rfl hin_RX13 2 (by decide) (mU mw_90) rfl rfl dX13_add_2 ?_
  refine p_calli (va_runV (As := []) (rest := [.ref mm]) C.fix (e_Jx4a65c_size_8abf5 l D cy S s.heap.size sg ed 0 0 hL_sg hf_sg ) (cwV 0 C.2.2.2.2.1 (gU_V mw_464 mw_465 mw_466 mw_89 (subU mw_467)) rfl rfl rfl hde_X13_addtrl_V_0 ⟨Nat.le_of_ble_eq_true rfl, Nat.le_of_ble_eq_true rfl⟩) (p_preV C hw hL_sg hf_sg rfl) rfl rfl hl.1 rfl (lv_room (Nat.le_of_ble_eq_true rfl)) dX13_add_5 ⟨(Nat.le_of_ble_eq_true rfl), (Nat.le_of_ble_eq_true rfl)⟩) hw hA (fun r2 S1 H locs hpost hw => ?_)
  obtain ⟨hr_, hS_⟩ := hpost
  subst hr_
  subst hS_
  refine lv_iconst (v := nI 4) hx hb dX13_add_8 (by decide) ?_
  refine n_icmp_ne (tgt := 16) hx hb (by first | decide | omega) (by first | decide | omega) dX13_add_9 (by decide) (fun h_9 => ?_) (fun h_9 => ?_)
  · skip
    refine lv_iconst (v := nI 0) hx hb dX13_add_16 (by decide) ?_
    refine lv_iconst (v := nI 2) hx hb dX13_add_17 (by decide) ?_
    refine p_calli (va_runV (As := [.int (nI 0), .int (nI 2)]) (rest := []) C.fix (e_X13_refuse0 l D cy S H.size mm me sg cn im 2 hL_mm hf_mm ) (cwV 2 C.2.2.2.2.1 (gU_V mw_402 mw_403 mw_404 mw_5 (subU mw_405)) rfl rfl rfl hde_X13_addtrl_V_1 ⟨Nat.le_of_ble_eq_true rfl, Nat.le_of_ble_eq_true rfl⟩) (p_preV C hw hL_mm hf_mm rfl) rfl rfl hl.1 rfl (lv_room (Nat.le_of_ble_eq_true rfl)) dX13_add_18 ⟨(Nat.le_of_ble_eq_true rfl), (Nat.le_of_ble_eq_true rfl)⟩) hw hA (fun r4 S3 H locs hpost hw => ?_)
    obtain ⟨hr_, hS_⟩ := hpost
    subst hr_
    subst hS_
    refine n_if_eq (tgt := 26) hx hb (by first | decide | omega) dX13_add_21 (by decide) (fun h_21 => ?_) (fun h_21 => ?_)
    · skip
      refine lv_aload_n hx hb dX13_add_26 rfl (lv_at hl 0 rfl) ?_
      refine p_get C hw (ci := 13) (Cn := RX13) (T := TX13) (N := 5) hL_mm hf_mm rfl hin_RX13 2 (by decide) (mU mw_90) rfl rfl dX13_add_27 ?_
      refine lv_aload_n hx hb dX13_add_30 rfl (lv_at hl 1 rfl) ?_
      refine p_calli (va_runV (As := [.ref st]) (rest := []) C.fix (e_Jx4a65c_add_9ea2d1S l D cy ed S H.size sg st sr 3 sa sb hL_sg hf_sg hL_st hf_st ) (cwV 1 C.2.2.2.2.1 (gU_V mw_419 mw_420 mw_421 mw_89 (subU mw_422)) rfl rfl rfl hde_X13_addtrl_V_2 ⟨Nat.le_of_ble_eq_true rfl, Nat.le_of_ble_eq_true rfl⟩) (e_preV C hw hA hE hL_sg hf_sg rfl) rfl rfl hl.1 rfl (lv_room (Nat.le_of_ble_eq_true rfl)) dX13_add_31 ⟨(Nat.le_of_ble_eq_true rfl), (Nat.le_of_ble_eq_true rfl)⟩) hw hA (fun r6 S5 H locs hpost hw => ?_)
      obtain ⟨se, hr_, hS7, hfr8, hf9, hf10⟩ := hpost
      subst hr_
      have hq11 : se ∉ S.1 := p_fresh hw hS7 0 rfl
      have hL12 : sg ∈ S5.1 := by rw [hS7]; exact List.mem_append_left _ hL_sg
      have hL13 : se ∈ S5.1 := by rw [hS7]; exact List.mem_append_right _ (List.mem_of_getElem? (i := 0) rfl)
      refine lv_pop hx hb dX13_add_34 rfl ?_
      refine lv_aload_n hx hb dX13_add_35 rfl (lv_at hl 0 rfl) ?_
      have hL14 : mm ∈ S5.1 := by rw [hS7]; exact List.mem_append_left _ hL_mm
      have hf15 : S5.2 mm = .inr (13, [.int (nI 0), .ref me, .ref sg, .ref cn, .ref im]) := (hfr8 mm hL_mm (ne_cells hf_mm hf_sg (by nofun))).trans hf_mm
      have hL16 : me ∈ S5.1 := by rw [hS7]; exact List.mem_append_left _ hL_me
      have hf17 : S5.2 me = .inl (cy 0, 0, .inl (fun _ => 0)) := (hfr8 me hL_me (ne_cells hf_me hf_sg (by nofun))).trans hf_me
      have hL18 : st ∈ S5.1 := by rw [hS7]; exact List.mem_append_left _ hL_st
      have hf19 : S5.2 st = .inr (12, [.int (nI 3), .int (nI sa), .int (nI sb), .ref sr]) := (hfr8 st hL_st (ne_cells hf_st hf_sg (by nofun))).trans hf_st
      refine p_callq (va_runV (As := []) (rest := []) C.fix (e_X13_sentNow1trl l D cy ed S5 H.size mm me sg cn im se st sr 0 sa sb 1 (va_up (fun _ => none) 0 (some st)) hL14 hf15 hL16 hf17 hL12 hf9 hL13 hf10 hL18 hf19 (by first | assumption | rfl | simp [va_up])) (cwV 0 C.2.2.2.2.1 (gU_V mw_599 mw_600 mw_601 mw_5 (subU mw_602)) rfl rfl rfl hde_X13_addtrl_V_3 ⟨Nat.le_of_ble_eq_true rfl, Nat.le_of_ble_eq_true rfl⟩) (e_preV C hw hA hE hL14 hf15 rfl) rfl rfl hl.1 rfl (lv_room (Nat.le_of_ble_eq_true rfl)) dX13_add_36 ⟨(Nat.le_of_ble_eq_true rfl), (Nat.le_of_ble_eq_true rfl)⟩) hw hA (fun r21 S20 H locs hpost hw => ?_)
      obtain ⟨rl22, ra23, hr_, hS24, hfr25⟩ := hpost
      subst hr_
      have hnd26 := p_apart hw hS24
      have hq27 : rl22 ∉ S5.1 := p_fresh hw hS24 0 rfl
      have hq28 : ra23 ∉ S5.1 := p_fresh hw hS24 1 rfl
      have hL29 : me ∈ S20.1 := by rw [hS24]; exact List.mem_append_left _ hL16
      have hf30 : S20.2 me = .inl (cy 0, 0, .inl (fun _ => 0)) := (hfr25 me hL16 ).trans hf17
      refine n_len C hw 0 rfl hL29 hf30 (n := 0) rfl dX13_add_39 ?_
      refine lv_istore_n (lv' := [(2, .int (nI 0)), (0, .ref mm), (1, .ref st)]) hx hb dX13_add_40 rfl hl (by decide) rfl (fun ls hl => ?_)
      refine lv_iload_n hx hb dX13_add_41 rfl (lv_at hl 0 rfl) ?_
      refine lv_sipush (v := nI 320) hx hb dX13_add_42 (by decide) ?_
      refine n_icmp_gt (tgt := 50) hx hb (by first | decide | omega) (by first | decide | omega) dX13_add_45 (by decide) (fun h_45 => ?_) (fun h_45 => ?_)
      · exact absurd h_45 (by first | decide | omega)
      · skip
        refine lv_iload_n hx hb dX13_add_48 rfl (lv_at hl 0 rfl) ?_
        exact (p_iret C hw (⟨([se] ++ [rl22, ra23]), rfl, (by simp only [hS24, hS7, pup, pnew, List.append_nil, List.append_assoc, List.cons_append, List.nil_append]), (fun a_ ha_ hn_0 => ((hfr25 a_ (show a_ ∈ S5.1 from by rw [hS7]; exact List.mem_append_left _ ha_) ).trans (hfr8 a_ ha_ hn_0)))⟩) hr hlocks dX13_add_49)
    · exact absurd h_21 (by first | decide | omega)
  · exact absurd h_9 (by first | decide | omega)

theorem hde_X13_rows1wev_V_0 : yJx4a65c_add_9ea2d.cls = RJx4a65c ∧ yJx4a65c_add_9ea2d.cls ≠ "java/lang/invoke/MethodHandle" ∧ yJx4a65c_add_9ea2d.cls ≠ "java/lang/invoke/VarHandle" ∧ (parseMethodDescriptor yJx4a65c_add_9ea2d.desc).map (fun d => d.parameters.length) = some 1 := by decide +kernel
theorem hde_X13_rows1wev_V_1 : yJx4a65c_size_8abf5.cls = RJx4a65c ∧ yJx4a65c_size_8abf5.cls ≠ "java/lang/invoke/MethodHandle" ∧ yJx4a65c_size_8abf5.cls ≠ "java/lang/invoke/VarHandle" ∧ (parseMethodDescriptor yJx4a65c_size_8abf5.desc).map (fun d => d.parameters.length) = some 0 := by decide +kernel
theorem hde_X13_rows1wev_V_2 : yJx4a65c_get_915e3.cls = RJx4a65c ∧ yJx4a65c_get_915e3.cls ≠ "java/lang/invoke/MethodHandle" ∧ yJx4a65c_get_915e3.cls ≠ "java/lang/invoke/VarHandle" ∧ (parseMethodDescriptor yJx4a65c_get_915e3.desc).map (fun d => d.parameters.length) = some 1 := by decide +kernel
theorem hde_X13_rows1wev_V_3 : yX12_code.cls = RX12 ∧ yX12_code.cls ≠ "java/lang/invoke/MethodHandle" ∧ yX12_code.cls ≠ "java/lang/invoke/VarHandle" ∧ (parseMethodDescriptor yX12_code.desc).map (fun d => d.parameters.length) = some 1 := by decide +kernel
set_option maxHeartbeats 4000000 in
set_option maxRecDepth 100000 in
theorem e_X13_rows1wev (l : Launch) (D : va_G) (cy : Nat → ClassId) (ed : Nat) (S : pS) (sz : Nat) (mm : Nat) (bt : Nat) (me : Nat) (sg : Nat) (cn : Nat) (im : Nat) (se : Nat) (st : Nat) (sr : Nat) (t0 : Nat) (sa : Nat) (sb : Nat) (sm : Nat) (sq : Nat → Option Nat) (bg : Nat → Int32) (hL_mm : mm ∈ S.1) (hf_mm : S.2 mm = .inr (13, [.int (nI t0), .ref me, .ref sg, .ref cn, .ref im])) (hL_sg : sg ∈ S.1) (hf_sg : S.2 sg = .inr (0, [.int (nI sm), .ref se, .int (nI 1)])) (hL_se : se ∈ S.1) (hf_se : S.2 se = aQ (cy 4) 10 sq) (hL_st : st ∈ S.1) (hf_st : S.2 st = .inr (12, [.int (nI 4), .int (nI sa), .int (nI sb), .ref sr])) (hL_bt : bt ∈ S.1) (hf_bt : S.2 bt = .inl (cy 0, 0, .inl bg)) (hsq : sq 0 = some st) (hs1 : 1 ≤ sa * sb) (hs2 : sa * sb < 2 ^ 31) : Met l yX13_rows (Cond.code yX13_rows cX13_rows 4 (some (.object "java/util/ArrayList")) :: lwU) ({ frames := 5, cells := 4, slots := 13, locals := 108 }) (ePc D cy ed S sz [.ref mm, .ref bt]) (pQq D cy S sz (fun r S' => ∃ (rl : Nat) (ra : Nat) (fl : Nat) (w : Nat), r = some rl ∧ S'.1 = S.1 ++ [rl, ra, fl, w] ∧ (∀ a_, a_ ∈ S.1 → S'.2 a_ = S.2 a_) ∧ S'.2 rl = .inr (0, [.int (nI 2), .ref ra, .int (nI 2)]) ∧ S'.2 ra = aQ (cy 4) 10 (va_up (va_up (fun _ => none) 0 (some bt)) 1 (some w)) ∧ S'.2 w = .inl (cy 0, 0, .inl (fun _ => 0)))) 4 13 (pA S sz) := by
  refine Met.ofW (cc := cX13_rows) (maxL := 4) (ret := (some (.object "java/util/ArrayList"))) (by decide) rfl ?_
  intro p e s m args below meth c s₁ B hml hv
  obtain ⟨rfl, rfl, C, hw, hA, hr, hlocks, hE⟩ := e_start B hml hv
  have hx := C.1
  have hb := C.2.1
  have hl := lv_entry ([.ref mm, .ref bt]) (n := 4) (Nat.le_of_ble_eq_true rfl)
  rw [lg_entry_eq]
  generalize (lg_sl ([.ref mm, .ref bt]) ++ List.replicate (4 - (lg_sl ([.ref mm, .ref bt])).length) Slot.unset).toArray = ls at hl ⊢
  have hl : lv_has ls 4 [(0, .ref mm), (1, .ref bt)] := hl
  have hin_RJx4a65c : ∀ w ∈ u_ws RJx4a65c TJx4a65c 3, w ∈ (Cond.code yX13_rows cX13_rows 4 (some (.object "java/util/ArrayList")) :: lwU) := fun w h => mU (sub_RJx4a65c w h)
  have hin_RX13 : ∀ w ∈ u_ws RX13 TX13 5, w ∈ (Cond.code yX13_rows cX13_rows 4 (some (.object "java/util/ArrayList")) :: lwU) := fun w h => mU (sub_RX13 w h)
  refine p_new C hw hA (ci := 0) (Cn := RJx4a65c) (T := TJx4a65c) (N := 3) (fs := [.int (nI 0), .null, .int (nI 0)]) tyJx4a65c tyJx4a65c_ok rfl hin_RJx4a65c (mU mw_87) (mU mw_88) (mU mw_89) (fun j hj => by rcases (show j = 0 ∨ j = 1 ∨ j = 2 by omega) with rfl | rfl | rfl <;> rfl) (Nat.le_of_ble_eq_true rfl) (Nat.le_of_ble_eq_true rfl) dX13_rows_0 (fun rl H hq_rl hw => ?_)
  obtain ⟨S1, hS1⟩ : ∃ z, z = pnew S rl (.inr (0, [.int (nI 0), .null, .int (nI 0)])) := ⟨_, rfl⟩
  replace hw : pW D (pA S s.heap.size) s.heap S1 H [] := by rw [hS1]; exact hw
  have hL2 : rl ∈ S1.1 := by rw [hS1]; exact List.mem_append_right _ List.mem_cons_self
  have hf3 : S1.2 rl = .inr (0, [.int (nI 0), .null, .int (nI 0)]) := by rw [hS1]; exact pnew_s
  refine lv_dup hx hb dX13_rows_3 rfl ?_
  refine p_callv (va_runI (As := []) (rest := [.ref rl]) C.fix (e_Jx4a65c_init_da8c8 l D cy ed S1 H.size rl 0 0 hL2 hf3 ) (cwI 0 C.2.2.2.2.1 (gU_sub (subU mw_96)) rfl rfl rfl (C.2.2.2.2.1 (.initialized RJx4a65c) (mU mw_89)) (C.2.2.2.2.1 (.methodLink RX13 15 yJx4a65c_init_da8c8) (mU mw_94)) (C.2.2.2.2.1 (.instanceMethod yJx4a65c_init_da8c8) (mU mw_95)) rfl (by decide +kernel) ⟨Nat.le_of_ble_eq_true rfl, Nat.le_of_ble_eq_true rfl⟩) (e_preS C hw hA hE) rfl rfl hl.1 rfl (lv_room (Nat.le_of_ble_eq_true rfl)) dX13_rows_4 ⟨(Nat.le_of_ble_eq_true rfl), (Nat.le_of_ble_eq_true rfl)⟩) hw hA (fun S4 H locs hpost hw => ?_)
  obtain ⟨hS6, hfr7, hf8⟩ := hpost
  have hL9 : rl ∈ S4.1 := by rw [hS6]; exact List.mem_append_left _ hL2
  refine lv_astore_n (lv' := [(2, .ref rl), (0, .ref mm), (1, .ref bt)]) hx hb dX13_rows_7 rfl hl (by decide) rfl (fun ls hl => ?_)
  refine lv_aload_n hx hb dX13_rows_8 rfl (lv_at hl 0 rfl) ?_
  refine lv_aload_n hx hb dX13_rows_9 rfl (lv_at hl 2 rfl) ?_
  have hL10 : bt ∈ S1.1 := by rw [hS1]; exact List.mem_append_left _ hL_bt
  have hf11 : S1.2 bt = .inl (cy 0, 0, .inl bg) := by rw [hS1]; exact (pnew_n (fun z : bt = rl => hq_rl (by rw [← z]; exact hL_bt))).trans hf_bt
  have hL12 : bt ∈ S4.1 := by rw [hS6]; exact List.mem_append_left _ hL10
  have hf13 : S4.2 bt = .inl (cy 0, 0, .inl bg) := (hfr7 bt hL10 (fun z : bt = rl => hq_rl (by rw [← z]; exact hL_bt))).trans hf11
  refine p_calli (va_runV (As := [.ref bt]) (rest := []) C.fix (e_Jx4a65c_add_9ea2d1I l D cy ed S4 H.size rl bt 0 bg hL9 hf8 hL12 hf13 ) (cwV 1 C.2.2.2.2.1 (gU_V mw_419 mw_420 mw_421 mw_89 (subU mw_422)) rfl rfl rfl hde_X13_rows1wev_V_0 ⟨Nat.le_of_ble_eq_true rfl, Nat.le_of_ble_eq_true rfl⟩) (e_preV C hw hA hE hL9 hf8 rfl) rfl rfl hl.1 rfl (lv_room (Nat.le_of_ble_eq_true rfl)) dX13_rows_10 ⟨(Nat.le_of_ble_eq_true rfl), (Nat.le_of_ble_eq_true rfl)⟩) hw hA (fun r15 S14 H locs hpost hw => ?_)
  obtain ⟨ra, hr_, hS16, hfr17, hf18, hf19⟩ := hpost
  subst hr_
  have hq20 : ra ∉ S4.1 := p_fresh hw hS16 0 rfl
  have hL21 : rl ∈ S14.1 := by rw [hS16]; exact List.mem_append_left _ hL9
  have hL22 : ra ∈ S14.1 := by rw [hS16]; exact List.mem_append_right _ (List.mem_of_getElem? (i := 0) rfl)
  refine lv_pop hx hb dX13_rows_13 rfl ?_
  refine lv_iconst (v := nI 0) hx hb dX13_rows_14 (by decide) ?_
  refine lv_istore_n (lv' := [(3, .int (nI 0)), (2, .ref rl), (0, .ref mm), (1, .ref bt)]) hx hb dX13_rows_15 rfl hl (by decide) rfl (fun ls hl => ?_)
  refine lv_iload_n hx hb dX13_rows_16 rfl (lv_at hl 0 rfl) ?_
  refine lv_aload_n hx hb dX13_rows_17 rfl (lv_at hl 2 rfl) ?_
  have hL23 : mm ∈ S1.1 := by rw [hS1]; exact List.mem_append_left _ hL_mm
  have hf24 : S1.2 mm = .inr (13, [.int (nI t0), .ref me, .ref sg, .ref cn, .ref im]) := by rw [hS1]; exact (pnew_n (fun z : mm = rl => hq_rl (by rw [← z]; exact hL_mm))).trans hf_mm
  have hL25 : mm ∈ S4.1 := by rw [hS6]; exact List.mem_append_left _ hL23
  have hf26 : S4.2 mm = .inr (13, [.int (nI t0), .ref me, .ref sg, .ref cn, .ref im]) := (hfr7 mm hL23 (fun z : mm = rl => hq_rl (by rw [← z]; exact hL_mm))).trans hf24
  have hL27 : mm ∈ S14.1 := by rw [hS16]; exact List.mem_append_left _ hL25
  have hf28 : S14.2 mm = .inr (13, [.int (nI t0), .ref me, .ref sg, .ref cn, .ref im]) := (hfr17 mm hL25 (fun z : mm = rl => hq_rl (by rw [← z]; exact hL_mm))).trans hf26
  refine p_get C hw (ci := 13) (Cn := RX13) (T := TX13) (N := 5) hL27 hf28 rfl hin_RX13 2 (by decide) (mU mw_90) rfl rfl dX13_rows_18 ?_
  have hL29 : sg ∈ S1.1 := by rw [hS1]; exact List.mem_append_left _ hL_sg
  have hf30 : S1.2 sg = .inr (0, [.int (nI sm), .ref se, .int (nI 1)]) := by rw [hS1]; exact (pnew_n (fun z : sg = rl => hq_rl (by rw [← z]; exact hL_sg))).trans hf_sg
  have hL31 : sg ∈ S4.1 := by rw [hS6]; exact List.mem_append_left _ hL29
  have hf32 : S4.2 sg = .inr (0, [.int (nI sm), .ref se, .int (nI 1)]) := (hfr7 sg hL29 (fun z : sg = rl => hq_rl (by rw [← z]; exact hL_sg))).trans hf30
  have hL33 : sg ∈ S14.1 := by rw [hS16]; exact List.mem_append_left _ hL31
  have hf34 : S14.2 sg = .inr (0, [.int (nI sm), .ref se, .int (nI 1)]) := (hfr17 sg hL31 (fun z : sg = rl => hq_rl (by rw [← z]; exact hL_sg))).trans hf32
  refine p_calli (va_runV (As := []) (rest := [.int (nI 0)]) C.fix (e_Jx4a65c_size_8abf5 l D cy S14 H.size sg se sm 1 hL33 hf34 ) (cwV 0 C.2.2.2.2.1 (gU_V mw_464 mw_465 mw_466 mw_89 (subU mw_467)) rfl rfl rfl hde_X13_rows1wev_V_1 ⟨Nat.le_of_ble_eq_true rfl, Nat.le_of_ble_eq_true rfl⟩) (p_preV C hw hL33 hf34 rfl) rfl rfl hl.1 rfl (lv_room (Nat.le_of_ble_eq_true rfl)) dX13_rows_21 ⟨(Nat.le_of_ble_eq_true rfl), (Nat.le_of_ble_eq_true rfl)⟩) hw hA (fun r36 S35 H locs hpost hw => ?_)
  obtain ⟨hr_, hS_⟩ := hpost
  subst hr_
  subst hS_
  refine n_icmp_ge (tgt := 60) hx hb (by first | decide | omega) (by first | decide | omega) dX13_rows_24 (by decide) (fun h_24 => ?_) (fun h_24 => ?_)
  · exact absurd h_24 (by first | decide | omega)
  · skip
    refine lv_aload_n hx hb dX13_rows_27 rfl (lv_at hl 1 rfl) ?_
    refine lv_aload_n hx hb dX13_rows_28 rfl (lv_at hl 2 rfl) ?_
    refine p_get C hw (ci := 13) (Cn := RX13) (T := TX13) (N := 5) hL27 hf28 rfl hin_RX13 2 (by decide) (mU mw_90) rfl rfl dX13_rows_29 ?_
    refine lv_iload_n hx hb dX13_rows_32 rfl (lv_at hl 0 rfl) ?_
    have hL37 : se ∈ S1.1 := by rw [hS1]; exact List.mem_append_left _ hL_se
    have hf38 : S1.2 se = aQ (cy 4) 10 sq := by rw [hS1]; exact (pnew_n (fun z : se = rl => hq_rl (by rw [← z]; exact hL_se))).trans hf_se
    have hL39 : se ∈ S4.1 := by rw [hS6]; exact List.mem_append_left _ hL37
    have hf40 : S4.2 se = aQ (cy 4) 10 sq := (hfr7 se hL37 (fun z : se = rl => hq_rl (by rw [← z]; exact hL_se))).trans hf38
    have hL41 : se ∈ S14.1 := by rw [hS16]; exact List.mem_append_left _ hL39
    have hf42 : S14.2 se = aQ (cy 4) 10 sq := (hfr17 se hL39 (fun z : se = rl => hq_rl (by rw [← z]; exact hL_se))).trans hf40
    refine p_callq (va_runV (As := [.int (nI 0)]) (rest := [.ref rl]) C.fix (e_Jx4a65c_get_915e3 l D cy S14 H.size sg se sm 1 0 st sq hL33 hf34 hL41 hf42 (by first | assumption | decide | omega) (by first | assumption | decide | omega) (by first | assumption | rfl | simp [va_up])) (cwV 1 C.2.2.2.2.1 (gU_V mw_468 mw_469 mw_470 mw_89 (subU mw_471)) rfl rfl rfl hde_X13_rows1wev_V_2 ⟨Nat.le_of_ble_eq_true rfl, Nat.le_of_ble_eq_true rfl⟩) (p_preV C hw hL33 hf34 rfl) rfl rfl hl.1 rfl (lv_room (Nat.le_of_ble_eq_true rfl)) dX13_rows_33 ⟨(Nat.le_of_ble_eq_true rfl), (Nat.le_of_ble_eq_true rfl)⟩) hw hA (fun r44 S43 H locs hpost hw => ?_)
    obtain ⟨hr_, hS_⟩ := hpost
    subst hr_
    subst hS_
    have hL45 : st ∈ S1.1 := by rw [hS1]; exact List.mem_append_left _ hL_st
    have hf46 : S1.2 st = .inr (12, [.int (nI 4), .int (nI sa), .int (nI sb), .ref sr]) := by rw [hS1]; exact (pnew_n (fun z : st = rl => hq_rl (by rw [← z]; exact hL_st))).trans hf_st
    have hL47 : st ∈ S4.1 := by rw [hS6]; exact List.mem_append_left _ hL45
    have hf48 : S4.2 st = .inr (12, [.int (nI 4), .int (nI sa), .int (nI sb), .ref sr]) := (hfr7 st hL45 (fun z : st = rl => hq_rl (by rw [← z]; exact hL_st))).trans hf46
    have hL49 : st ∈ S14.1 := by rw [hS16]; exact List.mem_append_left _ hL47
    have hf50 : S14.2 st = .inr (12, [.int (nI 4), .int (nI sa), .int (nI sb), .ref sr]) := (hfr17 st hL47 (fun z : st = rl => hq_rl (by rw [← z]; exact hL_st))).trans hf48
    refine p_castS C hw hL49 hf50 rfl (C.2.2.2.2.1 _ (mU mw_418)) dX13_rows_36 ?_
    refine lv_aload_n hx hb dX13_rows_39 rfl (lv_at hl 1 rfl) ?_
    refine lv_iload_n hx hb dX13_rows_40 rfl (lv_at hl 0 rfl) ?_
    refine p_callq (va_runV (As := [.int (nI 0)]) (rest := [.ref st, .ref rl]) C.fix (e_Jx4a65c_get_915e3 l D cy S14 H.size rl ra 1 1 0 bt (va_up (fun _ => none) 0 (some bt)) hL21 hf18 hL22 hf19 (by first | assumption | decide | omega) (by first | assumption | decide | omega) (by first | assumption | rfl | simp [va_up])) (cwV 1 C.2.2.2.2.1 (gU_V mw_468 mw_469 mw_470 mw_89 (subU mw_471)) rfl rfl rfl hde_X13_rows1wev_V_2 ⟨Nat.le_of_ble_eq_true rfl, Nat.le_of_ble_eq_true rfl⟩) (p_preV C hw hL21 hf18 rfl) rfl rfl hl.1 rfl (lv_room (Nat.le_of_ble_eq_true rfl)) dX13_rows_41 ⟨(Nat.le_of_ble_eq_true rfl), (Nat.le_of_ble_eq_true rfl)⟩) hw hA (fun r52 S51 H locs hpost hw => ?_)
    obtain ⟨hr_, hS_⟩ := hpost
    subst hr_
    subst hS_
    have hL53 : bt ∈ S14.1 := by rw [hS16]; exact List.mem_append_left _ hL12
    have hf54 : S14.2 bt = .inl (cy 0, 0, .inl bg) := (hfr17 bt hL12 (fun z : bt = rl => hq_rl (by rw [← z]; exact hL_bt))).trans hf13
    refine p_castA C hw hL53 hf54 (C.2.2.2.2.1 _ (mU mw_413)) dX13_rows_44 ?_
    refine p_callq (va_runV (As := [.ref bt]) (rest := [.ref rl]) C.fix (e_X12_codewev l D cy S14 H.size st bt sr sa sb bg hL49 hf50 hL53 hf54 (by first | assumption | decide | omega) (by first | assumption | decide | omega)) (cwV 1 C.2.2.2.2.1 (gU_V mw_484 mw_485 mw_486 mw_407 (subU mw_487)) rfl rfl rfl hde_X13_rows1wev_V_3 ⟨Nat.le_of_ble_eq_true rfl, Nat.le_of_ble_eq_true rfl⟩) (p_preV C hw hL49 hf50 rfl) rfl rfl hl.1 rfl (lv_room (Nat.le_of_ble_eq_true rfl)) dX13_rows_47 ⟨(Nat.le_of_ble_eq_true rfl), (Nat.le_of_ble_eq_true rfl)⟩) hw hA (fun r56 S55 H locs hpost hw => ?_)
    obtain ⟨fl, w, hr_, hS57, hfr58, hf59⟩ := hpost
    subst hr_
    have hnd60 := p_apart hw hS57
    have hq61 : fl ∉ S14.1 := p_fresh hw hS57 0 rfl
    have hq62 : w ∉ S14.1 := p_fresh hw hS57 1 rfl
    have hL63 : w ∈ S55.1 := by rw [hS57]; exact List.mem_append_right _ (List.mem_of_getElem? (i := 1) rfl)
    have hL64 : rl ∈ S55.1 := by rw [hS57]; exact List.mem_append_left _ hL21
    have hf65 : S55.2 rl = .inr (0, [.int (nI 1), .ref ra, .int (nI 1)]) := (hfr58 rl hL21 ).trans hf18
    have hL66 : ra ∈ S55.1 := by rw [hS57]; exact List.mem_append_left _ hL22
    have hf67 : S55.2 ra = aQ (cy 4) 10 (va_up (fun _ => none) 0 (some bt)) := (hfr58 ra hL22 ).trans hf19
    refine p_calli (va_runV (As := [.ref w]) (rest := []) C.fix (e_Jx4a65c_add_9ea2d2I l D cy S55 H.size rl w ra (va_up (fun _ => none) 0 (some bt)) 0 (fun _ => 0) hL64 hf65 hL66 hf67 hL63 hf59 ) (cwV 1 C.2.2.2.2.1 (gU_V mw_419 mw_420 mw_421 mw_89 (subU mw_422)) rfl rfl rfl hde_X13_rows1wev_V_0 ⟨Nat.le_of_ble_eq_true rfl, Nat.le_of_ble_eq_true rfl⟩) (p_preV C hw hL64 hf65 rfl) rfl rfl hl.1 rfl (lv_room (Nat.le_of_ble_eq_true rfl)) dX13_rows_50 ⟨(Nat.le_of_ble_eq_true rfl), (Nat.le_of_ble_eq_true rfl)⟩) hw hA (fun r69 S68 H locs hpost hw => ?_)
    obtain ⟨hr_, hS70, hfr71, hf72, hf73⟩ := hpost
    subst hr_
    have hL74 : rl ∈ S68.1 := by rw [hS70]; exact List.mem_append_left _ hL64
    have hL75 : ra ∈ S68.1 := by rw [hS70]; exact List.mem_append_left _ hL66
    refine lv_pop hx hb dX13_rows_53 rfl ?_
    refine lv_iinc (v := (nI 1)) (lv' := [(3, .int (nI 1)), (2, .ref rl), (0, .ref mm), (1, .ref bt)]) hx hb dX13_rows_54 hl (k := 0) rfl (by decide) (by decide) rfl (fun ls hl => ?_)
    refine lv_goto (tgt := 16) hx hb dX13_rows_57 (by decide) ?_
    refine lv_iload_n hx hb dX13_rows_16 rfl (lv_at hl 0 rfl) ?_
    refine lv_aload_n hx hb dX13_rows_17 rfl (lv_at hl 2 rfl) ?_
    have hL76 : mm ∈ S55.1 := by rw [hS57]; exact List.mem_append_left _ hL27
    have hf77 : S55.2 mm = .inr (13, [.int (nI t0), .ref me, .ref sg, .ref cn, .ref im]) := (hfr58 mm hL27 ).trans hf28
    have hL78 : mm ∈ S68.1 := by rw [hS70]; exact List.mem_append_left _ hL76
    have hf79 : S68.2 mm = .inr (13, [.int (nI t0), .ref me, .ref sg, .ref cn, .ref im]) := (hfr71 mm hL76 (fun z : mm = rl => hq_rl (by rw [← z]; exact hL_mm)) (fun z : mm = ra => hq20 (by rw [← z]; exact hL25))).trans hf77
    refine p_get C hw (ci := 13) (Cn := RX13) (T := TX13) (N := 5) hL78 hf79 rfl hin_RX13 2 (by decide) (mU mw_90) rfl rfl dX13_rows_18 ?_
    have hL80 : sg ∈ S55.1 := by rw [hS57]; exact List.mem_append_left _ hL33
    have hf81 : S55.2 sg = .inr (0, [.int (nI sm), .ref se, .int (nI 1)]) := (hfr58 sg hL33 ).trans hf34
    have hL82 : sg ∈ S68.1 := by rw [hS70]; exact List.mem_append_left _ hL80
    have hf83 : S68.2 sg = .inr (0, [.int (nI sm), .ref se, .int (nI 1)]) := (hfr71 sg hL80 (fun z : sg = rl => hq_rl (by rw [← z]; exact hL_sg)) (fun z : sg = ra => hq20 (by rw [← z]; exact hL31))).trans hf81
    refine p_calli (va_runV (As := []) (rest := [.int (nI 1)]) C.fix (e_Jx4a65c_size_8abf5 l D cy S68 H.size sg se sm 1 hL82 hf83 ) (cwV 0 C.2.2.2.2.1 (gU_V mw_464 mw_465 mw_466 mw_89 (subU mw_467)) rfl rfl rfl hde_X13_rows1wev_V_1 ⟨Nat.le_of_ble_eq_true rfl, Nat.le_of_ble_eq_true rfl⟩) (p_preV C hw hL82 hf83 rfl) rfl rfl hl.1 rfl (lv_room (Nat.le_of_ble_eq_true rfl)) dX13_rows_21 ⟨(Nat.le_of_ble_eq_true rfl), (Nat.le_of_ble_eq_true rfl)⟩) hw hA (fun r85 S84 H locs hpost hw => ?_)
    obtain ⟨hr_, hS_⟩ := hpost
    subst hr_
    subst hS_
    refine n_icmp_ge (tgt := 60) hx hb (by first | decide | omega) (by first | decide | omega) dX13_rows_24 (by decide) (fun h_24 => ?_) (fun h_24 => ?_)
    · skip
      refine lv_aload_n hx hb dX13_rows_60 rfl (lv_at hl 1 rfl) ?_
      have hL86 : w ∈ S68.1 := by rw [hS70]; exact List.mem_append_left _ hL63
      have hf87 : S68.2 w = .inl (cy 0, 0, .inl (fun _ => 0)) := (hfr71 w hL63 (fun z : w = rl => hq62 (by rw [z]; exact hL21)) (fun z : w = ra => hq62 (by rw [z]; exact hL22))).trans hf59
      exact (p_qret C hw (v := some rl) (⟨rl, ra, fl, w, rfl, (by simp only [hS70, hS57, hS16, hS6, hS1, pup, pnew, List.append_nil, List.append_assoc, List.cons_append, List.nil_append]), (fun a_ ha_ => ((hfr71 a_ (show a_ ∈ S55.1 from by rw [hS57]; exact List.mem_append_left _ (show a_ ∈ S14.1 from by rw [hS16]; exact List.mem_append_left _ (show a_ ∈ S4.1 from by rw [hS6]; exact List.mem_append_left _ (show a_ ∈ S1.1 from by rw [hS1]; exact List.mem_append_left _ ha_)))) (fun z : a_ = rl => hq_rl (by rw [← z]; exact ha_)) (fun z : a_ = ra => hq20 (by rw [← z]; exact (show a_ ∈ S4.1 from by rw [hS6]; exact List.mem_append_left _ (show a_ ∈ S1.1 from by rw [hS1]; exact List.mem_append_left _ ha_))))).trans ((hfr58 a_ (show a_ ∈ S14.1 from by rw [hS16]; exact List.mem_append_left _ (show a_ ∈ S4.1 from by rw [hS6]; exact List.mem_append_left _ (show a_ ∈ S1.1 from by rw [hS1]; exact List.mem_append_left _ ha_))) ).trans ((hfr17 a_ (show a_ ∈ S4.1 from by rw [hS6]; exact List.mem_append_left _ (show a_ ∈ S1.1 from by rw [hS1]; exact List.mem_append_left _ ha_)) (fun z : a_ = rl => hq_rl (by rw [← z]; exact ha_))).trans ((hfr7 a_ (show a_ ∈ S1.1 from by rw [hS1]; exact List.mem_append_left _ ha_) (fun z : a_ = rl => hq_rl (by rw [← z]; exact ha_))).trans (show S1.2 a_ = S.2 a_ from by rw [hS1]; exact pnew_n (fun z : a_ = rl => hq_rl (by rw [← z]; exact ha_)))))))), hf72, hf73, hf87⟩) hr (by first | exact Or.inl ⟨_, rfl⟩ | exact Or.inr ⟨_, rfl⟩) hlocks dX13_rows_61)
    · exact absurd h_24 (by first | decide | omega)

theorem hde_X13_sentNow1wev_V_0 : yX13_rows.cls = RX13 ∧ yX13_rows.cls ≠ "java/lang/invoke/MethodHandle" ∧ yX13_rows.cls ≠ "java/lang/invoke/VarHandle" ∧ (parseMethodDescriptor yX13_rows.desc).map (fun d => d.parameters.length) = some 1 := by decide +kernel
theorem hde_X13_sentNow1wev_V_1 : yJx4a65c_size_8abf5.cls = RJx4a65c ∧ yJx4a65c_size_8abf5.cls ≠ "java/lang/invoke/MethodHandle" ∧ yJx4a65c_size_8abf5.cls ≠ "java/lang/invoke/VarHandle" ∧ (parseMethodDescriptor yJx4a65c_size_8abf5.desc).map (fun d => d.parameters.length) = some 0 := by decide +kernel
theorem hde_X13_sentNow1wev_V_2 : yJx4a65c_get_915e3.cls = RJx4a65c ∧ yJx4a65c_get_915e3.cls ≠ "java/lang/invoke/MethodHandle" ∧ yJx4a65c_get_915e3.cls ≠ "java/lang/invoke/VarHandle" ∧ (parseMethodDescriptor yJx4a65c_get_915e3.desc).map (fun d => d.parameters.length) = some 1 := by decide +kernel
set_option maxHeartbeats 4000000 in
set_option maxRecDepth 100000 in
theorem e_X13_sentNow1wev (l : Launch) (D : va_G) (cy : Nat → ClassId) (ed : Nat) (S : pS) (sz : Nat) (mm : Nat) (me : Nat) (sg : Nat) (cn : Nat) (im : Nat) (se : Nat) (st : Nat) (sr : Nat) (t0 : Nat) (sa : Nat) (sb : Nat) (sm : Nat) (sq : Nat → Option Nat) (hL_mm : mm ∈ S.1) (hf_mm : S.2 mm = .inr (13, [.int (nI t0), .ref me, .ref sg, .ref cn, .ref im])) (hL_me : me ∈ S.1) (hf_me : S.2 me = .inl (cy 0, 0, .inl (fun _ => 0))) (hL_sg : sg ∈ S.1) (hf_sg : S.2 sg = .inr (0, [.int (nI sm), .ref se, .int (nI 1)])) (hL_se : se ∈ S.1) (hf_se : S.2 se = aQ (cy 4) 10 sq) (hL_st : st ∈ S.1) (hf_st : S.2 st = .inr (12, [.int (nI 4), .int (nI sa), .int (nI sb), .ref sr])) (hsq : sq 0 = some st) (hs1 : 1 ≤ sa * sb) (hs2 : sa * sb < 2 ^ 31) : Met l yX13_sentNow (Cond.code yX13_sentNow cX13_sentNow 1 (some (.array .int)) :: lwU) ({ frames := 6, cells := 4, slots := 13, locals := 131 }) (ePc D cy ed S sz [.ref mm]) (pQq D cy S sz (fun r S' => ∃ (rl : Nat) (ra : Nat) (fl : Nat) (w : Nat), r = some w ∧ S'.1 = S.1 ++ [rl, ra, fl, w] ∧ (∀ a_, a_ ∈ S.1 → S'.2 a_ = S.2 a_) ∧ S'.2 w = .inl (cy 0, 0, .inl (fun _ => 0)))) 4 13 (pA S sz) := by
  refine Met.ofW (cc := cX13_sentNow) (maxL := 1) (ret := (some (.array .int))) (by decide) rfl ?_
  intro p e s m args below meth c s₁ B hml hv
  obtain ⟨rfl, rfl, C, hw, hA, hr, hlocks, hE⟩ := e_start B hml hv
  have hx := C.1
  have hb := C.2.1
  have hl := lv_entry ([.ref mm]) (n := 1) (Nat.le_of_ble_eq_true rfl)
  rw [lg_entry_eq]
  generalize (lg_sl ([.ref mm]) ++ List.replicate (1 - (lg_sl ([.ref mm])).length) Slot.unset).toArray = ls at hl ⊢
  have hl : lv_has ls 1 [(0, .ref mm)] := hl
  have hin_RX13 : ∀ w ∈ u_ws RX13 TX13 5, w ∈ (Cond.code yX13_sentNow cX13_sentNow 1 (some (.array .int)) :: lwU) := fun w h => mU (sub_RX13 w h)
  refine lv_aload_n hx hb dX13_sentNow_0 rfl (lv_at hl 0 rfl) ?_
  refine lv_aload_n hx hb dX13_sentNow_1 rfl (lv_at hl 0 rfl) ?_
  refine p_get C hw (ci := 13) (Cn := RX13) (T := TX13) (N := 5) hL_mm hf_mm rfl hin_RX13 1 (by decide) (mU mw_86) rfl rfl dX13_sentNow_2 ?_
  refine p_callq (va_runV (As := [.ref me]) (rest := []) C.fix (e_X13_rows1wev l D cy ed S s.heap.size mm me me sg cn im se st sr t0 sa sb sm sq (fun _ => 0) hL_mm hf_mm hL_sg hf_sg hL_se hf_se hL_st hf_st hL_me hf_me (by first | assumption | rfl | simp [va_up]) (by first | assumption | decide | omega) (by first | assumption | decide | omega)) (cwV 1 C.2.2.2.2.1 (gU_V mw_414 mw_415 mw_416 mw_5 (subU mw_417)) rfl rfl rfl hde_X13_sentNow1wev_V_0 ⟨Nat.le_of_ble_eq_true rfl, Nat.le_of_ble_eq_true rfl⟩) (e_preV C hw hA hE hL_mm hf_mm rfl) rfl rfl hl.1 rfl (lv_room (Nat.le_of_ble_eq_true rfl)) dX13_sentNow_5 ⟨(Nat.le_of_ble_eq_true rfl), (Nat.le_of_ble_eq_true rfl)⟩) hw hA (fun r2 S1 H locs hpost hw => ?_)
  obtain ⟨rl, ra, fl, w, hr_, hS3, hfr4, hf5, hf6, hf7⟩ := hpost
  subst hr_
  have hnd8 := p_apart hw hS3
  have hq9 : rl ∉ S.1 := p_fresh hw hS3 0 rfl
  have hq10 : ra ∉ S.1 := p_fresh hw hS3 1 rfl
  have hq11 : fl ∉ S.1 := p_fresh hw hS3 2 rfl
  have hq12 : w ∉ S.1 := p_fresh hw hS3 3 rfl
  have hL13 : rl ∈ S1.1 := by rw [hS3]; exact List.mem_append_right _ (List.mem_of_getElem? (i := 0) rfl)
  have hL14 : ra ∈ S1.1 := by rw [hS3]; exact List.mem_append_right _ (List.mem_of_getElem? (i := 1) rfl)
  have hL15 : w ∈ S1.1 := by rw [hS3]; exact List.mem_append_right _ (List.mem_of_getElem? (i := 3) rfl)
  refine lv_aload_n hx hb dX13_sentNow_8 rfl (lv_at hl 0 rfl) ?_
  have hL16 : mm ∈ S1.1 := by rw [hS3]; exact List.mem_append_left _ hL_mm
  have hf17 : S1.2 mm = .inr (13, [.int (nI t0), .ref me, .ref sg, .ref cn, .ref im]) := (hfr4 mm hL_mm ).trans hf_mm
  refine p_get C hw (ci := 13) (Cn := RX13) (T := TX13) (N := 5) hL16 hf17 rfl hin_RX13 2 (by decide) (mU mw_90) rfl rfl dX13_sentNow_9 ?_
  have hL18 : sg ∈ S1.1 := by rw [hS3]; exact List.mem_append_left _ hL_sg
  have hf19 : S1.2 sg = .inr (0, [.int (nI sm), .ref se, .int (nI 1)]) := (hfr4 sg hL_sg ).trans hf_sg
  refine p_calli (va_runV (As := []) (rest := [.ref rl]) C.fix (e_Jx4a65c_size_8abf5 l D cy S1 H.size sg se sm 1 hL18 hf19 ) (cwV 0 C.2.2.2.2.1 (gU_V mw_464 mw_465 mw_466 mw_89 (subU mw_467)) rfl rfl rfl hde_X13_sentNow1wev_V_1 ⟨Nat.le_of_ble_eq_true rfl, Nat.le_of_ble_eq_true rfl⟩) (p_preV C hw hL18 hf19 rfl) rfl rfl hl.1 rfl (lv_room (Nat.le_of_ble_eq_true rfl)) dX13_sentNow_12 ⟨(Nat.le_of_ble_eq_true rfl), (Nat.le_of_ble_eq_true rfl)⟩) hw hA (fun r21 S20 H locs hpost hw => ?_)
  obtain ⟨hr_, hS_⟩ := hpost
  subst hr_
  subst hS_
  refine p_callq (va_runV (As := [.int (nI 1)]) (rest := []) C.fix (e_Jx4a65c_get_915e3 l D cy S1 H.size rl ra 2 2 1 w (va_up (va_up (fun _ => none) 0 (some me)) 1 (some w)) hL13 hf5 hL14 hf6 (by first | assumption | decide | omega) (by first | assumption | decide | omega) (by first | assumption | rfl | simp [va_up])) (cwV 1 C.2.2.2.2.1 (gU_V mw_468 mw_469 mw_470 mw_89 (subU mw_471)) rfl rfl rfl hde_X13_sentNow1wev_V_2 ⟨Nat.le_of_ble_eq_true rfl, Nat.le_of_ble_eq_true rfl⟩) (p_preV C hw hL13 hf5 rfl) rfl rfl hl.1 rfl (lv_room (Nat.le_of_ble_eq_true rfl)) dX13_sentNow_15 ⟨(Nat.le_of_ble_eq_true rfl), (Nat.le_of_ble_eq_true rfl)⟩) hw hA (fun r23 S22 H locs hpost hw => ?_)
  obtain ⟨hr_, hS_⟩ := hpost
  subst hr_
  subst hS_
  refine p_castA C hw hL15 hf7 (C.2.2.2.2.1 _ (mU mw_413)) dX13_sentNow_18 ?_
  exact (p_qret C hw (v := some w) (⟨rl, ra, fl, w, rfl, (by simp only [hS3, pup, pnew, List.append_nil, List.append_assoc, List.cons_append, List.nil_append]), (fun a_ ha_ => (hfr4 a_ ha_ )), hf7⟩) hr (by first | exact Or.inl ⟨_, rfl⟩ | exact Or.inr ⟨_, rfl⟩) hlocks dX13_sentNow_21)

theorem hde_X13_addwev_V_0 : yJx4a65c_size_8abf5.cls = RJx4a65c ∧ yJx4a65c_size_8abf5.cls ≠ "java/lang/invoke/MethodHandle" ∧ yJx4a65c_size_8abf5.cls ≠ "java/lang/invoke/VarHandle" ∧ (parseMethodDescriptor yJx4a65c_size_8abf5.desc).map (fun d => d.parameters.length) = some 0 := by decide +kernel
theorem hde_X13_addwev_V_1 : yX13_refuse.cls = RX13 ∧ yX13_refuse.cls ≠ "java/lang/invoke/MethodHandle" ∧ yX13_refuse.cls ≠ "java/lang/invoke/VarHandle" ∧ (parseMethodDescriptor yX13_refuse.desc).map (fun d => d.parameters.length) = some 2 := by decide +kernel
theorem hde_X13_addwev_V_2 : yJx4a65c_add_9ea2d.cls = RJx4a65c ∧ yJx4a65c_add_9ea2d.cls ≠ "java/lang/invoke/MethodHandle" ∧ yJx4a65c_add_9ea2d.cls ≠ "java/lang/invoke/VarHandle" ∧ (parseMethodDescriptor yJx4a65c_add_9ea2d.desc).map (fun d => d.parameters.length) = some 1 := by decide +kernel
theorem hde_X13_addwev_V_3 : yX13_sentNow.cls = RX13 ∧ yX13_sentNow.cls ≠ "java/lang/invoke/MethodHandle" ∧ yX13_sentNow.cls ≠ "java/lang/invoke/VarHandle" ∧ (parseMethodDescriptor yX13_sentNow.desc).map (fun d => d.parameters.length) = some 0 := by decide +kernel
set_option maxHeartbeats 4000000 in
set_option maxRecDepth 100000 in
theorem e_X13_addwev (l : Launch) (D : va_G) (cy : Nat → ClassId) (ed : Nat) (S : pS) (sz : Nat) (mm : Nat) (st : Nat) (me : Nat) (sg : Nat) (cn : Nat) (im : Nat) (sr : Nat) (sa : Nat) (sb : Nat) (hL_mm : mm ∈ S.1) (hf_mm : S.2 mm = .inr (13, [.int (nI 0), .ref me, .ref sg, .ref cn, .ref im])) (hL_me : me ∈ S.1) (hf_me : S.2 me = .inl (cy 0, 0, .inl (fun _ => 0))) (hL_sg : sg ∈ S.1) (hf_sg : S.2 sg = .inr (0, [.int (nI 0), .ref ed, .int (nI 0)])) (hL_st : st ∈ S.1) (hf_st : S.2 st = .inr (12, [.int (nI 4), .int (nI sa), .int (nI sb), .ref sr])) (hs1 : 1 ≤ sa * sb) (hs2 : sa * sb < 2 ^ 31) : Met l yX13_add (Cond.code yX13_add cX13_add 3 (some .int) :: lwU) ({ frames := 7, cells := 5, slots := 23, locals := 151 }) (ePc D cy ed S sz [.ref mm, .ref st]) (pQi D cy S sz (fun r S' => ∃ (nl : List Nat), r = (nI 0) ∧ S'.1 = S.1 ++ nl ∧ (∀ a_, a_ ∈ S.1 → a_ ≠ sg → S'.2 a_ = S.2 a_))) 5 23 (pA S sz) := by
  refine Met.ofW (cc := cX13_add) (maxL := 3) (ret := (some .int)) (by decide) rfl ?_
  intro p e s m args below meth c s₁ B hml hv
  obtain ⟨rfl, rfl, C, hw, hA, hr, hlocks, hE⟩ := e_start B hml hv
  have hx := C.1
  have hb := C.2.1
  have hl := lv_entry ([.ref mm, .ref st]) (n := 3) (Nat.le_of_ble_eq_true rfl)
  rw [lg_entry_eq]
  generalize (lg_sl ([.ref mm, .ref st]) ++ List.replicate (3 - (lg_sl ([.ref mm, .ref st])).length) Slot.unset).toArray = ls at hl ⊢
  have hl : lv_has ls 3 [(0, .ref mm), (1, .ref st)] := hl
  have hin_RX13 : ∀ w ∈ u_ws RX13 TX13 5, w ∈ (Cond.code yX13_add cX13_add 3 (some .int) :: lwU) := fun w h => mU (sub_RX13 w h)
  refine lv_aload_n hx hb dX13_add_0 rfl (lv_at hl 0 rfl) ?_
  refine lv_aload_n hx hb dX13_add_1 rfl (lv_at hl 0 rfl) ?_
  refine p_get C hw (ci := 13) (Cn := RX13) (T := TX13) (N := 5) hL_mm hf_mm rfl hin_RX13 2 (by decide) (mU mw_90) rfl rfl dX13_add_2 ?_
  refine p_calli (va_runV (As := []) (rest := [.ref mm]) C.fix (e_Jx4a65c_size_8abf5 l D cy S s.heap.size sg ed 0 0 hL_sg hf_sg ) (cwV 0 C.2.2.2.2.1 (gU_V mw_464 mw_465 mw_466 mw_89 (subU mw_467)) rfl rfl rfl hde_X13_addwev_V_0 ⟨Nat.le_of_ble_eq_true rfl, Nat.le_of_ble_eq_true rfl⟩) (p_preV C hw hL_sg hf_sg rfl) rfl rfl hl.1 rfl (lv_room (Nat.le_of_ble_eq_true rfl)) dX13_add_5 ⟨(Nat.le_of_ble_eq_true rfl), (Nat.le_of_ble_eq_true rfl)⟩) hw hA (fun r2 S1 H locs hpost hw => ?_)
  obtain ⟨hr_, hS_⟩ := hpost
  subst hr_
  subst hS_
  refine lv_iconst (v := nI 4) hx hb dX13_add_8 (by decide) ?_
  refine n_icmp_ne (tgt := 16) hx hb (by first | decide | omega) (by first | decide | omega) dX13_add_9 (by decide) (fun h_9 => ?_) (fun h_9 => ?_)
  · skip
    refine lv_iconst (v := nI 0) hx hb dX13_add_16 (by decide) ?_
    refine lv_iconst (v := nI 2) hx hb dX13_add_17 (by decide) ?_
    refine p_calli (va_runV (As := [.int (nI 0), .int (nI 2)]) (rest := []) C.fix (e_X13_refuse0 l D cy S H.size mm me sg cn im 2 hL_mm hf_mm ) (cwV 2 C.2.2.2.2.1 (gU_V mw_402 mw_403 mw_404 mw_5 (subU mw_405)) rfl rfl rfl hde_X13_addwev_V_1 ⟨Nat.le_of_ble_eq_true rfl, Nat.le_of_ble_eq_true rfl⟩) (p_preV C hw hL_mm hf_mm rfl) rfl rfl hl.1 rfl (lv_room (Nat.le_of_ble_eq_true rfl)) dX13_add_18 ⟨(Nat.le_of_ble_eq_true rfl), (Nat.le_of_ble_eq_true rfl)⟩) hw hA (fun r4 S3 H locs hpost hw => ?_)
    obtain ⟨hr_, hS_⟩ := hpost
    subst hr_
    subst hS_
    refine n_if_eq (tgt := 26) hx hb (by first | decide | omega) dX13_add_21 (by decide) (fun h_21 => ?_) (fun h_21 => ?_)
    · skip
      refine lv_aload_n hx hb dX13_add_26 rfl (lv_at hl 0 rfl) ?_
      refine p_get C hw (ci := 13) (Cn := RX13) (T := TX13) (N := 5) hL_mm hf_mm rfl hin_RX13 2 (by decide) (mU mw_90) rfl rfl dX13_add_27 ?_
      refine lv_aload_n hx hb dX13_add_30 rfl (lv_at hl 1 rfl) ?_
      refine p_calli (va_runV (As := [.ref st]) (rest := []) C.fix (e_Jx4a65c_add_9ea2d1S l D cy ed S H.size sg st sr 4 sa sb hL_sg hf_sg hL_st hf_st ) (cwV 1 C.2.2.2.2.1 (gU_V mw_419 mw_420 mw_421 mw_89 (subU mw_422)) rfl rfl rfl hde_X13_addwev_V_2 ⟨Nat.le_of_ble_eq_true rfl, Nat.le_of_ble_eq_true rfl⟩) (e_preV C hw hA hE hL_sg hf_sg rfl) rfl rfl hl.1 rfl (lv_room (Nat.le_of_ble_eq_true rfl)) dX13_add_31 ⟨(Nat.le_of_ble_eq_true rfl), (Nat.le_of_ble_eq_true rfl)⟩) hw hA (fun r6 S5 H locs hpost hw => ?_)
      obtain ⟨se, hr_, hS7, hfr8, hf9, hf10⟩ := hpost
      subst hr_
      have hq11 : se ∉ S.1 := p_fresh hw hS7 0 rfl
      have hL12 : sg ∈ S5.1 := by rw [hS7]; exact List.mem_append_left _ hL_sg
      have hL13 : se ∈ S5.1 := by rw [hS7]; exact List.mem_append_right _ (List.mem_of_getElem? (i := 0) rfl)
      refine lv_pop hx hb dX13_add_34 rfl ?_
      refine lv_aload_n hx hb dX13_add_35 rfl (lv_at hl 0 rfl) ?_
      have hL14 : mm ∈ S5.1 := by rw [hS7]; exact List.mem_append_left _ hL_mm
      have hf15 : S5.2 mm = .inr (13, [.int (nI 0), .ref me, .ref sg, .ref cn, .ref im]) := (hfr8 mm hL_mm (ne_cells hf_mm hf_sg (by nofun))).trans hf_mm
      have hL16 : me ∈ S5.1 := by rw [hS7]; exact List.mem_append_left _ hL_me
      have hf17 : S5.2 me = .inl (cy 0, 0, .inl (fun _ => 0)) := (hfr8 me hL_me (ne_cells hf_me hf_sg (by nofun))).trans hf_me
      have hL18 : st ∈ S5.1 := by rw [hS7]; exact List.mem_append_left _ hL_st
      have hf19 : S5.2 st = .inr (12, [.int (nI 4), .int (nI sa), .int (nI sb), .ref sr]) := (hfr8 st hL_st (ne_cells hf_st hf_sg (by nofun))).trans hf_st
      refine p_callq (va_runV (As := []) (rest := []) C.fix (e_X13_sentNow1wev l D cy ed S5 H.size mm me sg cn im se st sr 0 sa sb 1 (va_up (fun _ => none) 0 (some st)) hL14 hf15 hL16 hf17 hL12 hf9 hL13 hf10 hL18 hf19 (by first | assumption | rfl | simp [va_up]) (by first | assumption | decide | omega) (by first | assumption | decide | omega)) (cwV 0 C.2.2.2.2.1 (gU_V mw_599 mw_600 mw_601 mw_5 (subU mw_602)) rfl rfl rfl hde_X13_addwev_V_3 ⟨Nat.le_of_ble_eq_true rfl, Nat.le_of_ble_eq_true rfl⟩) (e_preV C hw hA hE hL14 hf15 rfl) rfl rfl hl.1 rfl (lv_room (Nat.le_of_ble_eq_true rfl)) dX13_add_36 ⟨(Nat.le_of_ble_eq_true rfl), (Nat.le_of_ble_eq_true rfl)⟩) hw hA (fun r21 S20 H locs hpost hw => ?_)
      obtain ⟨rl22, ra23, fl24, w25, hr_, hS26, hfr27, hf28⟩ := hpost
      subst hr_
      have hnd29 := p_apart hw hS26
      have hq30 : rl22 ∉ S5.1 := p_fresh hw hS26 0 rfl
      have hq31 : ra23 ∉ S5.1 := p_fresh hw hS26 1 rfl
      have hq32 : fl24 ∉ S5.1 := p_fresh hw hS26 2 rfl
      have hq33 : w25 ∉ S5.1 := p_fresh hw hS26 3 rfl
      have hL34 : w25 ∈ S20.1 := by rw [hS26]; exact List.mem_append_right _ (List.mem_of_getElem? (i := 3) rfl)
      refine n_len C hw 0 rfl hL34 hf28 (n := 0) rfl dX13_add_39 ?_
      refine lv_istore_n (lv' := [(2, .int (nI 0)), (0, .ref mm), (1, .ref st)]) hx hb dX13_add_40 rfl hl (by decide) rfl (fun ls hl => ?_)
      refine lv_iload_n hx hb dX13_add_41 rfl (lv_at hl 0 rfl) ?_
      refine lv_sipush (v := nI 320) hx hb dX13_add_42 (by decide) ?_
      refine n_icmp_gt (tgt := 50) hx hb (by first | decide | omega) (by first | decide | omega) dX13_add_45 (by decide) (fun h_45 => ?_) (fun h_45 => ?_)
      · exact absurd h_45 (by first | decide | omega)
      · skip
        refine lv_iload_n hx hb dX13_add_48 rfl (lv_at hl 0 rfl) ?_
        exact (p_iret C hw (⟨([se] ++ [rl22, ra23, fl24, w25]), rfl, (by simp only [hS26, hS7, pup, pnew, List.append_nil, List.append_assoc, List.cons_append, List.nil_append]), (fun a_ ha_ hn_0 => ((hfr27 a_ (show a_ ∈ S5.1 from by rw [hS7]; exact List.mem_append_left _ ha_) ).trans (hfr8 a_ ha_ hn_0)))⟩) hr hlocks dX13_add_49)
    · exact absurd h_21 (by first | decide | omega)
  · exact absurd h_9 (by first | decide | omega)
