theorem ne_NQ {cA cB : ClassId} {n m : Nat} {g : Nat → Nat} {f : Nat → Option Nat} : aN cA n g ≠ aQ cB m f := fun h => by
  have h3 := (Prod.mk.inj (Prod.mk.inj (Sum.inl.inj h)).2).2
  cases h3
theorem ne_QN {cA cB : ClassId} {n m : Nat} {g : Nat → Nat} {f : Nat → Option Nat} : aQ cB m f ≠ aN cA n g := fun h => ne_NQ h.symm
set_option maxHeartbeats 4000000 in
set_option maxRecDepth 100000 in
/-- Levels() -/
theorem c_X4_init (l : Launch) (D : va_G) (cy : Nat → ClassId) (S : pS) (sz : Nat) (h : Nat) (hL_h : h ∈ S.1) (hf_h : S.2 h = .inr (4, [.null, .null]))  : Met l yX4_init wsX4_init ({ frames := 2, cells := 13, slots := 1329, locals := 42 }) (pPc D cy S sz [.ref h]) (pQv D cy S sz (fun S' => ∃ la nn nb r0 b0 r1 b1 r2 b2 r3 b3 r4 b4, S'.1 = S.1 ++ [la, nn, nb, r0, b0, r1, b1, r2, b2, r3, b3, r4, b4] ∧ (∀ a_, a_ ∈ S.1 → a_ ≠ h → S'.2 a_ = S.2 a_) ∧ S'.2 h = .inr (4, [.ref la, .ref nn]) ∧ S'.2 la = aQ (cy 2) 5 (va_up (va_up (va_up (va_up (va_up (fun _ => none) 0 (some r0)) 1 (some r1)) 2 (some r2)) 3 (some r3)) 4 (some r4)) ∧ S'.2 nn = .inr (7, [.ref nb, .int (nI 0)]) ∧ S'.2 nb = aN (cy 0) 0 (fun _ => 0) ∧ S'.2 r0 = .inr (7, [.ref b0, .int (nI 0)]) ∧ S'.2 b0 = aN (cy 0) 32 (fun _ => 0) ∧ S'.2 r1 = .inr (7, [.ref b1, .int (nI 0)]) ∧ S'.2 b1 = aN (cy 0) 320 (fun _ => 0) ∧ S'.2 r2 = .inr (7, [.ref b2, .int (nI 0)]) ∧ S'.2 b2 = aN (cy 0) 320 (fun _ => 0) ∧ S'.2 r3 = .inr (7, [.ref b3, .int (nI 0)]) ∧ S'.2 b3 = aN (cy 0) 320 (fun _ => 0) ∧ S'.2 r4 = .inr (7, [.ref b4, .int (nI 0)]) ∧ S'.2 b4 = aN (cy 0) 320 (fun _ => 0))) 13 1329 (pA S sz) := by
  refine Met.ofW (cc := cX4_init) (maxL := 2) (ret := none) (by decide) rfl ?_
  intro p e s m args below meth c s₁ B hml hv
  have hin : meth.name = "<init>" := (name_of_methodNamed B.named B.method).1
  obtain ⟨rfl, rfl, C, hw, hA, hr, hlocks⟩ := p_start B hml hv
  have hx := C.1
  have hb := C.2.1
  have hl := lv_entry ([.ref h]) (n := 2) (Nat.le_of_ble_eq_true rfl)
  rw [lg_entry_eq]
  generalize (lg_sl ([.ref h]) ++ List.replicate (2 - (lg_sl ([.ref h])).length) Slot.unset).toArray = ls at hl ⊢
  have hl : lv_has ls 2 [(0, .ref h)] := hl
  have hin_RX4 : ∀ w ∈ u_ws RX4 TX4 2, w ∈ wsX4_init := by decide +kernel
  have hin_RX7 : ∀ w ∈ u_ws RX7 TX7 2, w ∈ wsX4_init := by decide +kernel
  refine lv_aload_n hx hb dX4_init_0 rfl (lv_at hl 0 rfl) ?_
  refine W.objInit hx hb C.2.2.2.1 (C.2.2.2.2.1 (.methodLink RX4 3 objectInit) (by decide +kernel)) (C.2.2.2.2.1 (.instanceMethod objectInit) (by decide +kernel)) (C.2.2.2.2.1 _ (List.mem_of_getElem? (i := 3) rfl)) rfl (by rw [hml]; exact hl.1) rfl dX4_init_1 (Nat.le_of_ble_eq_true rfl) (Nat.le_of_ble_eq_true rfl) ?_
  refine W.eq (g2 := F0 m 4 ls []) rfl ?_
  refine lv_aload_n hx hb dX4_init_4 rfl (lv_at hl 0 rfl) ?_
  refine lv_iconst (v := nI 5) hx hb dX4_init_5 (by decide) ?_
  refine p_newq C hw hA (List.mem_of_getElem? (i := 4) rfl) C.2.2.2.2.2.2.2.1 2 rfl (n := 5) (by omega) (Nat.le_of_ble_eq_true rfl) (Nat.le_of_ble_eq_true rfl) dX4_init_6 (fun la H hq_la hw => ?_)
  obtain ⟨S1, hS1⟩ : ∃ z, z = pnew S la (aQ (cy 2) 5 (fun _ => none)) := ⟨_, rfl⟩
  replace hw : pW D (pA S s.heap.size) s.heap S1 H [] := by rw [hS1]; exact hw
  have hL2 : h ∈ S1.1 := by rw [hS1]; exact List.mem_append_left _ hL_h
  have hf3 : S1.2 h = .inr (4, [.null, .null]) := by rw [hS1]; exact (pnew_n (fun z : h = la => hq_la (by rw [← z]; exact hL_h))).trans hf_h
  have hne_h_la : h ≠ la := fun z => hq_la (by rw [← z]; exact hL_h)
  have hL4 : la ∈ S1.1 := by rw [hS1]; exact List.mem_append_right _ List.mem_cons_self
  have hf5 : S1.2 la = aQ (cy 2) 5 (fun _ => none) := by rw [hS1]; exact pnew_s
  have hnS_la : la ∉ S.1 := fun z => hq_la (z)
  have hfr6 : ∀ a_, a_ ∈ S.1 → a_ ∈ S1.1 ∧ (a_ ≠ h → S1.2 a_ = S.2 a_) := fun a_ ha_ => ⟨by rw [hS1]; exact List.mem_append_left _ ha_, fun hh_ => by rw [hS1]; exact (pnew_n (fun z => hnS_la (by rw [← z]; exact ha_))).trans rfl⟩
  refine p_putF C hw (ci := 4) (Cn := RX4) (T := TX4) (N := 2) tyX4 tyX4_ok nmX4 hL2 hf3 rfl hin_RX4 0 (by decide) (List.mem_of_getElem? (i := 5) rfl) rfl rfl hin rfl rfl rfl rfl (by simp) dX4_init_9 rfl (fun H locs hw => ?_)
  obtain ⟨S7, hS7⟩ : ∃ z, z = pup S1 h (.inr (4, [.ref la, .null])) := ⟨_, rfl⟩
  replace hw : pW D (pA S s.heap.size) s.heap S7 H locs := by rw [hS7]; exact hw
  have hL8 : la ∈ S7.1 := by rw [hS7]; exact hL4
  have hf9 : S7.2 la = aQ (cy 2) 5 (fun _ => none) := by rw [hS7]; exact (pup_n (ne_cells hf5 hf3 (by nofun))).trans hf5
  have hL10 : h ∈ S7.1 := by rw [hS7]; exact hL2
  have hf11 : S7.2 h = .inr (4, [.ref la, .null]) := by rw [hS7]; exact pup_s
  have hfr12 : ∀ a_, a_ ∈ S.1 → a_ ∈ S7.1 ∧ (a_ ≠ h → S7.2 a_ = S.2 a_) := fun a_ ha_ => ⟨by rw [hS7]; exact (hfr6 a_ ha_).1, fun hh_ => by rw [hS7]; exact (pup_n hh_).trans ((hfr6 a_ ha_).2 hh_)⟩
  refine lv_aload_n hx hb dX4_init_12 rfl (lv_at hl 0 rfl) ?_
  refine p_new C hw hA (ci := 7) (Cn := RX7) (T := TX7) (N := 2) (fs := [.null, .int (nI 0)]) tyX7 tyX7_ok rfl hin_RX7 (List.mem_of_getElem? (i := 4) rfl) (List.mem_of_getElem? (i := 6) rfl) (List.mem_of_getElem? (i := 7) rfl) (fun j hj => by rcases (show j = 0 ∨ j = 1 by omega) with rfl | rfl <;> rfl) (Nat.le_of_ble_eq_true rfl) (Nat.le_of_ble_eq_true rfl) dX4_init_13 (fun nn H hq_nn hw => ?_)
  obtain ⟨S13, hS13⟩ : ∃ z, z = pnew S7 nn (.inr (7, [.null, .int (nI 0)])) := ⟨_, rfl⟩
  replace hw : pW D (pA S s.heap.size) s.heap S13 H locs := by rw [hS13]; exact hw
  have hL14 : h ∈ S13.1 := by rw [hS13]; exact List.mem_append_left _ hL10
  have hf15 : S13.2 h = .inr (4, [.ref la, .null]) := by rw [hS13]; exact (pnew_n (fun z : h = nn => hq_nn (by rw [← z]; exact hL10))).trans hf11
  have hL16 : la ∈ S13.1 := by rw [hS13]; exact List.mem_append_left _ hL8
  have hf17 : S13.2 la = aQ (cy 2) 5 (fun _ => none) := by rw [hS13]; exact (pnew_n (fun z : la = nn => hq_nn (by rw [← z]; exact hL8))).trans hf9
  have hne_h_nn : h ≠ nn := fun z => hq_nn (by rw [← z]; exact hL10)
  have hne_la_nn : la ≠ nn := fun z => hq_nn (by rw [← z]; exact hL8)
  have hL18 : nn ∈ S13.1 := by rw [hS13]; exact List.mem_append_right _ List.mem_cons_self
  have hf19 : S13.2 nn = .inr (7, [.null, .int (nI 0)]) := by rw [hS13]; exact pnew_s
  have hnS_nn : nn ∉ S.1 := fun z => hq_nn ((hfr12 _ z).1)
  have hfr20 : ∀ a_, a_ ∈ S.1 → a_ ∈ S13.1 ∧ (a_ ≠ h → S13.2 a_ = S.2 a_) := fun a_ ha_ => ⟨by rw [hS13]; exact List.mem_append_left _ (hfr12 a_ ha_).1, fun hh_ => by rw [hS13]; exact (pnew_n (fun z => hnS_nn (by rw [← z]; exact ha_))).trans ((hfr12 a_ ha_).2 hh_)⟩
  refine lv_dup hx hb dX4_init_16 rfl ?_
  refine lv_iconst (v := nI 0) hx hb dX4_init_17 (by decide) ?_
  refine p_callv (va_runI (As := [.int (nI 0)]) (rest := [.ref nn, .ref h]) C.fix (c_X7_init l D cy S13 H.size nn 0 0 hL18 hf19 (by omega)) (cwI 1 C.2.2.2.2.1 gX4_init_X7_init rfl rfl rfl (C.2.2.2.2.1 (.initialized RX7) (List.mem_of_getElem? (i := 7) rfl)) (C.2.2.2.2.1 (.methodLink RX4 17 yX7_init) (List.mem_of_getElem? (i := 9) rfl)) (C.2.2.2.2.1 (.instanceMethod yX7_init) (List.mem_of_getElem? (i := 10) rfl)) rfl (by decide +kernel) ⟨Nat.le_of_ble_eq_true rfl, Nat.le_of_ble_eq_true rfl⟩) (p_preS C hw) rfl rfl hl.1 rfl (lv_room (Nat.le_of_ble_eq_true rfl)) dX4_init_18 ⟨Nat.le_of_ble_eq_true rfl, Nat.le_of_ble_eq_true rfl⟩) hw hA (fun S21 H locs hpost hw => ?_)
  obtain ⟨nb, hq_nb, hP_nb⟩ := hpost
  have hpost := hP_nb
  have hL23 : h ∈ S21.1 := by rw [hpost]; exact List.mem_append_left _ hL14
  have hf24 : S21.2 h = .inr (4, [.ref la, .null]) := by rw [hpost]; exact (pup_n (ne_cells hf15 hf19 (by nofun))).trans ((pnew_n (fun z => hq_nb (by rw [← z]; exact hL14))).trans hf15)
  have hL25 : la ∈ S21.1 := by rw [hpost]; exact List.mem_append_left _ hL16
  have hf26 : S21.2 la = aQ (cy 2) 5 (fun _ => none) := by rw [hpost]; exact (pup_n (ne_cells hf17 hf19 (by nofun))).trans ((pnew_n (fun z => hq_nb (by rw [← z]; exact hL16))).trans hf17)
  have hL27 : nn ∈ S21.1 := by rw [hpost]; exact List.mem_append_left _ hL18
  have hf28 : S21.2 nn = .inr (7, [.ref nb, .int (nI 0)]) := by rw [hpost]; exact pup_s
  have hL29 : nb ∈ S21.1 := by rw [hpost]; exact List.mem_append_right _ List.mem_cons_self
  have hf30 : S21.2 nb = aN (cy 0) 0 (fun _ => 0) := by rw [hpost]; exact (pup_n (fun z => hq_nb (by rw [z]; exact hL18))).trans pnew_s
  have hnS_nb : nb ∉ S.1 := fun z => hq_nb (hfr20 _ z).1
  have hfr31 : ∀ a_, a_ ∈ S.1 → a_ ∈ S21.1 ∧ (a_ ≠ h → S21.2 a_ = S.2 a_) := fun a_ ha_ => ⟨by rw [hpost]; exact List.mem_append_left _ (hfr20 a_ ha_).1, fun hh_ => by rw [hpost]; exact (pup_n (fun z => hnS_nn (by rw [← z]; exact ha_))).trans ((pnew_n (fun z => hnS_nb (by rw [← z]; exact ha_))).trans ((hfr20 a_ ha_).2 hh_))⟩
  refine p_putF C hw (ci := 4) (Cn := RX4) (T := TX4) (N := 2) tyX4 tyX4_ok nmX4 hL23 hf24 rfl hin_RX4 1 (by decide) (List.mem_of_getElem? (i := 8) rfl) rfl rfl hin rfl rfl rfl rfl (by simp) dX4_init_21 rfl (fun H locs hw => ?_)
  obtain ⟨S32, hS32⟩ : ∃ z, z = pup S21 h (.inr (4, [.ref la, .ref nn])) := ⟨_, rfl⟩
  replace hw : pW D (pA S s.heap.size) s.heap S32 H locs := by rw [hS32]; exact hw
  have hL33 : la ∈ S32.1 := by rw [hS32]; exact hL25
  have hf34 : S32.2 la = aQ (cy 2) 5 (fun _ => none) := by rw [hS32]; exact (pup_n (ne_cells hf26 hf24 (by nofun))).trans hf26
  have hL35 : nn ∈ S32.1 := by rw [hS32]; exact hL27
  have hf36 : S32.2 nn = .inr (7, [.ref nb, .int (nI 0)]) := by rw [hS32]; exact (pup_n (ne_cells hf28 hf24 (by nofun))).trans hf28
  have hL37 : nb ∈ S32.1 := by rw [hS32]; exact hL29
  have hf38 : S32.2 nb = aN (cy 0) 0 (fun _ => 0) := by rw [hS32]; exact (pup_n (ne_cells hf30 hf24 (by nofun))).trans hf30
  have hL39 : h ∈ S32.1 := by rw [hS32]; exact hL23
  have hf40 : S32.2 h = .inr (4, [.ref la, .ref nn]) := by rw [hS32]; exact pup_s
  have hfr41 : ∀ a_, a_ ∈ S.1 → a_ ∈ S32.1 ∧ (a_ ≠ h → S32.2 a_ = S.2 a_) := fun a_ ha_ => ⟨by rw [hS32]; exact (hfr31 a_ ha_).1, fun hh_ => by rw [hS32]; exact (pup_n hh_).trans ((hfr31 a_ ha_).2 hh_)⟩
  refine lv_iconst (v := nI 0) hx hb dX4_init_24 (by decide) ?_
  refine lv_istore_n (lv' := [(1, .int (nI 0)), (0, .ref h)]) hx hb dX4_init_25 rfl hl (by decide) rfl (fun ls hl => ?_)
  refine lv_iload_n hx hb dX4_init_26 rfl (lv_at hl 0 rfl) ?_
  refine lv_aload_n hx hb dX4_init_27 rfl (lv_at hl 1 rfl) ?_
  refine p_get C hw (ci := 4) (Cn := RX4) (T := TX4) (N := 2) hL39 hf40 rfl hin_RX4 0 (by decide) (List.mem_of_getElem? (i := 5) rfl) rfl rfl dX4_init_28 ?_
  refine n_len C hw 2 rfl hL33 hf34 (n := 5) rfl dX4_init_31 ?_
  refine n_icmp_ge (tgt := 66) hx hb (by omega) (by omega) dX4_init_32 (by decide) (fun h_32 => ?_) (fun h_32 => ?_)
  · omega
  · skip
    refine lv_aload_n hx hb dX4_init_35 rfl (lv_at hl 1 rfl) ?_
    refine p_get C hw (ci := 4) (Cn := RX4) (T := TX4) (N := 2) hL39 hf40 rfl hin_RX4 0 (by decide) (List.mem_of_getElem? (i := 5) rfl) rfl rfl dX4_init_36 ?_
    refine lv_iload_n hx hb dX4_init_39 rfl (lv_at hl 0 rfl) ?_
    refine p_new C hw hA (ci := 7) (Cn := RX7) (T := TX7) (N := 2) (fs := [.null, .int (nI 0)]) tyX7 tyX7_ok rfl hin_RX7 (List.mem_of_getElem? (i := 4) rfl) (List.mem_of_getElem? (i := 6) rfl) (List.mem_of_getElem? (i := 7) rfl) (fun j hj => by rcases (show j = 0 ∨ j = 1 by omega) with rfl | rfl <;> rfl) (Nat.le_of_ble_eq_true rfl) (Nat.le_of_ble_eq_true rfl) dX4_init_40 (fun r0 H hq_r0 hw => ?_)
    obtain ⟨S42, hS42⟩ : ∃ z, z = pnew S32 r0 (.inr (7, [.null, .int (nI 0)])) := ⟨_, rfl⟩
    replace hw : pW D (pA S s.heap.size) s.heap S42 H locs := by rw [hS42]; exact hw
    have hL43 : h ∈ S42.1 := by rw [hS42]; exact List.mem_append_left _ hL39
    have hf44 : S42.2 h = .inr (4, [.ref la, .ref nn]) := by rw [hS42]; exact (pnew_n (fun z : h = r0 => hq_r0 (by rw [← z]; exact hL39))).trans hf40
    have hL45 : la ∈ S42.1 := by rw [hS42]; exact List.mem_append_left _ hL33
    have hf46 : S42.2 la = aQ (cy 2) 5 (fun _ => none) := by rw [hS42]; exact (pnew_n (fun z : la = r0 => hq_r0 (by rw [← z]; exact hL33))).trans hf34
    have hL47 : nn ∈ S42.1 := by rw [hS42]; exact List.mem_append_left _ hL35
    have hf48 : S42.2 nn = .inr (7, [.ref nb, .int (nI 0)]) := by rw [hS42]; exact (pnew_n (fun z : nn = r0 => hq_r0 (by rw [← z]; exact hL35))).trans hf36
    have hL49 : nb ∈ S42.1 := by rw [hS42]; exact List.mem_append_left _ hL37
    have hf50 : S42.2 nb = aN (cy 0) 0 (fun _ => 0) := by rw [hS42]; exact (pnew_n (fun z : nb = r0 => hq_r0 (by rw [← z]; exact hL37))).trans hf38
    have hne_h_r0 : h ≠ r0 := fun z => hq_r0 (by rw [← z]; exact hL39)
    have hne_la_r0 : la ≠ r0 := fun z => hq_r0 (by rw [← z]; exact hL33)
    have hne_nn_r0 : nn ≠ r0 := fun z => hq_r0 (by rw [← z]; exact hL35)
    have hne_nb_r0 : nb ≠ r0 := fun z => hq_r0 (by rw [← z]; exact hL37)
    have hL51 : r0 ∈ S42.1 := by rw [hS42]; exact List.mem_append_right _ List.mem_cons_self
    have hf52 : S42.2 r0 = .inr (7, [.null, .int (nI 0)]) := by rw [hS42]; exact pnew_s
    have hnS_r0 : r0 ∉ S.1 := fun z => hq_r0 ((hfr41 _ z).1)
    have hfr53 : ∀ a_, a_ ∈ S.1 → a_ ∈ S42.1 ∧ (a_ ≠ h → S42.2 a_ = S.2 a_) := fun a_ ha_ => ⟨by rw [hS42]; exact List.mem_append_left _ (hfr41 a_ ha_).1, fun hh_ => by rw [hS42]; exact (pnew_n (fun z => hnS_r0 (by rw [← z]; exact ha_))).trans ((hfr41 a_ ha_).2 hh_)⟩
    refine lv_dup hx hb dX4_init_43 rfl ?_
    refine lv_iload_n hx hb dX4_init_44 rfl (lv_at hl 0 rfl) ?_
    refine n_if_ne (tgt := 53) hx hb (by omega) dX4_init_45 (by decide) (fun h_45 => ?_) (fun h_45 => ?_)
    · omega
    · skip
      refine lv_bipush (v := nI 32) hx hb dX4_init_48 (by decide) ?_
      refine lv_goto (tgt := 56) hx hb dX4_init_50 (by decide) ?_
      refine p_callv (va_runI (As := [.int (nI 32)]) (rest := [.ref r0, .int (nI 0), .ref la]) C.fix (c_X7_init l D cy S42 H.size r0 0 32 hL51 hf52 (by omega)) (cwI 1 C.2.2.2.2.1 gX4_init_X7_init rfl rfl rfl (C.2.2.2.2.1 (.initialized RX7) (List.mem_of_getElem? (i := 7) rfl)) (C.2.2.2.2.1 (.methodLink RX4 17 yX7_init) (List.mem_of_getElem? (i := 9) rfl)) (C.2.2.2.2.1 (.instanceMethod yX7_init) (List.mem_of_getElem? (i := 10) rfl)) rfl (by decide +kernel) ⟨Nat.le_of_ble_eq_true rfl, Nat.le_of_ble_eq_true rfl⟩) (p_preS C hw) rfl rfl hl.1 rfl (lv_room (Nat.le_of_ble_eq_true rfl)) dX4_init_56 ⟨Nat.le_of_ble_eq_true rfl, Nat.le_of_ble_eq_true rfl⟩) hw hA (fun S54 H locs hpost hw => ?_)
      obtain ⟨b0, hq_b0, hP_b0⟩ := hpost
      have hpost := hP_b0
      have hL56 : h ∈ S54.1 := by rw [hpost]; exact List.mem_append_left _ hL43
      have hf57 : S54.2 h = .inr (4, [.ref la, .ref nn]) := by rw [hpost]; exact (pup_n (ne_cells hf44 hf52 (by nofun))).trans ((pnew_n (fun z => hq_b0 (by rw [← z]; exact hL43))).trans hf44)
      have hL58 : la ∈ S54.1 := by rw [hpost]; exact List.mem_append_left _ hL45
      have hf59 : S54.2 la = aQ (cy 2) 5 (fun _ => none) := by rw [hpost]; exact (pup_n (ne_cells hf46 hf52 (by nofun))).trans ((pnew_n (fun z => hq_b0 (by rw [← z]; exact hL45))).trans hf46)
      have hL60 : nn ∈ S54.1 := by rw [hpost]; exact List.mem_append_left _ hL47
      have hf61 : S54.2 nn = .inr (7, [.ref nb, .int (nI 0)]) := by rw [hpost]; exact (pup_n (by first | assumption | exact Ne.symm (by assumption))).trans ((pnew_n (fun z => hq_b0 (by rw [← z]; exact hL47))).trans hf48)
      have hL62 : nb ∈ S54.1 := by rw [hpost]; exact List.mem_append_left _ hL49
      have hf63 : S54.2 nb = aN (cy 0) 0 (fun _ => 0) := by rw [hpost]; exact (pup_n (ne_cells hf50 hf52 (by nofun))).trans ((pnew_n (fun z => hq_b0 (by rw [← z]; exact hL49))).trans hf50)
      have hL64 : r0 ∈ S54.1 := by rw [hpost]; exact List.mem_append_left _ hL51
      have hf65 : S54.2 r0 = .inr (7, [.ref b0, .int (nI 0)]) := by rw [hpost]; exact pup_s
      have hL66 : b0 ∈ S54.1 := by rw [hpost]; exact List.mem_append_right _ List.mem_cons_self
      have hf67 : S54.2 b0 = aN (cy 0) 32 (fun _ => 0) := by rw [hpost]; exact (pup_n (fun z => hq_b0 (by rw [z]; exact hL51))).trans pnew_s
      have hnS_b0 : b0 ∉ S.1 := fun z => hq_b0 (hfr53 _ z).1
      have hfr68 : ∀ a_, a_ ∈ S.1 → a_ ∈ S54.1 ∧ (a_ ≠ h → S54.2 a_ = S.2 a_) := fun a_ ha_ => ⟨by rw [hpost]; exact List.mem_append_left _ (hfr53 a_ ha_).1, fun hh_ => by rw [hpost]; exact (pup_n (fun z => hnS_r0 (by rw [← z]; exact ha_))).trans ((pnew_n (fun z => hnS_b0 (by rw [← z]; exact ha_))).trans ((hfr53 a_ ha_).2 hh_))⟩
      refine p_astq C hw 2 rfl hL58 hf59 hL64 hf65 rfl (by omega) (by omega) dX4_init_59 (fun H locs hw => ?_)
      obtain ⟨S69, hS69⟩ : ∃ z, z = pup S54 la (aQ (cy 2) 5 (va_up (fun _ => none) 0 (some r0))) := ⟨_, rfl⟩
      replace hw : pW D (pA S s.heap.size) s.heap S69 H locs := by rw [hS69]; exact hw
      have hL70 : h ∈ S69.1 := by rw [hS69]; exact hL56
      have hf71 : S69.2 h = .inr (4, [.ref la, .ref nn]) := by rw [hS69]; exact (pup_n (ne_cells hf57 hf59 (by nofun))).trans hf57
      have hL72 : nn ∈ S69.1 := by rw [hS69]; exact hL60
      have hf73 : S69.2 nn = .inr (7, [.ref nb, .int (nI 0)]) := by rw [hS69]; exact (pup_n (ne_cells hf61 hf59 (by nofun))).trans hf61
      have hL74 : nb ∈ S69.1 := by rw [hS69]; exact hL62
      have hf75 : S69.2 nb = aN (cy 0) 0 (fun _ => 0) := by rw [hS69]; exact (pup_n (ne_cells hf63 hf59 ne_NQ)).trans hf63
      have hL76 : r0 ∈ S69.1 := by rw [hS69]; exact hL64
      have hf77 : S69.2 r0 = .inr (7, [.ref b0, .int (nI 0)]) := by rw [hS69]; exact (pup_n (ne_cells hf65 hf59 (by nofun))).trans hf65
      have hL78 : b0 ∈ S69.1 := by rw [hS69]; exact hL66
      have hf79 : S69.2 b0 = aN (cy 0) 32 (fun _ => 0) := by rw [hS69]; exact (pup_n (ne_cells hf67 hf59 ne_NQ)).trans hf67
      have hL80 : la ∈ S69.1 := by rw [hS69]; exact hL58
      have hf81 : S69.2 la = aQ (cy 2) 5 (va_up (fun _ => none) 0 (some r0)) := by rw [hS69]; exact pup_s
      have hfr82 : ∀ a_, a_ ∈ S.1 → a_ ∈ S69.1 ∧ (a_ ≠ h → S69.2 a_ = S.2 a_) := fun a_ ha_ => ⟨by rw [hS69]; exact (hfr68 a_ ha_).1, fun hh_ => by rw [hS69]; exact (pup_n (fun z => hnS_la (by rw [← z]; exact ha_))).trans ((hfr68 a_ ha_).2 hh_)⟩
      refine lv_iinc (v := (nI 1)) (lv' := [(1, .int (nI 1)), (0, .ref h)]) hx hb dX4_init_60 hl (k := 0) rfl (by decide) (by decide) rfl (fun ls hl => ?_)
      refine lv_goto (tgt := 26) hx hb dX4_init_63 (by decide) ?_
      refine lv_iload_n hx hb dX4_init_26 rfl (lv_at hl 0 rfl) ?_
      refine lv_aload_n hx hb dX4_init_27 rfl (lv_at hl 1 rfl) ?_
      refine p_get C hw (ci := 4) (Cn := RX4) (T := TX4) (N := 2) hL70 hf71 rfl hin_RX4 0 (by decide) (List.mem_of_getElem? (i := 5) rfl) rfl rfl dX4_init_28 ?_
      refine n_len C hw 2 rfl hL80 hf81 (n := 5) rfl dX4_init_31 ?_
      refine n_icmp_ge (tgt := 66) hx hb (by omega) (by omega) dX4_init_32 (by decide) (fun h_32 => ?_) (fun h_32 => ?_)
      · omega
      · skip
        refine lv_aload_n hx hb dX4_init_35 rfl (lv_at hl 1 rfl) ?_
        refine p_get C hw (ci := 4) (Cn := RX4) (T := TX4) (N := 2) hL70 hf71 rfl hin_RX4 0 (by decide) (List.mem_of_getElem? (i := 5) rfl) rfl rfl dX4_init_36 ?_
        refine lv_iload_n hx hb dX4_init_39 rfl (lv_at hl 0 rfl) ?_
        refine p_new C hw hA (ci := 7) (Cn := RX7) (T := TX7) (N := 2) (fs := [.null, .int (nI 0)]) tyX7 tyX7_ok rfl hin_RX7 (List.mem_of_getElem? (i := 4) rfl) (List.mem_of_getElem? (i := 6) rfl) (List.mem_of_getElem? (i := 7) rfl) (fun j hj => by rcases (show j = 0 ∨ j = 1 by omega) with rfl | rfl <;> rfl) (Nat.le_of_ble_eq_true rfl) (Nat.le_of_ble_eq_true rfl) dX4_init_40 (fun r1 H hq_r1 hw => ?_)
        obtain ⟨S83, hS83⟩ : ∃ z, z = pnew S69 r1 (.inr (7, [.null, .int (nI 0)])) := ⟨_, rfl⟩
        replace hw : pW D (pA S s.heap.size) s.heap S83 H locs := by rw [hS83]; exact hw
        have hL84 : h ∈ S83.1 := by rw [hS83]; exact List.mem_append_left _ hL70
        have hf85 : S83.2 h = .inr (4, [.ref la, .ref nn]) := by rw [hS83]; exact (pnew_n (fun z : h = r1 => hq_r1 (by rw [← z]; exact hL70))).trans hf71
        have hL86 : la ∈ S83.1 := by rw [hS83]; exact List.mem_append_left _ hL80
        have hf87 : S83.2 la = aQ (cy 2) 5 (va_up (fun _ => none) 0 (some r0)) := by rw [hS83]; exact (pnew_n (fun z : la = r1 => hq_r1 (by rw [← z]; exact hL80))).trans hf81
        have hL88 : nn ∈ S83.1 := by rw [hS83]; exact List.mem_append_left _ hL72
        have hf89 : S83.2 nn = .inr (7, [.ref nb, .int (nI 0)]) := by rw [hS83]; exact (pnew_n (fun z : nn = r1 => hq_r1 (by rw [← z]; exact hL72))).trans hf73
        have hL90 : nb ∈ S83.1 := by rw [hS83]; exact List.mem_append_left _ hL74
        have hf91 : S83.2 nb = aN (cy 0) 0 (fun _ => 0) := by rw [hS83]; exact (pnew_n (fun z : nb = r1 => hq_r1 (by rw [← z]; exact hL74))).trans hf75
        have hL92 : r0 ∈ S83.1 := by rw [hS83]; exact List.mem_append_left _ hL76
        have hf93 : S83.2 r0 = .inr (7, [.ref b0, .int (nI 0)]) := by rw [hS83]; exact (pnew_n (fun z : r0 = r1 => hq_r1 (by rw [← z]; exact hL76))).trans hf77
        have hL94 : b0 ∈ S83.1 := by rw [hS83]; exact List.mem_append_left _ hL78
        have hf95 : S83.2 b0 = aN (cy 0) 32 (fun _ => 0) := by rw [hS83]; exact (pnew_n (fun z : b0 = r1 => hq_r1 (by rw [← z]; exact hL78))).trans hf79
        have hne_h_r1 : h ≠ r1 := fun z => hq_r1 (by rw [← z]; exact hL70)
        have hne_la_r1 : la ≠ r1 := fun z => hq_r1 (by rw [← z]; exact hL80)
        have hne_nn_r1 : nn ≠ r1 := fun z => hq_r1 (by rw [← z]; exact hL72)
        have hne_nb_r1 : nb ≠ r1 := fun z => hq_r1 (by rw [← z]; exact hL74)
        have hne_r0_r1 : r0 ≠ r1 := fun z => hq_r1 (by rw [← z]; exact hL76)
        have hne_b0_r1 : b0 ≠ r1 := fun z => hq_r1 (by rw [← z]; exact hL78)
        have hL96 : r1 ∈ S83.1 := by rw [hS83]; exact List.mem_append_right _ List.mem_cons_self
        have hf97 : S83.2 r1 = .inr (7, [.null, .int (nI 0)]) := by rw [hS83]; exact pnew_s
        have hnS_r1 : r1 ∉ S.1 := fun z => hq_r1 ((hfr82 _ z).1)
        have hfr98 : ∀ a_, a_ ∈ S.1 → a_ ∈ S83.1 ∧ (a_ ≠ h → S83.2 a_ = S.2 a_) := fun a_ ha_ => ⟨by rw [hS83]; exact List.mem_append_left _ (hfr82 a_ ha_).1, fun hh_ => by rw [hS83]; exact (pnew_n (fun z => hnS_r1 (by rw [← z]; exact ha_))).trans ((hfr82 a_ ha_).2 hh_)⟩
        refine lv_dup hx hb dX4_init_43 rfl ?_
        refine lv_iload_n hx hb dX4_init_44 rfl (lv_at hl 0 rfl) ?_
        refine n_if_ne (tgt := 53) hx hb (by omega) dX4_init_45 (by decide) (fun h_45 => ?_) (fun h_45 => ?_)
        · skip
          refine lv_sipush (v := nI 320) hx hb dX4_init_53 (by decide) ?_
          refine p_callv (va_runI (As := [.int (nI 320)]) (rest := [.ref r1, .int (nI 1), .ref la]) C.fix (c_X7_init l D cy S83 H.size r1 0 320 hL96 hf97 (by omega)) (cwI 1 C.2.2.2.2.1 gX4_init_X7_init rfl rfl rfl (C.2.2.2.2.1 (.initialized RX7) (List.mem_of_getElem? (i := 7) rfl)) (C.2.2.2.2.1 (.methodLink RX4 17 yX7_init) (List.mem_of_getElem? (i := 9) rfl)) (C.2.2.2.2.1 (.instanceMethod yX7_init) (List.mem_of_getElem? (i := 10) rfl)) rfl (by decide +kernel) ⟨Nat.le_of_ble_eq_true rfl, Nat.le_of_ble_eq_true rfl⟩) (p_preS C hw) rfl rfl hl.1 rfl (lv_room (Nat.le_of_ble_eq_true rfl)) dX4_init_56 ⟨Nat.le_of_ble_eq_true rfl, Nat.le_of_ble_eq_true rfl⟩) hw hA (fun S99 H locs hpost hw => ?_)
          obtain ⟨b1, hq_b1, hP_b1⟩ := hpost
          have hpost := hP_b1
          have hL101 : h ∈ S99.1 := by rw [hpost]; exact List.mem_append_left _ hL84
          have hf102 : S99.2 h = .inr (4, [.ref la, .ref nn]) := by rw [hpost]; exact (pup_n (ne_cells hf85 hf97 (by nofun))).trans ((pnew_n (fun z => hq_b1 (by rw [← z]; exact hL84))).trans hf85)
          have hL103 : la ∈ S99.1 := by rw [hpost]; exact List.mem_append_left _ hL86
          have hf104 : S99.2 la = aQ (cy 2) 5 (va_up (fun _ => none) 0 (some r0)) := by rw [hpost]; exact (pup_n (ne_cells hf87 hf97 (by nofun))).trans ((pnew_n (fun z => hq_b1 (by rw [← z]; exact hL86))).trans hf87)
          have hL105 : nn ∈ S99.1 := by rw [hpost]; exact List.mem_append_left _ hL88
          have hf106 : S99.2 nn = .inr (7, [.ref nb, .int (nI 0)]) := by rw [hpost]; exact (pup_n (by first | assumption | exact Ne.symm (by assumption))).trans ((pnew_n (fun z => hq_b1 (by rw [← z]; exact hL88))).trans hf89)
          have hL107 : nb ∈ S99.1 := by rw [hpost]; exact List.mem_append_left _ hL90
          have hf108 : S99.2 nb = aN (cy 0) 0 (fun _ => 0) := by rw [hpost]; exact (pup_n (ne_cells hf91 hf97 (by nofun))).trans ((pnew_n (fun z => hq_b1 (by rw [← z]; exact hL90))).trans hf91)
          have hL109 : r0 ∈ S99.1 := by rw [hpost]; exact List.mem_append_left _ hL92
          have hf110 : S99.2 r0 = .inr (7, [.ref b0, .int (nI 0)]) := by rw [hpost]; exact (pup_n (by first | assumption | exact Ne.symm (by assumption))).trans ((pnew_n (fun z => hq_b1 (by rw [← z]; exact hL92))).trans hf93)
          have hL111 : b0 ∈ S99.1 := by rw [hpost]; exact List.mem_append_left _ hL94
          have hf112 : S99.2 b0 = aN (cy 0) 32 (fun _ => 0) := by rw [hpost]; exact (pup_n (ne_cells hf95 hf97 (by nofun))).trans ((pnew_n (fun z => hq_b1 (by rw [← z]; exact hL94))).trans hf95)
          have hL113 : r1 ∈ S99.1 := by rw [hpost]; exact List.mem_append_left _ hL96
          have hf114 : S99.2 r1 = .inr (7, [.ref b1, .int (nI 0)]) := by rw [hpost]; exact pup_s
          have hL115 : b1 ∈ S99.1 := by rw [hpost]; exact List.mem_append_right _ List.mem_cons_self
          have hf116 : S99.2 b1 = aN (cy 0) 320 (fun _ => 0) := by rw [hpost]; exact (pup_n (fun z => hq_b1 (by rw [z]; exact hL96))).trans pnew_s
          have hnS_b1 : b1 ∉ S.1 := fun z => hq_b1 (hfr98 _ z).1
          have hfr117 : ∀ a_, a_ ∈ S.1 → a_ ∈ S99.1 ∧ (a_ ≠ h → S99.2 a_ = S.2 a_) := fun a_ ha_ => ⟨by rw [hpost]; exact List.mem_append_left _ (hfr98 a_ ha_).1, fun hh_ => by rw [hpost]; exact (pup_n (fun z => hnS_r1 (by rw [← z]; exact ha_))).trans ((pnew_n (fun z => hnS_b1 (by rw [← z]; exact ha_))).trans ((hfr98 a_ ha_).2 hh_))⟩
          refine p_astq C hw 2 rfl hL103 hf104 hL113 hf114 rfl (by omega) (by omega) dX4_init_59 (fun H locs hw => ?_)
          obtain ⟨S118, hS118⟩ : ∃ z, z = pup S99 la (aQ (cy 2) 5 (va_up (va_up (fun _ => none) 0 (some r0)) 1 (some r1))) := ⟨_, rfl⟩
          replace hw : pW D (pA S s.heap.size) s.heap S118 H locs := by rw [hS118]; exact hw
          have hL119 : h ∈ S118.1 := by rw [hS118]; exact hL101
          have hf120 : S118.2 h = .inr (4, [.ref la, .ref nn]) := by rw [hS118]; exact (pup_n (ne_cells hf102 hf104 (by nofun))).trans hf102
          have hL121 : nn ∈ S118.1 := by rw [hS118]; exact hL105
          have hf122 : S118.2 nn = .inr (7, [.ref nb, .int (nI 0)]) := by rw [hS118]; exact (pup_n (ne_cells hf106 hf104 (by nofun))).trans hf106
          have hL123 : nb ∈ S118.1 := by rw [hS118]; exact hL107
          have hf124 : S118.2 nb = aN (cy 0) 0 (fun _ => 0) := by rw [hS118]; exact (pup_n (ne_cells hf108 hf104 ne_NQ)).trans hf108
          have hL125 : r0 ∈ S118.1 := by rw [hS118]; exact hL109
          have hf126 : S118.2 r0 = .inr (7, [.ref b0, .int (nI 0)]) := by rw [hS118]; exact (pup_n (ne_cells hf110 hf104 (by nofun))).trans hf110
          have hL127 : b0 ∈ S118.1 := by rw [hS118]; exact hL111
          have hf128 : S118.2 b0 = aN (cy 0) 32 (fun _ => 0) := by rw [hS118]; exact (pup_n (ne_cells hf112 hf104 ne_NQ)).trans hf112
          have hL129 : r1 ∈ S118.1 := by rw [hS118]; exact hL113
          have hf130 : S118.2 r1 = .inr (7, [.ref b1, .int (nI 0)]) := by rw [hS118]; exact (pup_n (ne_cells hf114 hf104 (by nofun))).trans hf114
          have hL131 : b1 ∈ S118.1 := by rw [hS118]; exact hL115
          have hf132 : S118.2 b1 = aN (cy 0) 320 (fun _ => 0) := by rw [hS118]; exact (pup_n (ne_cells hf116 hf104 ne_NQ)).trans hf116
          have hL133 : la ∈ S118.1 := by rw [hS118]; exact hL103
          have hf134 : S118.2 la = aQ (cy 2) 5 (va_up (va_up (fun _ => none) 0 (some r0)) 1 (some r1)) := by rw [hS118]; exact pup_s
          have hfr135 : ∀ a_, a_ ∈ S.1 → a_ ∈ S118.1 ∧ (a_ ≠ h → S118.2 a_ = S.2 a_) := fun a_ ha_ => ⟨by rw [hS118]; exact (hfr117 a_ ha_).1, fun hh_ => by rw [hS118]; exact (pup_n (fun z => hnS_la (by rw [← z]; exact ha_))).trans ((hfr117 a_ ha_).2 hh_)⟩
          refine lv_iinc (v := (nI 2)) (lv' := [(1, .int (nI 2)), (0, .ref h)]) hx hb dX4_init_60 hl (k := 0) rfl (by decide) (by decide) rfl (fun ls hl => ?_)
          refine lv_goto (tgt := 26) hx hb dX4_init_63 (by decide) ?_
          refine lv_iload_n hx hb dX4_init_26 rfl (lv_at hl 0 rfl) ?_
          refine lv_aload_n hx hb dX4_init_27 rfl (lv_at hl 1 rfl) ?_
          refine p_get C hw (ci := 4) (Cn := RX4) (T := TX4) (N := 2) hL119 hf120 rfl hin_RX4 0 (by decide) (List.mem_of_getElem? (i := 5) rfl) rfl rfl dX4_init_28 ?_
          refine n_len C hw 2 rfl hL133 hf134 (n := 5) rfl dX4_init_31 ?_
          refine n_icmp_ge (tgt := 66) hx hb (by omega) (by omega) dX4_init_32 (by decide) (fun h_32 => ?_) (fun h_32 => ?_)
          · omega
          · skip
            refine lv_aload_n hx hb dX4_init_35 rfl (lv_at hl 1 rfl) ?_
            refine p_get C hw (ci := 4) (Cn := RX4) (T := TX4) (N := 2) hL119 hf120 rfl hin_RX4 0 (by decide) (List.mem_of_getElem? (i := 5) rfl) rfl rfl dX4_init_36 ?_
            refine lv_iload_n hx hb dX4_init_39 rfl (lv_at hl 0 rfl) ?_
            refine p_new C hw hA (ci := 7) (Cn := RX7) (T := TX7) (N := 2) (fs := [.null, .int (nI 0)]) tyX7 tyX7_ok rfl hin_RX7 (List.mem_of_getElem? (i := 4) rfl) (List.mem_of_getElem? (i := 6) rfl) (List.mem_of_getElem? (i := 7) rfl) (fun j hj => by rcases (show j = 0 ∨ j = 1 by omega) with rfl | rfl <;> rfl) (Nat.le_of_ble_eq_true rfl) (Nat.le_of_ble_eq_true rfl) dX4_init_40 (fun r2 H hq_r2 hw => ?_)
            obtain ⟨S136, hS136⟩ : ∃ z, z = pnew S118 r2 (.inr (7, [.null, .int (nI 0)])) := ⟨_, rfl⟩
            replace hw : pW D (pA S s.heap.size) s.heap S136 H locs := by rw [hS136]; exact hw
            have hL137 : h ∈ S136.1 := by rw [hS136]; exact List.mem_append_left _ hL119
            have hf138 : S136.2 h = .inr (4, [.ref la, .ref nn]) := by rw [hS136]; exact (pnew_n (fun z : h = r2 => hq_r2 (by rw [← z]; exact hL119))).trans hf120
            have hL139 : la ∈ S136.1 := by rw [hS136]; exact List.mem_append_left _ hL133
            have hf140 : S136.2 la = aQ (cy 2) 5 (va_up (va_up (fun _ => none) 0 (some r0)) 1 (some r1)) := by rw [hS136]; exact (pnew_n (fun z : la = r2 => hq_r2 (by rw [← z]; exact hL133))).trans hf134
            have hL141 : nn ∈ S136.1 := by rw [hS136]; exact List.mem_append_left _ hL121
            have hf142 : S136.2 nn = .inr (7, [.ref nb, .int (nI 0)]) := by rw [hS136]; exact (pnew_n (fun z : nn = r2 => hq_r2 (by rw [← z]; exact hL121))).trans hf122
            have hL143 : nb ∈ S136.1 := by rw [hS136]; exact List.mem_append_left _ hL123
            have hf144 : S136.2 nb = aN (cy 0) 0 (fun _ => 0) := by rw [hS136]; exact (pnew_n (fun z : nb = r2 => hq_r2 (by rw [← z]; exact hL123))).trans hf124
            have hL145 : r0 ∈ S136.1 := by rw [hS136]; exact List.mem_append_left _ hL125
            have hf146 : S136.2 r0 = .inr (7, [.ref b0, .int (nI 0)]) := by rw [hS136]; exact (pnew_n (fun z : r0 = r2 => hq_r2 (by rw [← z]; exact hL125))).trans hf126
            have hL147 : b0 ∈ S136.1 := by rw [hS136]; exact List.mem_append_left _ hL127
            have hf148 : S136.2 b0 = aN (cy 0) 32 (fun _ => 0) := by rw [hS136]; exact (pnew_n (fun z : b0 = r2 => hq_r2 (by rw [← z]; exact hL127))).trans hf128
            have hL149 : r1 ∈ S136.1 := by rw [hS136]; exact List.mem_append_left _ hL129
            have hf150 : S136.2 r1 = .inr (7, [.ref b1, .int (nI 0)]) := by rw [hS136]; exact (pnew_n (fun z : r1 = r2 => hq_r2 (by rw [← z]; exact hL129))).trans hf130
            have hL151 : b1 ∈ S136.1 := by rw [hS136]; exact List.mem_append_left _ hL131
            have hf152 : S136.2 b1 = aN (cy 0) 320 (fun _ => 0) := by rw [hS136]; exact (pnew_n (fun z : b1 = r2 => hq_r2 (by rw [← z]; exact hL131))).trans hf132
            have hne_h_r2 : h ≠ r2 := fun z => hq_r2 (by rw [← z]; exact hL119)
            have hne_la_r2 : la ≠ r2 := fun z => hq_r2 (by rw [← z]; exact hL133)
            have hne_nn_r2 : nn ≠ r2 := fun z => hq_r2 (by rw [← z]; exact hL121)
            have hne_nb_r2 : nb ≠ r2 := fun z => hq_r2 (by rw [← z]; exact hL123)
            have hne_r0_r2 : r0 ≠ r2 := fun z => hq_r2 (by rw [← z]; exact hL125)
            have hne_b0_r2 : b0 ≠ r2 := fun z => hq_r2 (by rw [← z]; exact hL127)
            have hne_r1_r2 : r1 ≠ r2 := fun z => hq_r2 (by rw [← z]; exact hL129)
            have hne_b1_r2 : b1 ≠ r2 := fun z => hq_r2 (by rw [← z]; exact hL131)
            have hL153 : r2 ∈ S136.1 := by rw [hS136]; exact List.mem_append_right _ List.mem_cons_self
            have hf154 : S136.2 r2 = .inr (7, [.null, .int (nI 0)]) := by rw [hS136]; exact pnew_s
            have hnS_r2 : r2 ∉ S.1 := fun z => hq_r2 ((hfr135 _ z).1)
            have hfr155 : ∀ a_, a_ ∈ S.1 → a_ ∈ S136.1 ∧ (a_ ≠ h → S136.2 a_ = S.2 a_) := fun a_ ha_ => ⟨by rw [hS136]; exact List.mem_append_left _ (hfr135 a_ ha_).1, fun hh_ => by rw [hS136]; exact (pnew_n (fun z => hnS_r2 (by rw [← z]; exact ha_))).trans ((hfr135 a_ ha_).2 hh_)⟩
            refine lv_dup hx hb dX4_init_43 rfl ?_
            refine lv_iload_n hx hb dX4_init_44 rfl (lv_at hl 0 rfl) ?_
            refine n_if_ne (tgt := 53) hx hb (by omega) dX4_init_45 (by decide) (fun h_45 => ?_) (fun h_45 => ?_)
            · skip
              refine lv_sipush (v := nI 320) hx hb dX4_init_53 (by decide) ?_
              refine p_callv (va_runI (As := [.int (nI 320)]) (rest := [.ref r2, .int (nI 2), .ref la]) C.fix (c_X7_init l D cy S136 H.size r2 0 320 hL153 hf154 (by omega)) (cwI 1 C.2.2.2.2.1 gX4_init_X7_init rfl rfl rfl (C.2.2.2.2.1 (.initialized RX7) (List.mem_of_getElem? (i := 7) rfl)) (C.2.2.2.2.1 (.methodLink RX4 17 yX7_init) (List.mem_of_getElem? (i := 9) rfl)) (C.2.2.2.2.1 (.instanceMethod yX7_init) (List.mem_of_getElem? (i := 10) rfl)) rfl (by decide +kernel) ⟨Nat.le_of_ble_eq_true rfl, Nat.le_of_ble_eq_true rfl⟩) (p_preS C hw) rfl rfl hl.1 rfl (lv_room (Nat.le_of_ble_eq_true rfl)) dX4_init_56 ⟨Nat.le_of_ble_eq_true rfl, Nat.le_of_ble_eq_true rfl⟩) hw hA (fun S156 H locs hpost hw => ?_)
              obtain ⟨b2, hq_b2, hP_b2⟩ := hpost
              have hpost := hP_b2
              have hL158 : h ∈ S156.1 := by rw [hpost]; exact List.mem_append_left _ hL137
              have hf159 : S156.2 h = .inr (4, [.ref la, .ref nn]) := by rw [hpost]; exact (pup_n (ne_cells hf138 hf154 (by nofun))).trans ((pnew_n (fun z => hq_b2 (by rw [← z]; exact hL137))).trans hf138)
              have hL160 : la ∈ S156.1 := by rw [hpost]; exact List.mem_append_left _ hL139
              have hf161 : S156.2 la = aQ (cy 2) 5 (va_up (va_up (fun _ => none) 0 (some r0)) 1 (some r1)) := by rw [hpost]; exact (pup_n (ne_cells hf140 hf154 (by nofun))).trans ((pnew_n (fun z => hq_b2 (by rw [← z]; exact hL139))).trans hf140)
              have hL162 : nn ∈ S156.1 := by rw [hpost]; exact List.mem_append_left _ hL141
              have hf163 : S156.2 nn = .inr (7, [.ref nb, .int (nI 0)]) := by rw [hpost]; exact (pup_n (by first | assumption | exact Ne.symm (by assumption))).trans ((pnew_n (fun z => hq_b2 (by rw [← z]; exact hL141))).trans hf142)
              have hL164 : nb ∈ S156.1 := by rw [hpost]; exact List.mem_append_left _ hL143
              have hf165 : S156.2 nb = aN (cy 0) 0 (fun _ => 0) := by rw [hpost]; exact (pup_n (ne_cells hf144 hf154 (by nofun))).trans ((pnew_n (fun z => hq_b2 (by rw [← z]; exact hL143))).trans hf144)
              have hL166 : r0 ∈ S156.1 := by rw [hpost]; exact List.mem_append_left _ hL145
              have hf167 : S156.2 r0 = .inr (7, [.ref b0, .int (nI 0)]) := by rw [hpost]; exact (pup_n (by first | assumption | exact Ne.symm (by assumption))).trans ((pnew_n (fun z => hq_b2 (by rw [← z]; exact hL145))).trans hf146)
              have hL168 : b0 ∈ S156.1 := by rw [hpost]; exact List.mem_append_left _ hL147
              have hf169 : S156.2 b0 = aN (cy 0) 32 (fun _ => 0) := by rw [hpost]; exact (pup_n (ne_cells hf148 hf154 (by nofun))).trans ((pnew_n (fun z => hq_b2 (by rw [← z]; exact hL147))).trans hf148)
              have hL170 : r1 ∈ S156.1 := by rw [hpost]; exact List.mem_append_left _ hL149
              have hf171 : S156.2 r1 = .inr (7, [.ref b1, .int (nI 0)]) := by rw [hpost]; exact (pup_n (by first | assumption | exact Ne.symm (by assumption))).trans ((pnew_n (fun z => hq_b2 (by rw [← z]; exact hL149))).trans hf150)
              have hL172 : b1 ∈ S156.1 := by rw [hpost]; exact List.mem_append_left _ hL151
              have hf173 : S156.2 b1 = aN (cy 0) 320 (fun _ => 0) := by rw [hpost]; exact (pup_n (ne_cells hf152 hf154 (by nofun))).trans ((pnew_n (fun z => hq_b2 (by rw [← z]; exact hL151))).trans hf152)
              have hL174 : r2 ∈ S156.1 := by rw [hpost]; exact List.mem_append_left _ hL153
              have hf175 : S156.2 r2 = .inr (7, [.ref b2, .int (nI 0)]) := by rw [hpost]; exact pup_s
              have hL176 : b2 ∈ S156.1 := by rw [hpost]; exact List.mem_append_right _ List.mem_cons_self
              have hf177 : S156.2 b2 = aN (cy 0) 320 (fun _ => 0) := by rw [hpost]; exact (pup_n (fun z => hq_b2 (by rw [z]; exact hL153))).trans pnew_s
              have hnS_b2 : b2 ∉ S.1 := fun z => hq_b2 (hfr155 _ z).1
              have hfr178 : ∀ a_, a_ ∈ S.1 → a_ ∈ S156.1 ∧ (a_ ≠ h → S156.2 a_ = S.2 a_) := fun a_ ha_ => ⟨by rw [hpost]; exact List.mem_append_left _ (hfr155 a_ ha_).1, fun hh_ => by rw [hpost]; exact (pup_n (fun z => hnS_r2 (by rw [← z]; exact ha_))).trans ((pnew_n (fun z => hnS_b2 (by rw [← z]; exact ha_))).trans ((hfr155 a_ ha_).2 hh_))⟩
              refine p_astq C hw 2 rfl hL160 hf161 hL174 hf175 rfl (by omega) (by omega) dX4_init_59 (fun H locs hw => ?_)
              obtain ⟨S179, hS179⟩ : ∃ z, z = pup S156 la (aQ (cy 2) 5 (va_up (va_up (va_up (fun _ => none) 0 (some r0)) 1 (some r1)) 2 (some r2))) := ⟨_, rfl⟩
              replace hw : pW D (pA S s.heap.size) s.heap S179 H locs := by rw [hS179]; exact hw
              have hL180 : h ∈ S179.1 := by rw [hS179]; exact hL158
              have hf181 : S179.2 h = .inr (4, [.ref la, .ref nn]) := by rw [hS179]; exact (pup_n (ne_cells hf159 hf161 (by nofun))).trans hf159
              have hL182 : nn ∈ S179.1 := by rw [hS179]; exact hL162
              have hf183 : S179.2 nn = .inr (7, [.ref nb, .int (nI 0)]) := by rw [hS179]; exact (pup_n (ne_cells hf163 hf161 (by nofun))).trans hf163
              have hL184 : nb ∈ S179.1 := by rw [hS179]; exact hL164
              have hf185 : S179.2 nb = aN (cy 0) 0 (fun _ => 0) := by rw [hS179]; exact (pup_n (ne_cells hf165 hf161 ne_NQ)).trans hf165
              have hL186 : r0 ∈ S179.1 := by rw [hS179]; exact hL166
              have hf187 : S179.2 r0 = .inr (7, [.ref b0, .int (nI 0)]) := by rw [hS179]; exact (pup_n (ne_cells hf167 hf161 (by nofun))).trans hf167
              have hL188 : b0 ∈ S179.1 := by rw [hS179]; exact hL168
              have hf189 : S179.2 b0 = aN (cy 0) 32 (fun _ => 0) := by rw [hS179]; exact (pup_n (ne_cells hf169 hf161 ne_NQ)).trans hf169
              have hL190 : r1 ∈ S179.1 := by rw [hS179]; exact hL170
              have hf191 : S179.2 r1 = .inr (7, [.ref b1, .int (nI 0)]) := by rw [hS179]; exact (pup_n (ne_cells hf171 hf161 (by nofun))).trans hf171
              have hL192 : b1 ∈ S179.1 := by rw [hS179]; exact hL172
              have hf193 : S179.2 b1 = aN (cy 0) 320 (fun _ => 0) := by rw [hS179]; exact (pup_n (ne_cells hf173 hf161 ne_NQ)).trans hf173
              have hL194 : r2 ∈ S179.1 := by rw [hS179]; exact hL174
              have hf195 : S179.2 r2 = .inr (7, [.ref b2, .int (nI 0)]) := by rw [hS179]; exact (pup_n (ne_cells hf175 hf161 (by nofun))).trans hf175
              have hL196 : b2 ∈ S179.1 := by rw [hS179]; exact hL176
              have hf197 : S179.2 b2 = aN (cy 0) 320 (fun _ => 0) := by rw [hS179]; exact (pup_n (ne_cells hf177 hf161 ne_NQ)).trans hf177
              have hL198 : la ∈ S179.1 := by rw [hS179]; exact hL160
              have hf199 : S179.2 la = aQ (cy 2) 5 (va_up (va_up (va_up (fun _ => none) 0 (some r0)) 1 (some r1)) 2 (some r2)) := by rw [hS179]; exact pup_s
              have hfr200 : ∀ a_, a_ ∈ S.1 → a_ ∈ S179.1 ∧ (a_ ≠ h → S179.2 a_ = S.2 a_) := fun a_ ha_ => ⟨by rw [hS179]; exact (hfr178 a_ ha_).1, fun hh_ => by rw [hS179]; exact (pup_n (fun z => hnS_la (by rw [← z]; exact ha_))).trans ((hfr178 a_ ha_).2 hh_)⟩
              refine lv_iinc (v := (nI 3)) (lv' := [(1, .int (nI 3)), (0, .ref h)]) hx hb dX4_init_60 hl (k := 0) rfl (by decide) (by decide) rfl (fun ls hl => ?_)
              refine lv_goto (tgt := 26) hx hb dX4_init_63 (by decide) ?_
              refine lv_iload_n hx hb dX4_init_26 rfl (lv_at hl 0 rfl) ?_
              refine lv_aload_n hx hb dX4_init_27 rfl (lv_at hl 1 rfl) ?_
              refine p_get C hw (ci := 4) (Cn := RX4) (T := TX4) (N := 2) hL180 hf181 rfl hin_RX4 0 (by decide) (List.mem_of_getElem? (i := 5) rfl) rfl rfl dX4_init_28 ?_
              refine n_len C hw 2 rfl hL198 hf199 (n := 5) rfl dX4_init_31 ?_
              refine n_icmp_ge (tgt := 66) hx hb (by omega) (by omega) dX4_init_32 (by decide) (fun h_32 => ?_) (fun h_32 => ?_)
              · omega
              · skip
                refine lv_aload_n hx hb dX4_init_35 rfl (lv_at hl 1 rfl) ?_
                refine p_get C hw (ci := 4) (Cn := RX4) (T := TX4) (N := 2) hL180 hf181 rfl hin_RX4 0 (by decide) (List.mem_of_getElem? (i := 5) rfl) rfl rfl dX4_init_36 ?_
                refine lv_iload_n hx hb dX4_init_39 rfl (lv_at hl 0 rfl) ?_
                refine p_new C hw hA (ci := 7) (Cn := RX7) (T := TX7) (N := 2) (fs := [.null, .int (nI 0)]) tyX7 tyX7_ok rfl hin_RX7 (List.mem_of_getElem? (i := 4) rfl) (List.mem_of_getElem? (i := 6) rfl) (List.mem_of_getElem? (i := 7) rfl) (fun j hj => by rcases (show j = 0 ∨ j = 1 by omega) with rfl | rfl <;> rfl) (Nat.le_of_ble_eq_true rfl) (Nat.le_of_ble_eq_true rfl) dX4_init_40 (fun r3 H hq_r3 hw => ?_)
                obtain ⟨S201, hS201⟩ : ∃ z, z = pnew S179 r3 (.inr (7, [.null, .int (nI 0)])) := ⟨_, rfl⟩
                replace hw : pW D (pA S s.heap.size) s.heap S201 H locs := by rw [hS201]; exact hw
                have hL202 : h ∈ S201.1 := by rw [hS201]; exact List.mem_append_left _ hL180
                have hf203 : S201.2 h = .inr (4, [.ref la, .ref nn]) := by rw [hS201]; exact (pnew_n (fun z : h = r3 => hq_r3 (by rw [← z]; exact hL180))).trans hf181
                have hL204 : la ∈ S201.1 := by rw [hS201]; exact List.mem_append_left _ hL198
                have hf205 : S201.2 la = aQ (cy 2) 5 (va_up (va_up (va_up (fun _ => none) 0 (some r0)) 1 (some r1)) 2 (some r2)) := by rw [hS201]; exact (pnew_n (fun z : la = r3 => hq_r3 (by rw [← z]; exact hL198))).trans hf199
                have hL206 : nn ∈ S201.1 := by rw [hS201]; exact List.mem_append_left _ hL182
                have hf207 : S201.2 nn = .inr (7, [.ref nb, .int (nI 0)]) := by rw [hS201]; exact (pnew_n (fun z : nn = r3 => hq_r3 (by rw [← z]; exact hL182))).trans hf183
                have hL208 : nb ∈ S201.1 := by rw [hS201]; exact List.mem_append_left _ hL184
                have hf209 : S201.2 nb = aN (cy 0) 0 (fun _ => 0) := by rw [hS201]; exact (pnew_n (fun z : nb = r3 => hq_r3 (by rw [← z]; exact hL184))).trans hf185
                have hL210 : r0 ∈ S201.1 := by rw [hS201]; exact List.mem_append_left _ hL186
                have hf211 : S201.2 r0 = .inr (7, [.ref b0, .int (nI 0)]) := by rw [hS201]; exact (pnew_n (fun z : r0 = r3 => hq_r3 (by rw [← z]; exact hL186))).trans hf187
                have hL212 : b0 ∈ S201.1 := by rw [hS201]; exact List.mem_append_left _ hL188
                have hf213 : S201.2 b0 = aN (cy 0) 32 (fun _ => 0) := by rw [hS201]; exact (pnew_n (fun z : b0 = r3 => hq_r3 (by rw [← z]; exact hL188))).trans hf189
                have hL214 : r1 ∈ S201.1 := by rw [hS201]; exact List.mem_append_left _ hL190
                have hf215 : S201.2 r1 = .inr (7, [.ref b1, .int (nI 0)]) := by rw [hS201]; exact (pnew_n (fun z : r1 = r3 => hq_r3 (by rw [← z]; exact hL190))).trans hf191
                have hL216 : b1 ∈ S201.1 := by rw [hS201]; exact List.mem_append_left _ hL192
                have hf217 : S201.2 b1 = aN (cy 0) 320 (fun _ => 0) := by rw [hS201]; exact (pnew_n (fun z : b1 = r3 => hq_r3 (by rw [← z]; exact hL192))).trans hf193
                have hL218 : r2 ∈ S201.1 := by rw [hS201]; exact List.mem_append_left _ hL194
                have hf219 : S201.2 r2 = .inr (7, [.ref b2, .int (nI 0)]) := by rw [hS201]; exact (pnew_n (fun z : r2 = r3 => hq_r3 (by rw [← z]; exact hL194))).trans hf195
                have hL220 : b2 ∈ S201.1 := by rw [hS201]; exact List.mem_append_left _ hL196
                have hf221 : S201.2 b2 = aN (cy 0) 320 (fun _ => 0) := by rw [hS201]; exact (pnew_n (fun z : b2 = r3 => hq_r3 (by rw [← z]; exact hL196))).trans hf197
                have hne_h_r3 : h ≠ r3 := fun z => hq_r3 (by rw [← z]; exact hL180)
                have hne_la_r3 : la ≠ r3 := fun z => hq_r3 (by rw [← z]; exact hL198)
                have hne_nn_r3 : nn ≠ r3 := fun z => hq_r3 (by rw [← z]; exact hL182)
                have hne_nb_r3 : nb ≠ r3 := fun z => hq_r3 (by rw [← z]; exact hL184)
                have hne_r0_r3 : r0 ≠ r3 := fun z => hq_r3 (by rw [← z]; exact hL186)
                have hne_b0_r3 : b0 ≠ r3 := fun z => hq_r3 (by rw [← z]; exact hL188)
                have hne_r1_r3 : r1 ≠ r3 := fun z => hq_r3 (by rw [← z]; exact hL190)
                have hne_b1_r3 : b1 ≠ r3 := fun z => hq_r3 (by rw [← z]; exact hL192)
                have hne_r2_r3 : r2 ≠ r3 := fun z => hq_r3 (by rw [← z]; exact hL194)
                have hne_b2_r3 : b2 ≠ r3 := fun z => hq_r3 (by rw [← z]; exact hL196)
                have hL222 : r3 ∈ S201.1 := by rw [hS201]; exact List.mem_append_right _ List.mem_cons_self
                have hf223 : S201.2 r3 = .inr (7, [.null, .int (nI 0)]) := by rw [hS201]; exact pnew_s
                have hnS_r3 : r3 ∉ S.1 := fun z => hq_r3 ((hfr200 _ z).1)
                have hfr224 : ∀ a_, a_ ∈ S.1 → a_ ∈ S201.1 ∧ (a_ ≠ h → S201.2 a_ = S.2 a_) := fun a_ ha_ => ⟨by rw [hS201]; exact List.mem_append_left _ (hfr200 a_ ha_).1, fun hh_ => by rw [hS201]; exact (pnew_n (fun z => hnS_r3 (by rw [← z]; exact ha_))).trans ((hfr200 a_ ha_).2 hh_)⟩
                refine lv_dup hx hb dX4_init_43 rfl ?_
                refine lv_iload_n hx hb dX4_init_44 rfl (lv_at hl 0 rfl) ?_
                refine n_if_ne (tgt := 53) hx hb (by omega) dX4_init_45 (by decide) (fun h_45 => ?_) (fun h_45 => ?_)
                · skip
                  refine lv_sipush (v := nI 320) hx hb dX4_init_53 (by decide) ?_
                  refine p_callv (va_runI (As := [.int (nI 320)]) (rest := [.ref r3, .int (nI 3), .ref la]) C.fix (c_X7_init l D cy S201 H.size r3 0 320 hL222 hf223 (by omega)) (cwI 1 C.2.2.2.2.1 gX4_init_X7_init rfl rfl rfl (C.2.2.2.2.1 (.initialized RX7) (List.mem_of_getElem? (i := 7) rfl)) (C.2.2.2.2.1 (.methodLink RX4 17 yX7_init) (List.mem_of_getElem? (i := 9) rfl)) (C.2.2.2.2.1 (.instanceMethod yX7_init) (List.mem_of_getElem? (i := 10) rfl)) rfl (by decide +kernel) ⟨Nat.le_of_ble_eq_true rfl, Nat.le_of_ble_eq_true rfl⟩) (p_preS C hw) rfl rfl hl.1 rfl (lv_room (Nat.le_of_ble_eq_true rfl)) dX4_init_56 ⟨Nat.le_of_ble_eq_true rfl, Nat.le_of_ble_eq_true rfl⟩) hw hA (fun S225 H locs hpost hw => ?_)
                  obtain ⟨b3, hq_b3, hP_b3⟩ := hpost
                  have hpost := hP_b3
                  have hL227 : h ∈ S225.1 := by rw [hpost]; exact List.mem_append_left _ hL202
                  have hf228 : S225.2 h = .inr (4, [.ref la, .ref nn]) := by rw [hpost]; exact (pup_n (ne_cells hf203 hf223 (by nofun))).trans ((pnew_n (fun z => hq_b3 (by rw [← z]; exact hL202))).trans hf203)
                  have hL229 : la ∈ S225.1 := by rw [hpost]; exact List.mem_append_left _ hL204
                  have hf230 : S225.2 la = aQ (cy 2) 5 (va_up (va_up (va_up (fun _ => none) 0 (some r0)) 1 (some r1)) 2 (some r2)) := by rw [hpost]; exact (pup_n (ne_cells hf205 hf223 (by nofun))).trans ((pnew_n (fun z => hq_b3 (by rw [← z]; exact hL204))).trans hf205)
                  have hL231 : nn ∈ S225.1 := by rw [hpost]; exact List.mem_append_left _ hL206
                  have hf232 : S225.2 nn = .inr (7, [.ref nb, .int (nI 0)]) := by rw [hpost]; exact (pup_n (by first | assumption | exact Ne.symm (by assumption))).trans ((pnew_n (fun z => hq_b3 (by rw [← z]; exact hL206))).trans hf207)
                  have hL233 : nb ∈ S225.1 := by rw [hpost]; exact List.mem_append_left _ hL208
                  have hf234 : S225.2 nb = aN (cy 0) 0 (fun _ => 0) := by rw [hpost]; exact (pup_n (ne_cells hf209 hf223 (by nofun))).trans ((pnew_n (fun z => hq_b3 (by rw [← z]; exact hL208))).trans hf209)
                  have hL235 : r0 ∈ S225.1 := by rw [hpost]; exact List.mem_append_left _ hL210
                  have hf236 : S225.2 r0 = .inr (7, [.ref b0, .int (nI 0)]) := by rw [hpost]; exact (pup_n (by first | assumption | exact Ne.symm (by assumption))).trans ((pnew_n (fun z => hq_b3 (by rw [← z]; exact hL210))).trans hf211)
                  have hL237 : b0 ∈ S225.1 := by rw [hpost]; exact List.mem_append_left _ hL212
                  have hf238 : S225.2 b0 = aN (cy 0) 32 (fun _ => 0) := by rw [hpost]; exact (pup_n (ne_cells hf213 hf223 (by nofun))).trans ((pnew_n (fun z => hq_b3 (by rw [← z]; exact hL212))).trans hf213)
                  have hL239 : r1 ∈ S225.1 := by rw [hpost]; exact List.mem_append_left _ hL214
                  have hf240 : S225.2 r1 = .inr (7, [.ref b1, .int (nI 0)]) := by rw [hpost]; exact (pup_n (by first | assumption | exact Ne.symm (by assumption))).trans ((pnew_n (fun z => hq_b3 (by rw [← z]; exact hL214))).trans hf215)
                  have hL241 : b1 ∈ S225.1 := by rw [hpost]; exact List.mem_append_left _ hL216
                  have hf242 : S225.2 b1 = aN (cy 0) 320 (fun _ => 0) := by rw [hpost]; exact (pup_n (ne_cells hf217 hf223 (by nofun))).trans ((pnew_n (fun z => hq_b3 (by rw [← z]; exact hL216))).trans hf217)
                  have hL243 : r2 ∈ S225.1 := by rw [hpost]; exact List.mem_append_left _ hL218
                  have hf244 : S225.2 r2 = .inr (7, [.ref b2, .int (nI 0)]) := by rw [hpost]; exact (pup_n (by first | assumption | exact Ne.symm (by assumption))).trans ((pnew_n (fun z => hq_b3 (by rw [← z]; exact hL218))).trans hf219)
                  have hL245 : b2 ∈ S225.1 := by rw [hpost]; exact List.mem_append_left _ hL220
                  have hf246 : S225.2 b2 = aN (cy 0) 320 (fun _ => 0) := by rw [hpost]; exact (pup_n (ne_cells hf221 hf223 (by nofun))).trans ((pnew_n (fun z => hq_b3 (by rw [← z]; exact hL220))).trans hf221)
                  have hL247 : r3 ∈ S225.1 := by rw [hpost]; exact List.mem_append_left _ hL222
                  have hf248 : S225.2 r3 = .inr (7, [.ref b3, .int (nI 0)]) := by rw [hpost]; exact pup_s
                  have hL249 : b3 ∈ S225.1 := by rw [hpost]; exact List.mem_append_right _ List.mem_cons_self
                  have hf250 : S225.2 b3 = aN (cy 0) 320 (fun _ => 0) := by rw [hpost]; exact (pup_n (fun z => hq_b3 (by rw [z]; exact hL222))).trans pnew_s
                  have hnS_b3 : b3 ∉ S.1 := fun z => hq_b3 (hfr224 _ z).1
                  have hfr251 : ∀ a_, a_ ∈ S.1 → a_ ∈ S225.1 ∧ (a_ ≠ h → S225.2 a_ = S.2 a_) := fun a_ ha_ => ⟨by rw [hpost]; exact List.mem_append_left _ (hfr224 a_ ha_).1, fun hh_ => by rw [hpost]; exact (pup_n (fun z => hnS_r3 (by rw [← z]; exact ha_))).trans ((pnew_n (fun z => hnS_b3 (by rw [← z]; exact ha_))).trans ((hfr224 a_ ha_).2 hh_))⟩
                  refine p_astq C hw 2 rfl hL229 hf230 hL247 hf248 rfl (by omega) (by omega) dX4_init_59 (fun H locs hw => ?_)
                  obtain ⟨S252, hS252⟩ : ∃ z, z = pup S225 la (aQ (cy 2) 5 (va_up (va_up (va_up (va_up (fun _ => none) 0 (some r0)) 1 (some r1)) 2 (some r2)) 3 (some r3))) := ⟨_, rfl⟩
                  replace hw : pW D (pA S s.heap.size) s.heap S252 H locs := by rw [hS252]; exact hw
                  have hL253 : h ∈ S252.1 := by rw [hS252]; exact hL227
                  have hf254 : S252.2 h = .inr (4, [.ref la, .ref nn]) := by rw [hS252]; exact (pup_n (ne_cells hf228 hf230 (by nofun))).trans hf228
                  have hL255 : nn ∈ S252.1 := by rw [hS252]; exact hL231
                  have hf256 : S252.2 nn = .inr (7, [.ref nb, .int (nI 0)]) := by rw [hS252]; exact (pup_n (ne_cells hf232 hf230 (by nofun))).trans hf232
                  have hL257 : nb ∈ S252.1 := by rw [hS252]; exact hL233
                  have hf258 : S252.2 nb = aN (cy 0) 0 (fun _ => 0) := by rw [hS252]; exact (pup_n (ne_cells hf234 hf230 ne_NQ)).trans hf234
                  have hL259 : r0 ∈ S252.1 := by rw [hS252]; exact hL235
                  have hf260 : S252.2 r0 = .inr (7, [.ref b0, .int (nI 0)]) := by rw [hS252]; exact (pup_n (ne_cells hf236 hf230 (by nofun))).trans hf236
                  have hL261 : b0 ∈ S252.1 := by rw [hS252]; exact hL237
                  have hf262 : S252.2 b0 = aN (cy 0) 32 (fun _ => 0) := by rw [hS252]; exact (pup_n (ne_cells hf238 hf230 ne_NQ)).trans hf238
                  have hL263 : r1 ∈ S252.1 := by rw [hS252]; exact hL239
                  have hf264 : S252.2 r1 = .inr (7, [.ref b1, .int (nI 0)]) := by rw [hS252]; exact (pup_n (ne_cells hf240 hf230 (by nofun))).trans hf240
                  have hL265 : b1 ∈ S252.1 := by rw [hS252]; exact hL241
                  have hf266 : S252.2 b1 = aN (cy 0) 320 (fun _ => 0) := by rw [hS252]; exact (pup_n (ne_cells hf242 hf230 ne_NQ)).trans hf242
                  have hL267 : r2 ∈ S252.1 := by rw [hS252]; exact hL243
                  have hf268 : S252.2 r2 = .inr (7, [.ref b2, .int (nI 0)]) := by rw [hS252]; exact (pup_n (ne_cells hf244 hf230 (by nofun))).trans hf244
                  have hL269 : b2 ∈ S252.1 := by rw [hS252]; exact hL245
                  have hf270 : S252.2 b2 = aN (cy 0) 320 (fun _ => 0) := by rw [hS252]; exact (pup_n (ne_cells hf246 hf230 ne_NQ)).trans hf246
                  have hL271 : r3 ∈ S252.1 := by rw [hS252]; exact hL247
                  have hf272 : S252.2 r3 = .inr (7, [.ref b3, .int (nI 0)]) := by rw [hS252]; exact (pup_n (ne_cells hf248 hf230 (by nofun))).trans hf248
                  have hL273 : b3 ∈ S252.1 := by rw [hS252]; exact hL249
                  have hf274 : S252.2 b3 = aN (cy 0) 320 (fun _ => 0) := by rw [hS252]; exact (pup_n (ne_cells hf250 hf230 ne_NQ)).trans hf250
                  have hL275 : la ∈ S252.1 := by rw [hS252]; exact hL229
                  have hf276 : S252.2 la = aQ (cy 2) 5 (va_up (va_up (va_up (va_up (fun _ => none) 0 (some r0)) 1 (some r1)) 2 (some r2)) 3 (some r3)) := by rw [hS252]; exact pup_s
                  have hfr277 : ∀ a_, a_ ∈ S.1 → a_ ∈ S252.1 ∧ (a_ ≠ h → S252.2 a_ = S.2 a_) := fun a_ ha_ => ⟨by rw [hS252]; exact (hfr251 a_ ha_).1, fun hh_ => by rw [hS252]; exact (pup_n (fun z => hnS_la (by rw [← z]; exact ha_))).trans ((hfr251 a_ ha_).2 hh_)⟩
                  refine lv_iinc (v := (nI 4)) (lv' := [(1, .int (nI 4)), (0, .ref h)]) hx hb dX4_init_60 hl (k := 0) rfl (by decide) (by decide) rfl (fun ls hl => ?_)
                  refine lv_goto (tgt := 26) hx hb dX4_init_63 (by decide) ?_
                  refine lv_iload_n hx hb dX4_init_26 rfl (lv_at hl 0 rfl) ?_
                  refine lv_aload_n hx hb dX4_init_27 rfl (lv_at hl 1 rfl) ?_
                  refine p_get C hw (ci := 4) (Cn := RX4) (T := TX4) (N := 2) hL253 hf254 rfl hin_RX4 0 (by decide) (List.mem_of_getElem? (i := 5) rfl) rfl rfl dX4_init_28 ?_
                  refine n_len C hw 2 rfl hL275 hf276 (n := 5) rfl dX4_init_31 ?_
                  refine n_icmp_ge (tgt := 66) hx hb (by omega) (by omega) dX4_init_32 (by decide) (fun h_32 => ?_) (fun h_32 => ?_)
                  · omega
                  · skip
                    refine lv_aload_n hx hb dX4_init_35 rfl (lv_at hl 1 rfl) ?_
                    refine p_get C hw (ci := 4) (Cn := RX4) (T := TX4) (N := 2) hL253 hf254 rfl hin_RX4 0 (by decide) (List.mem_of_getElem? (i := 5) rfl) rfl rfl dX4_init_36 ?_
                    refine lv_iload_n hx hb dX4_init_39 rfl (lv_at hl 0 rfl) ?_
                    refine p_new C hw hA (ci := 7) (Cn := RX7) (T := TX7) (N := 2) (fs := [.null, .int (nI 0)]) tyX7 tyX7_ok rfl hin_RX7 (List.mem_of_getElem? (i := 4) rfl) (List.mem_of_getElem? (i := 6) rfl) (List.mem_of_getElem? (i := 7) rfl) (fun j hj => by rcases (show j = 0 ∨ j = 1 by omega) with rfl | rfl <;> rfl) (Nat.le_of_ble_eq_true rfl) (Nat.le_of_ble_eq_true rfl) dX4_init_40 (fun r4 H hq_r4 hw => ?_)
                    obtain ⟨S278, hS278⟩ : ∃ z, z = pnew S252 r4 (.inr (7, [.null, .int (nI 0)])) := ⟨_, rfl⟩
                    replace hw : pW D (pA S s.heap.size) s.heap S278 H locs := by rw [hS278]; exact hw
                    have hL279 : h ∈ S278.1 := by rw [hS278]; exact List.mem_append_left _ hL253
                    have hf280 : S278.2 h = .inr (4, [.ref la, .ref nn]) := by rw [hS278]; exact (pnew_n (fun z : h = r4 => hq_r4 (by rw [← z]; exact hL253))).trans hf254
                    have hL281 : la ∈ S278.1 := by rw [hS278]; exact List.mem_append_left _ hL275
                    have hf282 : S278.2 la = aQ (cy 2) 5 (va_up (va_up (va_up (va_up (fun _ => none) 0 (some r0)) 1 (some r1)) 2 (some r2)) 3 (some r3)) := by rw [hS278]; exact (pnew_n (fun z : la = r4 => hq_r4 (by rw [← z]; exact hL275))).trans hf276
                    have hL283 : nn ∈ S278.1 := by rw [hS278]; exact List.mem_append_left _ hL255
                    have hf284 : S278.2 nn = .inr (7, [.ref nb, .int (nI 0)]) := by rw [hS278]; exact (pnew_n (fun z : nn = r4 => hq_r4 (by rw [← z]; exact hL255))).trans hf256
                    have hL285 : nb ∈ S278.1 := by rw [hS278]; exact List.mem_append_left _ hL257
                    have hf286 : S278.2 nb = aN (cy 0) 0 (fun _ => 0) := by rw [hS278]; exact (pnew_n (fun z : nb = r4 => hq_r4 (by rw [← z]; exact hL257))).trans hf258
                    have hL287 : r0 ∈ S278.1 := by rw [hS278]; exact List.mem_append_left _ hL259
                    have hf288 : S278.2 r0 = .inr (7, [.ref b0, .int (nI 0)]) := by rw [hS278]; exact (pnew_n (fun z : r0 = r4 => hq_r4 (by rw [← z]; exact hL259))).trans hf260
                    have hL289 : b0 ∈ S278.1 := by rw [hS278]; exact List.mem_append_left _ hL261
                    have hf290 : S278.2 b0 = aN (cy 0) 32 (fun _ => 0) := by rw [hS278]; exact (pnew_n (fun z : b0 = r4 => hq_r4 (by rw [← z]; exact hL261))).trans hf262
                    have hL291 : r1 ∈ S278.1 := by rw [hS278]; exact List.mem_append_left _ hL263
                    have hf292 : S278.2 r1 = .inr (7, [.ref b1, .int (nI 0)]) := by rw [hS278]; exact (pnew_n (fun z : r1 = r4 => hq_r4 (by rw [← z]; exact hL263))).trans hf264
                    have hL293 : b1 ∈ S278.1 := by rw [hS278]; exact List.mem_append_left _ hL265
                    have hf294 : S278.2 b1 = aN (cy 0) 320 (fun _ => 0) := by rw [hS278]; exact (pnew_n (fun z : b1 = r4 => hq_r4 (by rw [← z]; exact hL265))).trans hf266
                    have hL295 : r2 ∈ S278.1 := by rw [hS278]; exact List.mem_append_left _ hL267
                    have hf296 : S278.2 r2 = .inr (7, [.ref b2, .int (nI 0)]) := by rw [hS278]; exact (pnew_n (fun z : r2 = r4 => hq_r4 (by rw [← z]; exact hL267))).trans hf268
                    have hL297 : b2 ∈ S278.1 := by rw [hS278]; exact List.mem_append_left _ hL269
                    have hf298 : S278.2 b2 = aN (cy 0) 320 (fun _ => 0) := by rw [hS278]; exact (pnew_n (fun z : b2 = r4 => hq_r4 (by rw [← z]; exact hL269))).trans hf270
                    have hL299 : r3 ∈ S278.1 := by rw [hS278]; exact List.mem_append_left _ hL271
                    have hf300 : S278.2 r3 = .inr (7, [.ref b3, .int (nI 0)]) := by rw [hS278]; exact (pnew_n (fun z : r3 = r4 => hq_r4 (by rw [← z]; exact hL271))).trans hf272
                    have hL301 : b3 ∈ S278.1 := by rw [hS278]; exact List.mem_append_left _ hL273
                    have hf302 : S278.2 b3 = aN (cy 0) 320 (fun _ => 0) := by rw [hS278]; exact (pnew_n (fun z : b3 = r4 => hq_r4 (by rw [← z]; exact hL273))).trans hf274
                    have hne_h_r4 : h ≠ r4 := fun z => hq_r4 (by rw [← z]; exact hL253)
                    have hne_la_r4 : la ≠ r4 := fun z => hq_r4 (by rw [← z]; exact hL275)
                    have hne_nn_r4 : nn ≠ r4 := fun z => hq_r4 (by rw [← z]; exact hL255)
                    have hne_nb_r4 : nb ≠ r4 := fun z => hq_r4 (by rw [← z]; exact hL257)
                    have hne_r0_r4 : r0 ≠ r4 := fun z => hq_r4 (by rw [← z]; exact hL259)
                    have hne_b0_r4 : b0 ≠ r4 := fun z => hq_r4 (by rw [← z]; exact hL261)
                    have hne_r1_r4 : r1 ≠ r4 := fun z => hq_r4 (by rw [← z]; exact hL263)
                    have hne_b1_r4 : b1 ≠ r4 := fun z => hq_r4 (by rw [← z]; exact hL265)
                    have hne_r2_r4 : r2 ≠ r4 := fun z => hq_r4 (by rw [← z]; exact hL267)
                    have hne_b2_r4 : b2 ≠ r4 := fun z => hq_r4 (by rw [← z]; exact hL269)
                    have hne_r3_r4 : r3 ≠ r4 := fun z => hq_r4 (by rw [← z]; exact hL271)
                    have hne_b3_r4 : b3 ≠ r4 := fun z => hq_r4 (by rw [← z]; exact hL273)
                    have hL303 : r4 ∈ S278.1 := by rw [hS278]; exact List.mem_append_right _ List.mem_cons_self
                    have hf304 : S278.2 r4 = .inr (7, [.null, .int (nI 0)]) := by rw [hS278]; exact pnew_s
                    have hnS_r4 : r4 ∉ S.1 := fun z => hq_r4 ((hfr277 _ z).1)
                    have hfr305 : ∀ a_, a_ ∈ S.1 → a_ ∈ S278.1 ∧ (a_ ≠ h → S278.2 a_ = S.2 a_) := fun a_ ha_ => ⟨by rw [hS278]; exact List.mem_append_left _ (hfr277 a_ ha_).1, fun hh_ => by rw [hS278]; exact (pnew_n (fun z => hnS_r4 (by rw [← z]; exact ha_))).trans ((hfr277 a_ ha_).2 hh_)⟩
                    refine lv_dup hx hb dX4_init_43 rfl ?_
                    refine lv_iload_n hx hb dX4_init_44 rfl (lv_at hl 0 rfl) ?_
                    refine n_if_ne (tgt := 53) hx hb (by omega) dX4_init_45 (by decide) (fun h_45 => ?_) (fun h_45 => ?_)
                    · skip
                      refine lv_sipush (v := nI 320) hx hb dX4_init_53 (by decide) ?_
                      refine p_callv (va_runI (As := [.int (nI 320)]) (rest := [.ref r4, .int (nI 4), .ref la]) C.fix (c_X7_init l D cy S278 H.size r4 0 320 hL303 hf304 (by omega)) (cwI 1 C.2.2.2.2.1 gX4_init_X7_init rfl rfl rfl (C.2.2.2.2.1 (.initialized RX7) (List.mem_of_getElem? (i := 7) rfl)) (C.2.2.2.2.1 (.methodLink RX4 17 yX7_init) (List.mem_of_getElem? (i := 9) rfl)) (C.2.2.2.2.1 (.instanceMethod yX7_init) (List.mem_of_getElem? (i := 10) rfl)) rfl (by decide +kernel) ⟨Nat.le_of_ble_eq_true rfl, Nat.le_of_ble_eq_true rfl⟩) (p_preS C hw) rfl rfl hl.1 rfl (lv_room (Nat.le_of_ble_eq_true rfl)) dX4_init_56 ⟨Nat.le_of_ble_eq_true rfl, Nat.le_of_ble_eq_true rfl⟩) hw hA (fun S306 H locs hpost hw => ?_)
                      obtain ⟨b4, hq_b4, hP_b4⟩ := hpost
                      have hpost := hP_b4
                      have hL308 : h ∈ S306.1 := by rw [hpost]; exact List.mem_append_left _ hL279
                      have hf309 : S306.2 h = .inr (4, [.ref la, .ref nn]) := by rw [hpost]; exact (pup_n (ne_cells hf280 hf304 (by nofun))).trans ((pnew_n (fun z => hq_b4 (by rw [← z]; exact hL279))).trans hf280)
                      have hL310 : la ∈ S306.1 := by rw [hpost]; exact List.mem_append_left _ hL281
                      have hf311 : S306.2 la = aQ (cy 2) 5 (va_up (va_up (va_up (va_up (fun _ => none) 0 (some r0)) 1 (some r1)) 2 (some r2)) 3 (some r3)) := by rw [hpost]; exact (pup_n (ne_cells hf282 hf304 (by nofun))).trans ((pnew_n (fun z => hq_b4 (by rw [← z]; exact hL281))).trans hf282)
                      have hL312 : nn ∈ S306.1 := by rw [hpost]; exact List.mem_append_left _ hL283
                      have hf313 : S306.2 nn = .inr (7, [.ref nb, .int (nI 0)]) := by rw [hpost]; exact (pup_n (by first | assumption | exact Ne.symm (by assumption))).trans ((pnew_n (fun z => hq_b4 (by rw [← z]; exact hL283))).trans hf284)
                      have hL314 : nb ∈ S306.1 := by rw [hpost]; exact List.mem_append_left _ hL285
                      have hf315 : S306.2 nb = aN (cy 0) 0 (fun _ => 0) := by rw [hpost]; exact (pup_n (ne_cells hf286 hf304 (by nofun))).trans ((pnew_n (fun z => hq_b4 (by rw [← z]; exact hL285))).trans hf286)
                      have hL316 : r0 ∈ S306.1 := by rw [hpost]; exact List.mem_append_left _ hL287
                      have hf317 : S306.2 r0 = .inr (7, [.ref b0, .int (nI 0)]) := by rw [hpost]; exact (pup_n (by first | assumption | exact Ne.symm (by assumption))).trans ((pnew_n (fun z => hq_b4 (by rw [← z]; exact hL287))).trans hf288)
                      have hL318 : b0 ∈ S306.1 := by rw [hpost]; exact List.mem_append_left _ hL289
                      have hf319 : S306.2 b0 = aN (cy 0) 32 (fun _ => 0) := by rw [hpost]; exact (pup_n (ne_cells hf290 hf304 (by nofun))).trans ((pnew_n (fun z => hq_b4 (by rw [← z]; exact hL289))).trans hf290)
                      have hL320 : r1 ∈ S306.1 := by rw [hpost]; exact List.mem_append_left _ hL291
                      have hf321 : S306.2 r1 = .inr (7, [.ref b1, .int (nI 0)]) := by rw [hpost]; exact (pup_n (by first | assumption | exact Ne.symm (by assumption))).trans ((pnew_n (fun z => hq_b4 (by rw [← z]; exact hL291))).trans hf292)
                      have hL322 : b1 ∈ S306.1 := by rw [hpost]; exact List.mem_append_left _ hL293
                      have hf323 : S306.2 b1 = aN (cy 0) 320 (fun _ => 0) := by rw [hpost]; exact (pup_n (ne_cells hf294 hf304 (by nofun))).trans ((pnew_n (fun z => hq_b4 (by rw [← z]; exact hL293))).trans hf294)
                      have hL324 : r2 ∈ S306.1 := by rw [hpost]; exact List.mem_append_left _ hL295
                      have hf325 : S306.2 r2 = .inr (7, [.ref b2, .int (nI 0)]) := by rw [hpost]; exact (pup_n (by first | assumption | exact Ne.symm (by assumption))).trans ((pnew_n (fun z => hq_b4 (by rw [← z]; exact hL295))).trans hf296)
                      have hL326 : b2 ∈ S306.1 := by rw [hpost]; exact List.mem_append_left _ hL297
                      have hf327 : S306.2 b2 = aN (cy 0) 320 (fun _ => 0) := by rw [hpost]; exact (pup_n (ne_cells hf298 hf304 (by nofun))).trans ((pnew_n (fun z => hq_b4 (by rw [← z]; exact hL297))).trans hf298)
                      have hL328 : r3 ∈ S306.1 := by rw [hpost]; exact List.mem_append_left _ hL299
                      have hf329 : S306.2 r3 = .inr (7, [.ref b3, .int (nI 0)]) := by rw [hpost]; exact (pup_n (by first | assumption | exact Ne.symm (by assumption))).trans ((pnew_n (fun z => hq_b4 (by rw [← z]; exact hL299))).trans hf300)
                      have hL330 : b3 ∈ S306.1 := by rw [hpost]; exact List.mem_append_left _ hL301
                      have hf331 : S306.2 b3 = aN (cy 0) 320 (fun _ => 0) := by rw [hpost]; exact (pup_n (ne_cells hf302 hf304 (by nofun))).trans ((pnew_n (fun z => hq_b4 (by rw [← z]; exact hL301))).trans hf302)
                      have hL332 : r4 ∈ S306.1 := by rw [hpost]; exact List.mem_append_left _ hL303
                      have hf333 : S306.2 r4 = .inr (7, [.ref b4, .int (nI 0)]) := by rw [hpost]; exact pup_s
                      have hL334 : b4 ∈ S306.1 := by rw [hpost]; exact List.mem_append_right _ List.mem_cons_self
                      have hf335 : S306.2 b4 = aN (cy 0) 320 (fun _ => 0) := by rw [hpost]; exact (pup_n (fun z => hq_b4 (by rw [z]; exact hL303))).trans pnew_s
                      have hnS_b4 : b4 ∉ S.1 := fun z => hq_b4 (hfr305 _ z).1
                      have hfr336 : ∀ a_, a_ ∈ S.1 → a_ ∈ S306.1 ∧ (a_ ≠ h → S306.2 a_ = S.2 a_) := fun a_ ha_ => ⟨by rw [hpost]; exact List.mem_append_left _ (hfr305 a_ ha_).1, fun hh_ => by rw [hpost]; exact (pup_n (fun z => hnS_r4 (by rw [← z]; exact ha_))).trans ((pnew_n (fun z => hnS_b4 (by rw [← z]; exact ha_))).trans ((hfr305 a_ ha_).2 hh_))⟩
                      refine p_astq C hw 2 rfl hL310 hf311 hL332 hf333 rfl (by omega) (by omega) dX4_init_59 (fun H locs hw => ?_)
                      obtain ⟨S337, hS337⟩ : ∃ z, z = pup S306 la (aQ (cy 2) 5 (va_up (va_up (va_up (va_up (va_up (fun _ => none) 0 (some r0)) 1 (some r1)) 2 (some r2)) 3 (some r3)) 4 (some r4))) := ⟨_, rfl⟩
                      replace hw : pW D (pA S s.heap.size) s.heap S337 H locs := by rw [hS337]; exact hw
                      have hL338 : h ∈ S337.1 := by rw [hS337]; exact hL308
                      have hf339 : S337.2 h = .inr (4, [.ref la, .ref nn]) := by rw [hS337]; exact (pup_n (ne_cells hf309 hf311 (by nofun))).trans hf309
                      have hL340 : nn ∈ S337.1 := by rw [hS337]; exact hL312
                      have hf341 : S337.2 nn = .inr (7, [.ref nb, .int (nI 0)]) := by rw [hS337]; exact (pup_n (ne_cells hf313 hf311 (by nofun))).trans hf313
                      have hL342 : nb ∈ S337.1 := by rw [hS337]; exact hL314
                      have hf343 : S337.2 nb = aN (cy 0) 0 (fun _ => 0) := by rw [hS337]; exact (pup_n (ne_cells hf315 hf311 ne_NQ)).trans hf315
                      have hL344 : r0 ∈ S337.1 := by rw [hS337]; exact hL316
                      have hf345 : S337.2 r0 = .inr (7, [.ref b0, .int (nI 0)]) := by rw [hS337]; exact (pup_n (ne_cells hf317 hf311 (by nofun))).trans hf317
                      have hL346 : b0 ∈ S337.1 := by rw [hS337]; exact hL318
                      have hf347 : S337.2 b0 = aN (cy 0) 32 (fun _ => 0) := by rw [hS337]; exact (pup_n (ne_cells hf319 hf311 ne_NQ)).trans hf319
                      have hL348 : r1 ∈ S337.1 := by rw [hS337]; exact hL320
                      have hf349 : S337.2 r1 = .inr (7, [.ref b1, .int (nI 0)]) := by rw [hS337]; exact (pup_n (ne_cells hf321 hf311 (by nofun))).trans hf321
                      have hL350 : b1 ∈ S337.1 := by rw [hS337]; exact hL322
                      have hf351 : S337.2 b1 = aN (cy 0) 320 (fun _ => 0) := by rw [hS337]; exact (pup_n (ne_cells hf323 hf311 ne_NQ)).trans hf323
                      have hL352 : r2 ∈ S337.1 := by rw [hS337]; exact hL324
                      have hf353 : S337.2 r2 = .inr (7, [.ref b2, .int (nI 0)]) := by rw [hS337]; exact (pup_n (ne_cells hf325 hf311 (by nofun))).trans hf325
                      have hL354 : b2 ∈ S337.1 := by rw [hS337]; exact hL326
                      have hf355 : S337.2 b2 = aN (cy 0) 320 (fun _ => 0) := by rw [hS337]; exact (pup_n (ne_cells hf327 hf311 ne_NQ)).trans hf327
                      have hL356 : r3 ∈ S337.1 := by rw [hS337]; exact hL328
                      have hf357 : S337.2 r3 = .inr (7, [.ref b3, .int (nI 0)]) := by rw [hS337]; exact (pup_n (ne_cells hf329 hf311 (by nofun))).trans hf329
                      have hL358 : b3 ∈ S337.1 := by rw [hS337]; exact hL330
                      have hf359 : S337.2 b3 = aN (cy 0) 320 (fun _ => 0) := by rw [hS337]; exact (pup_n (ne_cells hf331 hf311 ne_NQ)).trans hf331
                      have hL360 : r4 ∈ S337.1 := by rw [hS337]; exact hL332
                      have hf361 : S337.2 r4 = .inr (7, [.ref b4, .int (nI 0)]) := by rw [hS337]; exact (pup_n (ne_cells hf333 hf311 (by nofun))).trans hf333
                      have hL362 : b4 ∈ S337.1 := by rw [hS337]; exact hL334
                      have hf363 : S337.2 b4 = aN (cy 0) 320 (fun _ => 0) := by rw [hS337]; exact (pup_n (ne_cells hf335 hf311 ne_NQ)).trans hf335
                      have hL364 : la ∈ S337.1 := by rw [hS337]; exact hL310
                      have hf365 : S337.2 la = aQ (cy 2) 5 (va_up (va_up (va_up (va_up (va_up (fun _ => none) 0 (some r0)) 1 (some r1)) 2 (some r2)) 3 (some r3)) 4 (some r4)) := by rw [hS337]; exact pup_s
                      have hfr366 : ∀ a_, a_ ∈ S.1 → a_ ∈ S337.1 ∧ (a_ ≠ h → S337.2 a_ = S.2 a_) := fun a_ ha_ => ⟨by rw [hS337]; exact (hfr336 a_ ha_).1, fun hh_ => by rw [hS337]; exact (pup_n (fun z => hnS_la (by rw [← z]; exact ha_))).trans ((hfr336 a_ ha_).2 hh_)⟩
                      refine lv_iinc (v := (nI 5)) (lv' := [(1, .int (nI 5)), (0, .ref h)]) hx hb dX4_init_60 hl (k := 0) rfl (by decide) (by decide) rfl (fun ls hl => ?_)
                      refine lv_goto (tgt := 26) hx hb dX4_init_63 (by decide) ?_
                      refine lv_iload_n hx hb dX4_init_26 rfl (lv_at hl 0 rfl) ?_
                      refine lv_aload_n hx hb dX4_init_27 rfl (lv_at hl 1 rfl) ?_
                      refine p_get C hw (ci := 4) (Cn := RX4) (T := TX4) (N := 2) hL338 hf339 rfl hin_RX4 0 (by decide) (List.mem_of_getElem? (i := 5) rfl) rfl rfl dX4_init_28 ?_
                      refine n_len C hw 2 rfl hL364 hf365 (n := 5) rfl dX4_init_31 ?_
                      refine n_icmp_ge (tgt := 66) hx hb (by omega) (by omega) dX4_init_32 (by decide) (fun h_32 => ?_) (fun h_32 => ?_)
                      · skip
                        exact p_vret C hw ⟨la, nn, nb, r0, b0, r1, b1, r2, b2, r3, b3, r4, b4, by rw [hS337, hP_b4, hS278, hS252, hP_b3, hS201, hS179, hP_b2, hS136, hS118, hP_b1, hS83, hS69, hP_b0, hS42, hS32, hP_nb, hS13, hS7, hS1]; simp only [pup, pnew, List.append_assoc, List.cons_append, List.nil_append], fun a_ ha_ hh_ => (hfr366 a_ ha_).2 hh_, hf339, hf365, hf341, hf343, hf345, hf347, hf349, hf351, hf353, hf355, hf357, hf359, hf361, hf363⟩ hr hlocks dX4_init_66
                      · omega
                    · omega
                · omega
            · omega
        · omega
