/-- the stage of a number, or none -/
def stq (lq : Nat → Option Nat) (n : Nat) (x : Int32) : Option Nat := if x < 0 ∨ nI n ≤ x then none else lq x.toNatClampNeg
theorem stq_in {lq : Nat → Option Nat} {n j : Nat} (hj : j < n) (hn : n < 2 ^ 31) : stq lq n (nI j) = lq j := by
  unfold stq
  rw [if_neg (fun z => z.elim (nI_pos (by omega)) (nI_ge hj hn)), nI_clamp (by omega)]
theorem rharm_2 {g : Nat → Nat} {n k a b c : Nat} (h : k = 2) : rharm g n k a b c = rburst g n a b c n := if_pos h
theorem rharm_13 {g : Nat → Nat} {n k a b c : Nat} (h : k = 1 ∨ k = 3) : rharm g n k a b c = rscat g n k a b n := by
  unfold rharm; rw [if_neg (by omega), if_pos h]
theorem rharm_0 {g : Nat → Nat} {n k a b c : Nat} (h : k ≠ 1 ∧ k ≠ 2 ∧ k ≠ 3) : rharm g n k a b c = g := by
  unfold rharm; rw [if_neg (by omega), if_neg (by omega)]
theorem stq_out {lq : Nat → Option Nat} {n : Nat} {x : Int32} (h : x < 0 ∨ nI n ≤ x) : stq lq n x = none := if_pos h
set_option maxHeartbeats 4000000 in
set_option maxRecDepth 100000 in
/-- Row(int) -/
theorem c_X7_init (l : Launch) (D : va_G) (cy : Nat → ClassId) (S : pS) (sz : Nat) (h z0 w : Nat) (hL_h : h ∈ S.1) (hf_h : S.2 h = .inr (7, [.null, .int (nI z0)])) (hw0 : w < 2 ^ 26) : Met l yX7_init wsX7_init ({ frames := 1, cells := 1, slots := w, locals := 21 }) (pPc D cy S sz [.ref h, .int (nI w)]) (pQv D cy S sz (fun S' => ∃ q, q ∉ S.1 ∧ S' = pup (pnew S q (aN (cy 0) w (fun _ => 0))) h (.inr (7, [.ref q, .int (nI 0)])))) 1 w (pA S sz) := by
  refine Met.ofW (cc := cX7_init) (maxL := 2) (ret := none) (by decide) rfl ?_
  intro p e s m args below meth c s₁ B hml hv
  have hin : meth.name = "<init>" := (name_of_methodNamed B.named B.method).1
  obtain ⟨rfl, rfl, C, hw, hA, hr, hlocks⟩ := p_start B hml hv
  have hx := C.1
  have hb := C.2.1
  have hl := lv_entry ([.ref h, .int (nI w)]) (n := 2) (Nat.le_of_ble_eq_true rfl)
  rw [lg_entry_eq]
  generalize (lg_sl ([.ref h, .int (nI w)]) ++ List.replicate (2 - (lg_sl ([.ref h, .int (nI w)])).length) Slot.unset).toArray = ls at hl ⊢
  have hl : lv_has ls 2 [(0, .ref h), (1, .int (nI w))] := hl
  have hin_RX7 : ∀ w ∈ u_ws RX7 TX7 2, w ∈ wsX7_init := by decide +kernel
  refine lv_aload_n hx hb dX7_init_0 rfl (lv_at hl 0 rfl) ?_
  refine W.objInit hx hb C.2.2.2.1 (C.2.2.2.2.1 (.methodLink RX7 3 objectInit) (by decide +kernel)) (C.2.2.2.2.1 (.instanceMethod objectInit) (by decide +kernel)) (C.2.2.2.2.1 _ (List.mem_of_getElem? (i := 3) rfl)) rfl (by rw [hml]; exact hl.1) rfl dX7_init_1 (Nat.le_of_ble_eq_true rfl) (Nat.le_of_ble_eq_true rfl) ?_
  refine W.eq (g2 := F0 m 4 ls []) rfl ?_
  refine lv_aload_n hx hb dX7_init_4 rfl (lv_at hl 0 rfl) ?_
  refine lv_iconst (v := nI 0) hx hb dX7_init_5 (by decide) ?_
  refine p_put C hw (ci := 7) (Cn := RX7) (T := TX7) (N := 2) tyX7 tyX7_ok nmX7 hL_h hf_h rfl hin_RX7 1 (by decide) (List.mem_of_getElem? (i := 4) rfl) rfl rfl rfl rfl rfl (by simp) dX7_init_6 rfl (fun H locs hw => ?_)
  obtain ⟨S1, hS1⟩ : ∃ z, z = pup S h (.inr (7, [.null, .int (nI 0)])) := ⟨_, rfl⟩
  replace hw : pW D (pA S s.heap.size) s.heap S1 H locs := by rw [hS1]; exact hw
  have hL2 : h ∈ S1.1 := by rw [hS1]; exact hL_h
  have hf3 : S1.2 h = .inr (7, [.null, .int (nI 0)]) := by rw [hS1]; exact pup_s
  refine lv_aload_n hx hb dX7_init_9 rfl (lv_at hl 0 rfl) ?_
  refine lv_iconst (v := nI 0) hx hb dX7_init_10 (by decide) ?_
  refine lv_iload_n hx hb dX7_init_11 rfl (lv_at hl 1 rfl) ?_
  refine n_mmax C hl.1.symm (index := 15) (List.mem_of_getElem? (i := 5) rfl) (List.mem_of_getElem? (i := 6) rfl) (List.mem_of_getElem? (i := 7) rfl) (List.mem_of_getElem? (i := 8) rfl) (Nat.le_of_ble_eq_true rfl) (Nat.le_of_ble_eq_true rfl) (Nat.le_of_ble_eq_true rfl) (Nat.le_of_ble_eq_true rfl) (by omega) (by omega) dX7_init_12 ?_
  refine n_ren (b := w) (by omega) ?_
  refine n_newa C hw hA (by decide +kernel) 0 rfl (n := w) (by omega) (Nat.le_of_ble_eq_true rfl) (by show 0 + w ≤ w; omega) dX7_init_15 (fun q H hq_q hw => ?_)
  have hq0 : q ∉ S.1 := by rw [hS1] at hq_q; exact hq_q
  have hne0 : h ≠ q := fun z => hq0 (z ▸ hL_h)
  obtain ⟨S4, hS4⟩ : ∃ z, z = pnew S1 q (aN (cy 0) w (fun _ => 0)) := ⟨_, rfl⟩
  replace hw : pW D (pA S s.heap.size) s.heap S4 H locs := by rw [hS4]; exact hw
  have hL5 : h ∈ S4.1 := by rw [hS4]; exact List.mem_append_left _ hL2
  have hf6 : S4.2 h = .inr (7, [.null, .int (nI 0)]) := by rw [hS4]; exact (pnew_n (fun z : h = q => hq_q (by rw [← z]; exact hL2))).trans hf3
  have hL7 : q ∈ S4.1 := by rw [hS4]; exact List.mem_append_right _ List.mem_cons_self
  have hf8 : S4.2 q = aN (cy 0) w (fun _ => 0) := by rw [hS4]; exact pnew_s
  refine W.widen (k := 1) (n := w) (by omega) (by omega) ?_
  refine p_putF C hw (ci := 7) (Cn := RX7) (T := TX7) (N := 2) tyX7 tyX7_ok nmX7 hL5 hf6 rfl hin_RX7 0 (by decide) (List.mem_of_getElem? (i := 10) rfl) rfl rfl hin rfl rfl rfl rfl (by simp) dX7_init_17 rfl (fun H locs hw => ?_)
  obtain ⟨S9, hS9⟩ : ∃ z, z = pup S4 h (.inr (7, [.ref q, .int (nI 0)])) := ⟨_, rfl⟩
  replace hw : pW D (pA S s.heap.size) s.heap S9 H locs := by rw [hS9]; exact hw
  have hL10 : q ∈ S9.1 := by rw [hS9]; exact hL7
  have hf11 : S9.2 q = aN (cy 0) w (fun _ => 0) := by rw [hS9]; exact (pup_n (ne_cells hf8 hf6 (by nofun))).trans hf8
  have hL12 : h ∈ S9.1 := by rw [hS9]; exact hL5
  have hf13 : S9.2 h = .inr (7, [.ref q, .int (nI 0)]) := by rw [hS9]; exact pup_s
  exact p_vret C hw ⟨q, hq0, by rw [hS9, hS4, hS1]; simp only [pup_pup, pnew_pup hne0]⟩ hr hlocks dX7_init_20

set_option maxHeartbeats 4000000 in
set_option maxRecDepth 100000 in
/-- Line() -/
theorem c_X5_init (l : Launch) (D : va_G) (cy : Nat → ClassId) (S : pS) (sz : Nat) (h : Nat) (k0 fa fb fc : Int32) (hL_h : h ∈ S.1) (hf_h : S.2 h = .inr (5, [.int k0, .int fa, .int fb, .int fc]))  : Met l yX5_init wsX5_init ({ frames := 1, cells := 0, slots := 0, locals := 12 }) (pPc D cy S sz [.ref h]) (pQv D cy S sz (fun S' => S' = pup S h (.inr (5, [.int (nI 0), .int (nI 0), .int (nI 0), .int (nI 0)])))) 0 0 (pA S sz) := by
  refine Met.ofW (cc := cX5_init) (maxL := 1) (ret := none) (by decide) rfl ?_
  intro p e s m args below meth c s₁ B hml hv
  have hin : meth.name = "<init>" := (name_of_methodNamed B.named B.method).1
  obtain ⟨rfl, rfl, C, hw, hA, hr, hlocks⟩ := p_start B hml hv
  have hx := C.1
  have hb := C.2.1
  have hl := lv_entry ([.ref h]) (n := 1) (Nat.le_of_ble_eq_true rfl)
  rw [lg_entry_eq]
  generalize (lg_sl ([.ref h]) ++ List.replicate (1 - (lg_sl ([.ref h])).length) Slot.unset).toArray = ls at hl ⊢
  have hl : lv_has ls 1 [(0, .ref h)] := hl
  have hin_RX5 : ∀ w ∈ u_ws RX5 TX5 4, w ∈ wsX5_init := by decide +kernel
  refine lv_aload_n hx hb dX5_init_0 rfl (lv_at hl 0 rfl) ?_
  refine W.objInit hx hb C.2.2.2.1 (C.2.2.2.2.1 (.methodLink RX5 3 objectInit) (by decide +kernel)) (C.2.2.2.2.1 (.instanceMethod objectInit) (by decide +kernel)) (C.2.2.2.2.1 _ (List.mem_of_getElem? (i := 3) rfl)) rfl (by rw [hml]; exact hl.1) rfl dX5_init_1 (Nat.le_of_ble_eq_true rfl) (Nat.le_of_ble_eq_true rfl) ?_
  refine W.eq (g2 := F0 m 4 ls []) rfl ?_
  refine lv_aload_n hx hb dX5_init_4 rfl (lv_at hl 0 rfl) ?_
  refine lv_iconst (v := nI 0) hx hb dX5_init_5 (by decide) ?_
  refine p_put C hw (ci := 5) (Cn := RX5) (T := TX5) (N := 4) tyX5 tyX5_ok nmX5 hL_h hf_h rfl hin_RX5 0 (by decide) (List.mem_of_getElem? (i := 4) rfl) rfl rfl rfl rfl rfl (by simp) dX5_init_6 rfl (fun H locs hw => ?_)
  obtain ⟨S1, hS1⟩ : ∃ z, z = pup S h (.inr (5, [.int (nI 0), .int fa, .int fb, .int fc])) := ⟨_, rfl⟩
  replace hw : pW D (pA S s.heap.size) s.heap S1 H locs := by rw [hS1]; exact hw
  have hL2 : h ∈ S1.1 := by rw [hS1]; exact hL_h
  have hf3 : S1.2 h = .inr (5, [.int (nI 0), .int fa, .int fb, .int fc]) := by rw [hS1]; exact pup_s
  refine lv_aload_n hx hb dX5_init_9 rfl (lv_at hl 0 rfl) ?_
  refine lv_iconst (v := nI 0) hx hb dX5_init_10 (by decide) ?_
  refine p_put C hw (ci := 5) (Cn := RX5) (T := TX5) (N := 4) tyX5 tyX5_ok nmX5 hL2 hf3 rfl hin_RX5 1 (by decide) (List.mem_of_getElem? (i := 5) rfl) rfl rfl rfl rfl rfl (by simp) dX5_init_11 rfl (fun H locs hw => ?_)
  obtain ⟨S4, hS4⟩ : ∃ z, z = pup S1 h (.inr (5, [.int (nI 0), .int (nI 0), .int fb, .int fc])) := ⟨_, rfl⟩
  replace hw : pW D (pA S s.heap.size) s.heap S4 H locs := by rw [hS4]; exact hw
  have hL5 : h ∈ S4.1 := by rw [hS4]; exact hL2
  have hf6 : S4.2 h = .inr (5, [.int (nI 0), .int (nI 0), .int fb, .int fc]) := by rw [hS4]; exact pup_s
  refine lv_aload_n hx hb dX5_init_14 rfl (lv_at hl 0 rfl) ?_
  refine lv_iconst (v := nI 0) hx hb dX5_init_15 (by decide) ?_
  refine p_put C hw (ci := 5) (Cn := RX5) (T := TX5) (N := 4) tyX5 tyX5_ok nmX5 hL5 hf6 rfl hin_RX5 2 (by decide) (List.mem_of_getElem? (i := 6) rfl) rfl rfl rfl rfl rfl (by simp) dX5_init_16 rfl (fun H locs hw => ?_)
  obtain ⟨S7, hS7⟩ : ∃ z, z = pup S4 h (.inr (5, [.int (nI 0), .int (nI 0), .int (nI 0), .int fc])) := ⟨_, rfl⟩
  replace hw : pW D (pA S s.heap.size) s.heap S7 H locs := by rw [hS7]; exact hw
  have hL8 : h ∈ S7.1 := by rw [hS7]; exact hL5
  have hf9 : S7.2 h = .inr (5, [.int (nI 0), .int (nI 0), .int (nI 0), .int fc]) := by rw [hS7]; exact pup_s
  refine lv_aload_n hx hb dX5_init_19 rfl (lv_at hl 0 rfl) ?_
  refine lv_iconst (v := nI 0) hx hb dX5_init_20 (by decide) ?_
  refine p_put C hw (ci := 5) (Cn := RX5) (T := TX5) (N := 4) tyX5 tyX5_ok nmX5 hL8 hf9 rfl hin_RX5 3 (by decide) (List.mem_of_getElem? (i := 7) rfl) rfl rfl rfl rfl rfl (by simp) dX5_init_21 rfl (fun H locs hw => ?_)
  obtain ⟨S10, hS10⟩ : ∃ z, z = pup S7 h (.inr (5, [.int (nI 0), .int (nI 0), .int (nI 0), .int (nI 0)])) := ⟨_, rfl⟩
  replace hw : pW D (pA S s.heap.size) s.heap S10 H locs := by rw [hS10]; exact hw
  have hL11 : h ∈ S10.1 := by rw [hS10]; exact hL8
  have hf12 : S10.2 h = .inr (5, [.int (nI 0), .int (nI 0), .int (nI 0), .int (nI 0)]) := by rw [hS10]; exact pup_s
  exact p_vret C hw (by rw [hS10, hS7, hS4, hS1]; simp only [pup_pup]) hr hlocks dX5_init_24

theorem hdm5V_yX5_scatter_RX5 : yX5_scatter.cls = RX5 ∧ yX5_scatter.cls ≠ "java/lang/invoke/MethodHandle" ∧ yX5_scatter.cls ≠ "java/lang/invoke/VarHandle" ∧ (parseMethodDescriptor yX5_scatter.desc).map (fun d => d.parameters.length) = some 1 := by decide +kernel
theorem hdm5V_yX5_burst_RX5 : yX5_burst.cls = RX5 ∧ yX5_burst.cls ≠ "java/lang/invoke/MethodHandle" ∧ yX5_burst.cls ≠ "java/lang/invoke/VarHandle" ∧ (parseMethodDescriptor yX5_burst.desc).map (fun d => d.parameters.length) = some 1 := by decide +kernel
set_option maxHeartbeats 4000000 in
set_option maxRecDepth 100000 in
/-- Line.harm -/
theorem c_X5_harm (l : Launch) (D : va_G) (cy : Nat → ClassId) (S : pS) (sz : Nat) (h k0 : Nat) (fa fb fc : Int32) (ya yb yc o c1 N n : Nat) (g : Nat → Nat) (hL_h : h ∈ S.1) (hf_h : S.2 h = .inr (5, [.int (nI k0), .int fa, .int fb, .int fc])) (hL_o : o ∈ S.1) (hf_o : S.2 o = .inr (7, [.ref c1, .int (nI n)])) (hL_c1 : c1 ∈ S.1) (hf_c1 : S.2 c1 = aN (cy 0) N g) (hN : N < 2 ^ 27) (hn : n ≤ N) (hg : ∀ q, g q ≤ 2) (hk : k0 ≤ 3) (ha : ya < 2 ^ 30) (hbb : yb < 2 ^ 30) (hcc : yc < 2 ^ 30) (h2 : k0 = 2 → fa = nI ya ∧ fb = nI yb ∧ fc = nI yc) (h13 : k0 = 1 ∨ k0 = 3 → fa = nI ya ∧ fb = nI yb) : Met l yX5_harm wsX5_harm ({ frames := 3, cells := 0, slots := 0, locals := 67 }) (pPc D cy S sz [.ref h, .ref o]) (pQv D cy S sz (fun S' => S' = pup S c1 (aN (cy 0) N (rharm g n k0 ya yb yc)))) 0 0 (pA S sz) := by
  refine Met.ofW (cc := cX5_harm) (maxL := 2) (ret := none) (by decide) rfl ?_
  intro p e s m args below meth c s₁ B hml hv
  obtain ⟨rfl, rfl, C, hw, hA, hr, hlocks⟩ := p_start B hml hv
  have hx := C.1
  have hb := C.2.1
  have hl := lv_entry ([.ref h, .ref o]) (n := 2) (Nat.le_of_ble_eq_true rfl)
  rw [lg_entry_eq]
  generalize (lg_sl ([.ref h, .ref o]) ++ List.replicate (2 - (lg_sl ([.ref h, .ref o])).length) Slot.unset).toArray = ls at hl ⊢
  have hl : lv_has ls 2 [(0, .ref h), (1, .ref o)] := hl
  have hin_RX5 : ∀ w ∈ u_ws RX5 TX5 4, w ∈ wsX5_harm := by decide +kernel
  refine lv_aload_n hx hb dX5_harm_0 rfl (lv_at hl 0 rfl) ?_
  refine p_get C hw (ci := 5) (Cn := RX5) (T := TX5) (N := 4) hL_h hf_h rfl hin_RX5 0 (by decide) (List.mem_of_getElem? (i := 1) rfl) rfl rfl dX5_harm_1 ?_
  refine lv_iconst (v := nI 2) hx hb dX5_harm_4 (by decide) ?_
  refine n_icmp_ne (tgt := 16) hx hb (by omega) (by omega) dX5_harm_5 (by decide) (fun h_5 => ?_) (fun h_5 => ?_)
  · skip
    refine lv_aload_n hx hb dX5_harm_16 rfl (lv_at hl 0 rfl) ?_
    refine p_get C hw (ci := 5) (Cn := RX5) (T := TX5) (N := 4) hL_h hf_h rfl hin_RX5 0 (by decide) (List.mem_of_getElem? (i := 1) rfl) rfl rfl dX5_harm_17 ?_
    refine lv_iconst (v := nI 1) hx hb dX5_harm_20 (by decide) ?_
    refine n_icmp_eq (tgt := 32) hx hb (by omega) (by omega) dX5_harm_21 (by decide) (fun h_21 => ?_) (fun h_21 => ?_)
    · skip
      have hf1 : S.2 h = .inr (5, [.int (nI k0), .int (nI ya), .int (nI yb), .int fc]) := (by obtain ⟨e1, e2⟩ := h13 (by omega); rw [← e1, ← e2]; exact hf_h)
      refine lv_aload_n hx hb dX5_harm_32 rfl (lv_at hl 0 rfl) ?_
      refine lv_aload_n hx hb dX5_harm_33 rfl (lv_at hl 1 rfl) ?_
      refine p_callv (va_runV (As := [.ref o]) (rest := []) C.fix (c_X5_scatter l D cy S s.heap.size h k0 ya yb fc o c1 N n g hL_h hf1 hL_o hf_o hL_c1 hf_c1 hN hn hg hk ha hbb) (cwV 1 C.2.2.2.2.1 gX5_harm_X5_scatter rfl rfl rfl hdm5V_yX5_scatter_RX5 ⟨Nat.le_of_ble_eq_true rfl, Nat.le_of_ble_eq_true rfl⟩) (p_preV C hw hL_h hf1 rfl) rfl rfl hl.1 rfl (lv_room (Nat.le_of_ble_eq_true rfl)) dX5_harm_34 ⟨Nat.le_of_ble_eq_true rfl, Nat.le_of_ble_eq_true rfl⟩) hw hA (fun S2 H locs hpost hw => ?_)
      exact p_vret C hw (by first | exact hpost.trans (congrArg (fun z => pup S c1 (aN (cy 0) N z)) (rharm_2 (by omega)).symm) | exact hpost.trans (congrArg (fun z => pup S c1 (aN (cy 0) N z)) (rharm_13 (by omega)).symm) | exact ((congrArg (fun z => pup S c1 (aN (cy 0) N z)) (rharm_0 (by omega))).trans (pup_self hf_c1)).symm) hr hlocks dX5_harm_37
    · skip
      refine lv_aload_n hx hb dX5_harm_24 rfl (lv_at hl 0 rfl) ?_
      refine p_get C hw (ci := 5) (Cn := RX5) (T := TX5) (N := 4) hL_h hf_h rfl hin_RX5 0 (by decide) (List.mem_of_getElem? (i := 1) rfl) rfl rfl dX5_harm_25 ?_
      refine lv_iconst (v := nI 3) hx hb dX5_harm_28 (by decide) ?_
      refine n_icmp_ne (tgt := 37) hx hb (by omega) (by omega) dX5_harm_29 (by decide) (fun h_29 => ?_) (fun h_29 => ?_)
      · skip
        exact p_vret C hw (by first | exact hpost.trans (congrArg (fun z => pup S c1 (aN (cy 0) N z)) (rharm_2 (by omega)).symm) | exact hpost.trans (congrArg (fun z => pup S c1 (aN (cy 0) N z)) (rharm_13 (by omega)).symm) | exact ((congrArg (fun z => pup S c1 (aN (cy 0) N z)) (rharm_0 (by omega))).trans (pup_self hf_c1)).symm) hr hlocks dX5_harm_37
      · skip
        have hf4 : S.2 h = .inr (5, [.int (nI k0), .int (nI ya), .int (nI yb), .int fc]) := (by obtain ⟨e1, e2⟩ := h13 (by omega); rw [← e1, ← e2]; exact hf_h)
        refine lv_aload_n hx hb dX5_harm_32 rfl (lv_at hl 0 rfl) ?_
        refine lv_aload_n hx hb dX5_harm_33 rfl (lv_at hl 1 rfl) ?_
        refine p_callv (va_runV (As := [.ref o]) (rest := []) C.fix (c_X5_scatter l D cy S s.heap.size h k0 ya yb fc o c1 N n g hL_h hf4 hL_o hf_o hL_c1 hf_c1 hN hn hg hk ha hbb) (cwV 1 C.2.2.2.2.1 gX5_harm_X5_scatter rfl rfl rfl hdm5V_yX5_scatter_RX5 ⟨Nat.le_of_ble_eq_true rfl, Nat.le_of_ble_eq_true rfl⟩) (p_preV C hw hL_h hf4 rfl) rfl rfl hl.1 rfl (lv_room (Nat.le_of_ble_eq_true rfl)) dX5_harm_34 ⟨Nat.le_of_ble_eq_true rfl, Nat.le_of_ble_eq_true rfl⟩) hw hA (fun S5 H locs hpost hw => ?_)
        exact p_vret C hw (by first | exact hpost.trans (congrArg (fun z => pup S c1 (aN (cy 0) N z)) (rharm_2 (by omega)).symm) | exact hpost.trans (congrArg (fun z => pup S c1 (aN (cy 0) N z)) (rharm_13 (by omega)).symm) | exact ((congrArg (fun z => pup S c1 (aN (cy 0) N z)) (rharm_0 (by omega))).trans (pup_self hf_c1)).symm) hr hlocks dX5_harm_37
  · skip
    have hf7 : S.2 h = .inr (5, [.int (nI k0), .int (nI ya), .int (nI yb), .int (nI yc)]) := (by obtain ⟨e1, e2, e3⟩ := h2 h_5; rw [← e1, ← e2, ← e3]; exact hf_h)
    refine lv_aload_n hx hb dX5_harm_8 rfl (lv_at hl 0 rfl) ?_
    refine lv_aload_n hx hb dX5_harm_9 rfl (lv_at hl 1 rfl) ?_
    refine p_callv (va_runV (As := [.ref o]) (rest := []) C.fix (c_X5_burst l D cy S s.heap.size h k0 ya yb yc o c1 N n g hL_h hf7 hL_o hf_o hL_c1 hf_c1 hN hn hg ha hbb hcc) (cwV 1 C.2.2.2.2.1 gX5_harm_X5_burst rfl rfl rfl hdm5V_yX5_burst_RX5 ⟨Nat.le_of_ble_eq_true rfl, Nat.le_of_ble_eq_true rfl⟩) (p_preV C hw hL_h hf7 rfl) rfl rfl hl.1 rfl (lv_room (Nat.le_of_ble_eq_true rfl)) dX5_harm_10 ⟨Nat.le_of_ble_eq_true rfl, Nat.le_of_ble_eq_true rfl⟩) hw hA (fun S8 H locs hpost hw => ?_)
    refine lv_goto (tgt := 37) hx hb dX5_harm_13 (by decide) ?_
    exact p_vret C hw (by first | exact hpost.trans (congrArg (fun z => pup S c1 (aN (cy 0) N z)) (rharm_2 (by omega)).symm) | exact hpost.trans (congrArg (fun z => pup S c1 (aN (cy 0) N z)) (rharm_13 (by omega)).symm) | exact ((congrArg (fun z => pup S c1 (aN (cy 0) N z)) (rharm_0 (by omega))).trans (pup_self hf_c1)).symm) hr hlocks dX5_harm_37

set_option maxHeartbeats 4000000 in
set_option maxRecDepth 100000 in
/-- Lattice() -/
theorem c_X3_init (l : Launch) (D : va_G) (cy : Nat → ClassId) (S : pS) (sz : Nat) (h : Nat) (hL_h : h ∈ S.1) (hf_h : S.2 h = .inr (3, [.null, .null, .null]))  : Met l yX3_init wsX3_init ({ frames := 1, cells := 3, slots := 352, locals := 12 }) (pPc D cy S sz [.ref h]) (pQv D cy S sz (fun S' => ∃ lf lx lw, lf ∉ S.1 ∧ lx ∉ S.1 ∧ lw ∉ S.1 ∧ lx ≠ lf ∧ lw ≠ lf ∧ lw ≠ lx ∧ S' = pup (pnew (pnew (pnew S lf (aN (cy 0) 16 (fun _ => 0))) lx (aN (cy 0) 16 (fun _ => 0))) lw (aN (cy 0) 320 (fun _ => 0))) h (.inr (3, [.ref lf, .ref lx, .ref lw])))) 3 352 (pA S sz) := by
  refine Met.ofW (cc := cX3_init) (maxL := 1) (ret := none) (by decide) rfl ?_
  intro p e s m args below meth c s₁ B hml hv
  have hin : meth.name = "<init>" := (name_of_methodNamed B.named B.method).1
  obtain ⟨rfl, rfl, C, hw, hA, hr, hlocks⟩ := p_start B hml hv
  have hx := C.1
  have hb := C.2.1
  have hl := lv_entry ([.ref h]) (n := 1) (Nat.le_of_ble_eq_true rfl)
  rw [lg_entry_eq]
  generalize (lg_sl ([.ref h]) ++ List.replicate (1 - (lg_sl ([.ref h])).length) Slot.unset).toArray = ls at hl ⊢
  have hl : lv_has ls 1 [(0, .ref h)] := hl
  have hin_RX3 : ∀ w ∈ u_ws RX3 TX3 3, w ∈ wsX3_init := by decide +kernel
  refine lv_aload_n hx hb dX3_init_0 rfl (lv_at hl 0 rfl) ?_
  refine W.objInit hx hb C.2.2.2.1 (C.2.2.2.2.1 (.methodLink RX3 3 objectInit) (by decide +kernel)) (C.2.2.2.2.1 (.instanceMethod objectInit) (by decide +kernel)) (C.2.2.2.2.1 _ (List.mem_of_getElem? (i := 3) rfl)) rfl (by rw [hml]; exact hl.1) rfl dX3_init_1 (Nat.le_of_ble_eq_true rfl) (Nat.le_of_ble_eq_true rfl) ?_
  refine W.eq (g2 := F0 m 4 ls []) rfl ?_
  refine lv_aload_n hx hb dX3_init_4 rfl (lv_at hl 0 rfl) ?_
  refine lv_bipush (v := nI 16) hx hb dX3_init_5 (by decide) ?_
  refine n_newa C hw hA (by decide +kernel) 0 rfl (n := 16) (by omega) (Nat.le_of_ble_eq_true rfl) (Nat.le_of_ble_eq_true rfl) dX3_init_7 (fun lf H hq_lf hw => ?_)
  have hfS : lf ∉ S.1 := hq_lf
  have hnf : h ≠ lf := fun z => hfS (z ▸ hL_h)
  obtain ⟨S1, hS1⟩ : ∃ z, z = pnew S lf (aN (cy 0) 16 (fun _ => 0)) := ⟨_, rfl⟩
  replace hw : pW D (pA S s.heap.size) s.heap S1 H [] := by rw [hS1]; exact hw
  have hL2 : h ∈ S1.1 := by rw [hS1]; exact List.mem_append_left _ hL_h
  have hf3 : S1.2 h = .inr (3, [.null, .null, .null]) := by rw [hS1]; exact (pnew_n (fun z : h = lf => hq_lf (by rw [← z]; exact hL_h))).trans hf_h
  have hL4 : lf ∈ S1.1 := by rw [hS1]; exact List.mem_append_right _ List.mem_cons_self
  have hf5 : S1.2 lf = aN (cy 0) 16 (fun _ => 0) := by rw [hS1]; exact pnew_s
  refine p_putF C hw (ci := 3) (Cn := RX3) (T := TX3) (N := 3) tyX3 tyX3_ok nmX3 hL2 hf3 rfl hin_RX3 0 (by decide) (List.mem_of_getElem? (i := 5) rfl) rfl rfl hin rfl rfl rfl rfl (by simp) dX3_init_9 rfl (fun H locs hw => ?_)
  obtain ⟨S6, hS6⟩ : ∃ z, z = pup S1 h (.inr (3, [.ref lf, .null, .null])) := ⟨_, rfl⟩
  replace hw : pW D (pA S s.heap.size) s.heap S6 H locs := by rw [hS6]; exact hw
  have hL7 : lf ∈ S6.1 := by rw [hS6]; exact hL4
  have hf8 : S6.2 lf = aN (cy 0) 16 (fun _ => 0) := by rw [hS6]; exact (pup_n (ne_cells hf5 hf3 (by nofun))).trans hf5
  have hL9 : h ∈ S6.1 := by rw [hS6]; exact hL2
  have hf10 : S6.2 h = .inr (3, [.ref lf, .null, .null]) := by rw [hS6]; exact pup_s
  refine lv_aload_n hx hb dX3_init_12 rfl (lv_at hl 0 rfl) ?_
  refine lv_bipush (v := nI 16) hx hb dX3_init_13 (by decide) ?_
  refine n_newa C hw hA (by decide +kernel) 0 rfl (n := 16) (by omega) (Nat.le_of_ble_eq_true rfl) (Nat.le_of_ble_eq_true rfl) dX3_init_15 (fun lx H hq_lx hw => ?_)
  have hx0 : lx ∉ S.1 ++ [lf] := by rw [hS6, hS1] at hq_lx; exact hq_lx
  have hxS : lx ∉ S.1 := fun z => hx0 (List.mem_append_left _ z)
  have hxf : lx ≠ lf := fun z => hx0 (by rw [z]; exact List.mem_append_right _ List.mem_cons_self)
  have hnx : h ≠ lx := fun z => hxS (z ▸ hL_h)
  obtain ⟨S11, hS11⟩ : ∃ z, z = pnew S6 lx (aN (cy 0) 16 (fun _ => 0)) := ⟨_, rfl⟩
  replace hw : pW D (pA S s.heap.size) s.heap S11 H locs := by rw [hS11]; exact hw
  have hL12 : h ∈ S11.1 := by rw [hS11]; exact List.mem_append_left _ hL9
  have hf13 : S11.2 h = .inr (3, [.ref lf, .null, .null]) := by rw [hS11]; exact (pnew_n (fun z : h = lx => hq_lx (by rw [← z]; exact hL9))).trans hf10
  have hL14 : lf ∈ S11.1 := by rw [hS11]; exact List.mem_append_left _ hL7
  have hf15 : S11.2 lf = aN (cy 0) 16 (fun _ => 0) := by rw [hS11]; exact (pnew_n (fun z : lf = lx => hq_lx (by rw [← z]; exact hL7))).trans hf8
  have hL16 : lx ∈ S11.1 := by rw [hS11]; exact List.mem_append_right _ List.mem_cons_self
  have hf17 : S11.2 lx = aN (cy 0) 16 (fun _ => 0) := by rw [hS11]; exact pnew_s
  refine p_putF C hw (ci := 3) (Cn := RX3) (T := TX3) (N := 3) tyX3 tyX3_ok nmX3 hL12 hf13 rfl hin_RX3 1 (by decide) (List.mem_of_getElem? (i := 6) rfl) rfl rfl hin rfl rfl rfl rfl (by simp) dX3_init_17 rfl (fun H locs hw => ?_)
  obtain ⟨S18, hS18⟩ : ∃ z, z = pup S11 h (.inr (3, [.ref lf, .ref lx, .null])) := ⟨_, rfl⟩
  replace hw : pW D (pA S s.heap.size) s.heap S18 H locs := by rw [hS18]; exact hw
  have hL19 : lf ∈ S18.1 := by rw [hS18]; exact hL14
  have hf20 : S18.2 lf = aN (cy 0) 16 (fun _ => 0) := by rw [hS18]; exact (pup_n (ne_cells hf15 hf13 (by nofun))).trans hf15
  have hL21 : lx ∈ S18.1 := by rw [hS18]; exact hL16
  have hf22 : S18.2 lx = aN (cy 0) 16 (fun _ => 0) := by rw [hS18]; exact (pup_n (ne_cells hf17 hf13 (by nofun))).trans hf17
  have hL23 : h ∈ S18.1 := by rw [hS18]; exact hL12
  have hf24 : S18.2 h = .inr (3, [.ref lf, .ref lx, .null]) := by rw [hS18]; exact pup_s
  refine lv_aload_n hx hb dX3_init_20 rfl (lv_at hl 0 rfl) ?_
  refine lv_sipush (v := nI 320) hx hb dX3_init_21 (by decide) ?_
  refine n_newa C hw hA (by decide +kernel) 0 rfl (n := 320) (by omega) (Nat.le_of_ble_eq_true rfl) (Nat.le_of_ble_eq_true rfl) dX3_init_24 (fun lw H hq_lw hw => ?_)
  have hw00 : lw ∉ S.1 ++ [lf] ++ [lx] := by rw [hS18, hS11, hS6, hS1] at hq_lw; exact hq_lw
  have hwS : lw ∉ S.1 := fun z => hw00 (List.mem_append_left _ (List.mem_append_left _ z))
  have hwf : lw ≠ lf := fun z => hw00 (by rw [z]; exact List.mem_append_left _ (List.mem_append_right _ List.mem_cons_self))
  have hwx : lw ≠ lx := fun z => hw00 (by rw [z]; exact List.mem_append_right _ List.mem_cons_self)
  have hnw : h ≠ lw := fun z => hwS (z ▸ hL_h)
  obtain ⟨S25, hS25⟩ : ∃ z, z = pnew S18 lw (aN (cy 0) 320 (fun _ => 0)) := ⟨_, rfl⟩
  replace hw : pW D (pA S s.heap.size) s.heap S25 H locs := by rw [hS25]; exact hw
  have hL26 : h ∈ S25.1 := by rw [hS25]; exact List.mem_append_left _ hL23
  have hf27 : S25.2 h = .inr (3, [.ref lf, .ref lx, .null]) := by rw [hS25]; exact (pnew_n (fun z : h = lw => hq_lw (by rw [← z]; exact hL23))).trans hf24
  have hL28 : lf ∈ S25.1 := by rw [hS25]; exact List.mem_append_left _ hL19
  have hf29 : S25.2 lf = aN (cy 0) 16 (fun _ => 0) := by rw [hS25]; exact (pnew_n (fun z : lf = lw => hq_lw (by rw [← z]; exact hL19))).trans hf20
  have hL30 : lx ∈ S25.1 := by rw [hS25]; exact List.mem_append_left _ hL21
  have hf31 : S25.2 lx = aN (cy 0) 16 (fun _ => 0) := by rw [hS25]; exact (pnew_n (fun z : lx = lw => hq_lw (by rw [← z]; exact hL21))).trans hf22
  have hL32 : lw ∈ S25.1 := by rw [hS25]; exact List.mem_append_right _ List.mem_cons_self
  have hf33 : S25.2 lw = aN (cy 0) 320 (fun _ => 0) := by rw [hS25]; exact pnew_s
  refine p_putF C hw (ci := 3) (Cn := RX3) (T := TX3) (N := 3) tyX3 tyX3_ok nmX3 hL26 hf27 rfl hin_RX3 2 (by decide) (List.mem_of_getElem? (i := 7) rfl) rfl rfl hin rfl rfl rfl rfl (by simp) dX3_init_26 rfl (fun H locs hw => ?_)
  obtain ⟨S34, hS34⟩ : ∃ z, z = pup S25 h (.inr (3, [.ref lf, .ref lx, .ref lw])) := ⟨_, rfl⟩
  replace hw : pW D (pA S s.heap.size) s.heap S34 H locs := by rw [hS34]; exact hw
  have hL35 : lf ∈ S34.1 := by rw [hS34]; exact hL28
  have hf36 : S34.2 lf = aN (cy 0) 16 (fun _ => 0) := by rw [hS34]; exact (pup_n (ne_cells hf29 hf27 (by nofun))).trans hf29
  have hL37 : lx ∈ S34.1 := by rw [hS34]; exact hL30
  have hf38 : S34.2 lx = aN (cy 0) 16 (fun _ => 0) := by rw [hS34]; exact (pup_n (ne_cells hf31 hf27 (by nofun))).trans hf31
  have hL39 : lw ∈ S34.1 := by rw [hS34]; exact hL32
  have hf40 : S34.2 lw = aN (cy 0) 320 (fun _ => 0) := by rw [hS34]; exact (pup_n (ne_cells hf33 hf27 (by nofun))).trans hf33
  have hL41 : h ∈ S34.1 := by rw [hS34]; exact hL26
  have hf42 : S34.2 h = .inr (3, [.ref lf, .ref lx, .ref lw]) := by rw [hS34]; exact pup_s
  exact p_vret C hw ⟨lf, lx, lw, hfS, hxS, hwS, hxf, hwf, hwx, by rw [hS34, hS25, hS18, hS11, hS6, hS1]; simp only [pup_pup, pnew_pup hnx, pnew_pup hnw]⟩ hr hlocks dX3_init_29

set_option maxHeartbeats 4000000 in
set_option maxRecDepth 100000 in
/-- Chain() -/
theorem c_X1_init (l : Launch) (D : va_G) (cy : Nat → ClassId) (S : pS) (sz : Nat) (h z0 : Nat) (hL_h : h ∈ S.1) (hf_h : S.2 h = .inr (1, [.null, .int (nI z0)]))  : Met l yX1_init wsX1_init ({ frames := 1, cells := 1, slots := 4, locals := 12 }) (pPc D cy S sz [.ref h]) (pQv D cy S sz (fun S' => ∃ la, la ∉ S.1 ∧ S' = pup (pnew S la (aQ (cy 3) 4 (fun _ => none))) h (.inr (1, [.ref la, .int (nI 0)])))) 1 4 (pA S sz) := by
  refine Met.ofW (cc := cX1_init) (maxL := 1) (ret := none) (by decide) rfl ?_
  intro p e s m args below meth c s₁ B hml hv
  have hin : meth.name = "<init>" := (name_of_methodNamed B.named B.method).1
  obtain ⟨rfl, rfl, C, hw, hA, hr, hlocks⟩ := p_start B hml hv
  have hx := C.1
  have hb := C.2.1
  have hl := lv_entry ([.ref h]) (n := 1) (Nat.le_of_ble_eq_true rfl)
  rw [lg_entry_eq]
  generalize (lg_sl ([.ref h]) ++ List.replicate (1 - (lg_sl ([.ref h])).length) Slot.unset).toArray = ls at hl ⊢
  have hl : lv_has ls 1 [(0, .ref h)] := hl
  have hin_RX1 : ∀ w ∈ u_ws RX1 TX1 2, w ∈ wsX1_init := by decide +kernel
  refine lv_aload_n hx hb dX1_init_0 rfl (lv_at hl 0 rfl) ?_
  refine W.objInit hx hb C.2.2.2.1 (C.2.2.2.2.1 (.methodLink RX1 3 objectInit) (by decide +kernel)) (C.2.2.2.2.1 (.instanceMethod objectInit) (by decide +kernel)) (C.2.2.2.2.1 _ (List.mem_of_getElem? (i := 3) rfl)) rfl (by rw [hml]; exact hl.1) rfl dX1_init_1 (Nat.le_of_ble_eq_true rfl) (Nat.le_of_ble_eq_true rfl) ?_
  refine W.eq (g2 := F0 m 4 ls []) rfl ?_
  refine lv_aload_n hx hb dX1_init_4 rfl (lv_at hl 0 rfl) ?_
  refine lv_iconst (v := nI 4) hx hb dX1_init_5 (by decide) ?_
  refine p_newq C hw hA (List.mem_of_getElem? (i := 4) rfl) C.2.2.2.2.2.2.2.2.1 3 rfl (n := 4) (by omega) (Nat.le_of_ble_eq_true rfl) (Nat.le_of_ble_eq_true rfl) dX1_init_6 (fun la H hq_la hw => ?_)
  have hq0 : la ∉ S.1 := hq_la
  have hne0 : h ≠ la := fun z => hq0 (z ▸ hL_h)
  obtain ⟨S1, hS1⟩ : ∃ z, z = pnew S la (aQ (cy 3) 4 (fun _ => none)) := ⟨_, rfl⟩
  replace hw : pW D (pA S s.heap.size) s.heap S1 H [] := by rw [hS1]; exact hw
  have hL2 : h ∈ S1.1 := by rw [hS1]; exact List.mem_append_left _ hL_h
  have hf3 : S1.2 h = .inr (1, [.null, .int (nI z0)]) := by rw [hS1]; exact (pnew_n (fun z : h = la => hq_la (by rw [← z]; exact hL_h))).trans hf_h
  have hL4 : la ∈ S1.1 := by rw [hS1]; exact List.mem_append_right _ List.mem_cons_self
  have hf5 : S1.2 la = aQ (cy 3) 4 (fun _ => none) := by rw [hS1]; exact pnew_s
  refine p_putF C hw (ci := 1) (Cn := RX1) (T := TX1) (N := 2) tyX1 tyX1_ok nmX1 hL2 hf3 rfl hin_RX1 0 (by decide) (List.mem_of_getElem? (i := 5) rfl) rfl rfl hin rfl rfl rfl rfl (by simp) dX1_init_9 rfl (fun H locs hw => ?_)
  obtain ⟨S6, hS6⟩ : ∃ z, z = pup S1 h (.inr (1, [.ref la, .int (nI z0)])) := ⟨_, rfl⟩
  replace hw : pW D (pA S s.heap.size) s.heap S6 H locs := by rw [hS6]; exact hw
  have hL7 : la ∈ S6.1 := by rw [hS6]; exact hL4
  have hf8 : S6.2 la = aQ (cy 3) 4 (fun _ => none) := by rw [hS6]; exact (pup_n (ne_cells hf5 hf3 (by nofun))).trans hf5
  have hL9 : h ∈ S6.1 := by rw [hS6]; exact hL2
  have hf10 : S6.2 h = .inr (1, [.ref la, .int (nI z0)]) := by rw [hS6]; exact pup_s
  refine lv_aload_n hx hb dX1_init_12 rfl (lv_at hl 0 rfl) ?_
  refine lv_iconst (v := nI 0) hx hb dX1_init_13 (by decide) ?_
  refine p_put C hw (ci := 1) (Cn := RX1) (T := TX1) (N := 2) tyX1 tyX1_ok nmX1 hL9 hf10 rfl hin_RX1 1 (by decide) (List.mem_of_getElem? (i := 6) rfl) rfl rfl rfl rfl rfl (by simp) dX1_init_14 rfl (fun H locs hw => ?_)
  obtain ⟨S11, hS11⟩ : ∃ z, z = pup S6 h (.inr (1, [.ref la, .int (nI 0)])) := ⟨_, rfl⟩
  replace hw : pW D (pA S s.heap.size) s.heap S11 H locs := by rw [hS11]; exact hw
  have hL12 : la ∈ S11.1 := by rw [hS11]; exact hL7
  have hf13 : S11.2 la = aQ (cy 3) 4 (fun _ => none) := by rw [hS11]; exact (pup_n (ne_cells hf8 hf10 (by nofun))).trans hf8
  have hL14 : h ∈ S11.1 := by rw [hS11]; exact hL9
  have hf15 : S11.2 h = .inr (1, [.ref la, .int (nI 0)]) := by rw [hS11]; exact pup_s
  exact p_vret C hw ⟨la, hq0, by rw [hS11, hS6, hS1]; simp only [pup_pup]⟩ hr hlocks dX1_init_17

set_option maxHeartbeats 4000000 in
set_option maxRecDepth 100000 in
/-- Chain.count -/
theorem c_X1_count (l : Launch) (D : va_G) (cy : Nat → ClassId) (S : pS) (sz : Nat) (h la n : Nat) (hL_h : h ∈ S.1) (hf_h : S.2 h = .inr (1, [.ref la, .int (nI n)]))  : Met l yX1_count wsX1_count ({ frames := 0, cells := 0, slots := 0, locals := 0 }) (pPc D cy S sz [.ref h]) (pQi D cy S sz (fun r S' => r = nI n ∧ S = S')) 0 0 (pA S sz) := by
  refine Met.ofW (cc := cX1_count) (maxL := 1) (ret := (some .int)) (by decide) rfl ?_
  intro p e s m args below meth c s₁ B hml hv
  obtain ⟨rfl, rfl, C, hw, hA, hr, hlocks⟩ := p_start B hml hv
  have hx := C.1
  have hb := C.2.1
  have hl := lv_entry ([.ref h]) (n := 1) (Nat.le_of_ble_eq_true rfl)
  rw [lg_entry_eq]
  generalize (lg_sl ([.ref h]) ++ List.replicate (1 - (lg_sl ([.ref h])).length) Slot.unset).toArray = ls at hl ⊢
  have hl : lv_has ls 1 [(0, .ref h)] := hl
  have hin_RX1 : ∀ w ∈ u_ws RX1 TX1 2, w ∈ wsX1_count := by decide +kernel
  refine lv_aload_n hx hb dX1_count_0 rfl (lv_at hl 0 rfl) ?_
  refine p_get C hw (ci := 1) (Cn := RX1) (T := TX1) (N := 2) hL_h hf_h rfl hin_RX1 1 (by decide) (List.mem_of_getElem? (i := 1) rfl) rfl rfl dX1_count_1 ?_
  exact p_iret C hw ⟨rfl, rfl⟩ hr hlocks dX1_count_4

set_option maxHeartbeats 4000000 in
set_option maxRecDepth 100000 in
/-- Chain.stageAt -/
theorem c_X1_stageAt (l : Launch) (D : va_G) (cy : Nat → ClassId) (S : pS) (sz : Nat) (h la n : Nat) (lq : Nat → Option Nat) (x : Int32) (hL_h : h ∈ S.1) (hf_h : S.2 h = .inr (1, [.ref la, .int (nI n)])) (hL_la : la ∈ S.1) (hf_la : S.2 la = aQ (cy 3) 4 lq) (hn4 : n ≤ 4) : Met l yX1_stageAt wsX1_stageAt ({ frames := 0, cells := 0, slots := 0, locals := 0 }) (pPc D cy S sz [.ref h, .int x]) (pQq D cy S sz (fun r S' => r = stq lq n x ∧ S = S')) 0 0 (pA S sz) := by
  refine Met.ofW (cc := cX1_stageAt) (maxL := 2) (ret := (some (.object "SoundingLine$Stage"))) (by decide) rfl ?_
  intro p e s m args below meth c s₁ B hml hv
  obtain ⟨rfl, rfl, C, hw, hA, hr, hlocks⟩ := p_start B hml hv
  have hx := C.1
  have hb := C.2.1
  have hl := lv_entry ([.ref h, .int x]) (n := 2) (Nat.le_of_ble_eq_true rfl)
  rw [lg_entry_eq]
  generalize (lg_sl ([.ref h, .int x]) ++ List.replicate (2 - (lg_sl ([.ref h, .int x])).length) Slot.unset).toArray = ls at hl ⊢
  have hl : lv_has ls 2 [(0, .ref h), (1, .int x)] := hl
  have hin_RX1 : ∀ w ∈ u_ws RX1 TX1 2, w ∈ wsX1_stageAt := by decide +kernel
  refine lv_iload_n hx hb dX1_stageAt_0 rfl (lv_at hl 1 rfl) ?_
  refine lv_if_lt (tgt := 21) hx hb dX1_stageAt_1 (by decide) (fun h_1 => ?_) (fun h_1 => ?_)
  · skip
    refine lv_null hx hb dX1_stageAt_21 ?_
    refine lv_goto (tgt := 31) hx hb dX1_stageAt_22 (by decide) ?_
    exact p_qret C hw (v := none) ⟨by first | exact (stq_in hj (by omega)).symm | exact (stq_out (Or.inl h_1)).symm | exact (stq_out (Or.inr h_9)).symm, rfl⟩ hr (Or.inl ⟨_, rfl⟩) hlocks dX1_stageAt_31
  · skip
    refine lv_iload_n hx hb dX1_stageAt_4 rfl (lv_at hl 1 rfl) ?_
    refine lv_aload_n hx hb dX1_stageAt_5 rfl (lv_at hl 0 rfl) ?_
    refine p_get C hw (ci := 1) (Cn := RX1) (T := TX1) (N := 2) hL_h hf_h rfl hin_RX1 1 (by decide) (List.mem_of_getElem? (i := 1) rfl) rfl rfl dX1_stageAt_6 ?_
    refine lv_icmp_ge (tgt := 21) hx hb dX1_stageAt_9 (by decide) (fun h_9 => ?_) (fun h_9 => ?_)
    · skip
      refine lv_null hx hb dX1_stageAt_21 ?_
      refine lv_goto (tgt := 31) hx hb dX1_stageAt_22 (by decide) ?_
      exact p_qret C hw (v := none) ⟨by first | exact (stq_in hj (by omega)).symm | exact (stq_out (Or.inl h_1)).symm | exact (stq_out (Or.inr h_9)).symm, rfl⟩ hr (Or.inl ⟨_, rfl⟩) hlocks dX1_stageAt_31
    · skip
      obtain ⟨j, hj, rfl⟩ : ∃ j, j < n ∧ x = nI j := (pk_ix x (show n < 2 ^ 31 by omega)).elim (fun z => absurd z h_1) (fun z => z.elim (fun z => absurd z h_9) id)
      refine lv_iload_n hx hb dX1_stageAt_12 rfl (lv_at hl 1 rfl) ?_
      refine lv_aload_n hx hb dX1_stageAt_13 rfl (lv_at hl 0 rfl) ?_
      refine p_get C hw (ci := 1) (Cn := RX1) (T := TX1) (N := 2) hL_h hf_h rfl hin_RX1 0 (by decide) (List.mem_of_getElem? (i := 2) rfl) rfl rfl dX1_stageAt_14 ?_
      refine n_len C hw 3 rfl hL_la hf_la (n := 4) rfl dX1_stageAt_17 ?_
      refine n_icmp_lt (tgt := 25) hx hb (by omega) (by omega) dX1_stageAt_18 (by decide) (fun h_18 => ?_) (fun h_18 => ?_)
      · skip
        refine lv_aload_n hx hb dX1_stageAt_25 rfl (lv_at hl 0 rfl) ?_
        refine p_get C hw (ci := 1) (Cn := RX1) (T := TX1) (N := 2) hL_h hf_h rfl hin_RX1 0 (by decide) (List.mem_of_getElem? (i := 2) rfl) rfl rfl dX1_stageAt_26 ?_
        refine lv_iload_n hx hb dX1_stageAt_29 rfl (lv_at hl 1 rfl) ?_
        refine p_aldq C hw 3 rfl hL_la hf_la (by omega) (by omega) (r := lq j) rfl dX1_stageAt_30 ?_
        exact p_qret C hw (v := lq j) ⟨by first | exact (stq_in hj (by omega)).symm | exact (stq_out (Or.inl h_1)).symm | exact (stq_out (Or.inr h_9)).symm, rfl⟩ hr (Or.inl ⟨_, rfl⟩) hlocks dX1_stageAt_31
      · omega

set_option maxHeartbeats 4000000 in
set_option maxRecDepth 100000 in
/-- Chain.append -/
theorem c_X1_append (l : Launch) (D : va_G) (cy : Nat → ClassId) (S : pS) (sz : Nat) (h la n v ci k5 Nn : Nat) (lq : Nat → Option Nat) (Cn : String) (Tn : u_T) (vs : List Value) (hL_h : h ∈ S.1) (hf_h : S.2 h = .inr (1, [.ref la, .int (nI n)])) (hL_la : la ∈ S.1) (hf_la : S.2 la = aQ (cy 3) 4 lq) (hn4 : n < 4) (hLv : v ∈ S.1) (hvS : S.2 v = .inr (ci, vs)) (hci : vwCl[ci]? = some (Cn, Tn, Nn)) (hk5 : pCast[k5]? = some Cn) : Met l yX1_append wsX1_append ({ frames := 0, cells := 0, slots := 0, locals := 0 }) (pPc D cy S sz [.ref h, .ref v]) (pQv D cy S sz (fun S' => S' = pup (pup S la (aQ (cy 3) 4 (va_up lq n (some v)))) h (.inr (1, [.ref la, .int (nI (n + 1))])))) 0 0 (pA S sz) := by
  refine Met.ofW (cc := cX1_append) (maxL := 2) (ret := none) (by decide) rfl ?_
  intro p e s m args below meth c s₁ B hml hv
  obtain ⟨rfl, rfl, C, hw, hA, hr, hlocks⟩ := p_start B hml hv
  have hx := C.1
  have hb := C.2.1
  have hl := lv_entry ([.ref h, .ref v]) (n := 2) (Nat.le_of_ble_eq_true rfl)
  rw [lg_entry_eq]
  generalize (lg_sl ([.ref h, .ref v]) ++ List.replicate (2 - (lg_sl ([.ref h, .ref v])).length) Slot.unset).toArray = ls at hl ⊢
  have hl : lv_has ls 2 [(0, .ref h), (1, .ref v)] := hl
  have hin_RX1 : ∀ w ∈ u_ws RX1 TX1 2, w ∈ wsX1_append := by decide +kernel
  refine lv_aload_n hx hb dX1_append_0 rfl (lv_at hl 0 rfl) ?_
  refine p_get C hw (ci := 1) (Cn := RX1) (T := TX1) (N := 2) hL_h hf_h rfl hin_RX1 1 (by decide) (List.mem_of_getElem? (i := 1) rfl) rfl rfl dX1_append_1 ?_
  refine n_if_lt (tgt := 39) hx hb (by omega) dX1_append_4 (by decide) ?_
  refine lv_aload_n hx hb dX1_append_7 rfl (lv_at hl 0 rfl) ?_
  refine p_get C hw (ci := 1) (Cn := RX1) (T := TX1) (N := 2) hL_h hf_h rfl hin_RX1 1 (by decide) (List.mem_of_getElem? (i := 1) rfl) rfl rfl dX1_append_8 ?_
  refine lv_aload_n hx hb dX1_append_11 rfl (lv_at hl 0 rfl) ?_
  refine p_get C hw (ci := 1) (Cn := RX1) (T := TX1) (N := 2) hL_h hf_h rfl hin_RX1 0 (by decide) (List.mem_of_getElem? (i := 2) rfl) rfl rfl dX1_append_12 ?_
  refine n_len C hw 3 rfl hL_la hf_la (n := 4) rfl dX1_append_15 ?_
  refine n_icmp_ge (tgt := 39) hx hb (by omega) (by omega) dX1_append_16 (by decide) (fun h_16 => ?_) (fun h_16 => ?_)
  · exact absurd h_16 (by omega)
  · skip
    refine lv_aload_n hx hb dX1_append_19 rfl (lv_at hl 0 rfl) ?_
    refine p_get C hw (ci := 1) (Cn := RX1) (T := TX1) (N := 2) hL_h hf_h rfl hin_RX1 0 (by decide) (List.mem_of_getElem? (i := 2) rfl) rfl rfl dX1_append_20 ?_
    refine lv_aload_n hx hb dX1_append_23 rfl (lv_at hl 0 rfl) ?_
    refine p_get C hw (ci := 1) (Cn := RX1) (T := TX1) (N := 2) hL_h hf_h rfl hin_RX1 1 (by decide) (List.mem_of_getElem? (i := 1) rfl) rfl rfl dX1_append_24 ?_
    refine lv_aload_n hx hb dX1_append_27 rfl (lv_at hl 1 rfl) ?_
    refine p_astqO C hw 3 rfl hL_la hf_la hLv hvS hci (C.2.2.2.2.2.2.2.2.2.1 k5 Cn hk5) (by omega) (by omega) dX1_append_28 (fun H locs hw => ?_)
    obtain ⟨S1, hS1⟩ : ∃ z, z = pup S la (aQ (cy 3) 4 (va_up lq n (some v))) := ⟨_, rfl⟩
    replace hw : pW D (pA S s.heap.size) s.heap S1 H locs := by rw [hS1]; exact hw
    have hL2 : h ∈ S1.1 := by rw [hS1]; exact hL_h
    have hf3 : S1.2 h = .inr (1, [.ref la, .int (nI n)]) := by rw [hS1]; exact (pup_n (ne_cells hf_h hf_la (by nofun))).trans hf_h
    have hL4 : la ∈ S1.1 := by rw [hS1]; exact hL_la
    have hf5 : S1.2 la = aQ (cy 3) 4 (va_up lq n (some v)) := by rw [hS1]; exact pup_s
    refine lv_aload_n hx hb dX1_append_29 rfl (lv_at hl 0 rfl) ?_
    refine lv_dup hx hb dX1_append_30 rfl ?_
    refine p_get C hw (ci := 1) (Cn := RX1) (T := TX1) (N := 2) hL2 hf3 rfl hin_RX1 1 (by decide) (List.mem_of_getElem? (i := 1) rfl) rfl rfl dX1_append_31 ?_
    refine lv_iconst (v := nI 1) hx hb dX1_append_34 (by decide) ?_
    refine n_iadd hx hb dX1_append_35 ?_
    refine p_put C hw (ci := 1) (Cn := RX1) (T := TX1) (N := 2) tyX1 tyX1_ok nmX1 hL2 hf3 rfl hin_RX1 1 (by decide) (List.mem_of_getElem? (i := 1) rfl) rfl rfl rfl rfl rfl (by simp) dX1_append_36 rfl (fun H locs hw => ?_)
    obtain ⟨S6, hS6⟩ : ∃ z, z = pup S1 h (.inr (1, [.ref la, .int (nI (n + 1))])) := ⟨_, rfl⟩
    replace hw : pW D (pA S s.heap.size) s.heap S6 H locs := by rw [hS6]; exact hw
    have hL7 : la ∈ S6.1 := by rw [hS6]; exact hL4
    have hf8 : S6.2 la = aQ (cy 3) 4 (va_up lq n (some v)) := by rw [hS6]; exact (pup_n (ne_cells hf5 hf3 (by nofun))).trans hf5
    have hL9 : h ∈ S6.1 := by rw [hS6]; exact hL2
    have hf10 : S6.2 h = .inr (1, [.ref la, .int (nI (n + 1))]) := by rw [hS6]; exact pup_s
    exact p_vret C hw (by rw [hS6, hS1]) hr hlocks dX1_append_39

set_option maxHeartbeats 4000000 in
set_option maxRecDepth 100000 in
/-- Chain.removeLast -/
theorem c_X1_removeLast (l : Launch) (D : va_G) (cy : Nat → ClassId) (S : pS) (sz : Nat) (h la n : Nat) (lq : Nat → Option Nat) (hL_h : h ∈ S.1) (hf_h : S.2 h = .inr (1, [.ref la, .int (nI n)])) (hL_la : la ∈ S.1) (hf_la : S.2 la = aQ (cy 3) 4 lq) (hn0 : 1 ≤ n) (hn4 : n ≤ 4) : Met l yX1_removeLast wsX1_removeLast ({ frames := 0, cells := 0, slots := 0, locals := 0 }) (pPc D cy S sz [.ref h]) (pQv D cy S sz (fun S' => S' = pup (pup S h (.inr (1, [.ref la, .int (nI (n - 1))]))) la (aQ (cy 3) 4 (va_up lq (n - 1) none)))) 0 0 (pA S sz) := by
  refine Met.ofW (cc := cX1_removeLast) (maxL := 1) (ret := none) (by decide) rfl ?_
  intro p e s m args below meth c s₁ B hml hv
  obtain ⟨rfl, rfl, C, hw, hA, hr, hlocks⟩ := p_start B hml hv
  have hx := C.1
  have hb := C.2.1
  have hl := lv_entry ([.ref h]) (n := 1) (Nat.le_of_ble_eq_true rfl)
  rw [lg_entry_eq]
  generalize (lg_sl ([.ref h]) ++ List.replicate (1 - (lg_sl ([.ref h])).length) Slot.unset).toArray = ls at hl ⊢
  have hl : lv_has ls 1 [(0, .ref h)] := hl
  have hin_RX1 : ∀ w ∈ u_ws RX1 TX1 2, w ∈ wsX1_removeLast := by decide +kernel
  refine lv_aload_n hx hb dX1_removeLast_0 rfl (lv_at hl 0 rfl) ?_
  refine p_get C hw (ci := 1) (Cn := RX1) (T := TX1) (N := 2) hL_h hf_h rfl hin_RX1 1 (by decide) (List.mem_of_getElem? (i := 1) rfl) rfl rfl dX1_removeLast_1 ?_
  refine n_if_le (tgt := 39) hx hb (by omega) dX1_removeLast_4 (by decide) (fun h_4 => ?_) (fun h_4 => ?_)
  · omega
  · skip
    refine lv_aload_n hx hb dX1_removeLast_7 rfl (lv_at hl 0 rfl) ?_
    refine p_get C hw (ci := 1) (Cn := RX1) (T := TX1) (N := 2) hL_h hf_h rfl hin_RX1 1 (by decide) (List.mem_of_getElem? (i := 1) rfl) rfl rfl dX1_removeLast_8 ?_
    refine lv_aload_n hx hb dX1_removeLast_11 rfl (lv_at hl 0 rfl) ?_
    refine p_get C hw (ci := 1) (Cn := RX1) (T := TX1) (N := 2) hL_h hf_h rfl hin_RX1 0 (by decide) (List.mem_of_getElem? (i := 2) rfl) rfl rfl dX1_removeLast_12 ?_
    refine n_len C hw 3 rfl hL_la hf_la (n := 4) rfl dX1_removeLast_15 ?_
    refine n_icmp_gt (tgt := 39) hx hb (by omega) (by omega) dX1_removeLast_16 (by decide) (fun h_16 => ?_) (fun h_16 => ?_)
    · omega
    · skip
      refine lv_aload_n hx hb dX1_removeLast_19 rfl (lv_at hl 0 rfl) ?_
      refine lv_dup hx hb dX1_removeLast_20 rfl ?_
      refine p_get C hw (ci := 1) (Cn := RX1) (T := TX1) (N := 2) hL_h hf_h rfl hin_RX1 1 (by decide) (List.mem_of_getElem? (i := 1) rfl) rfl rfl dX1_removeLast_21 ?_
      refine lv_iconst (v := nI 1) hx hb dX1_removeLast_24 (by decide) ?_
      refine n_isub hx hb (by omega) dX1_removeLast_25 ?_
      refine p_put C hw (ci := 1) (Cn := RX1) (T := TX1) (N := 2) tyX1 tyX1_ok nmX1 hL_h hf_h rfl hin_RX1 1 (by decide) (List.mem_of_getElem? (i := 1) rfl) rfl rfl rfl rfl rfl (by simp) dX1_removeLast_26 rfl (fun H locs hw => ?_)
      obtain ⟨S1, hS1⟩ : ∃ z, z = pup S h (.inr (1, [.ref la, .int (nI (n - 1))])) := ⟨_, rfl⟩
      replace hw : pW D (pA S s.heap.size) s.heap S1 H locs := by rw [hS1]; exact hw
      have hL2 : la ∈ S1.1 := by rw [hS1]; exact hL_la
      have hf3 : S1.2 la = aQ (cy 3) 4 lq := by rw [hS1]; exact (pup_n (ne_cells hf_la hf_h (by nofun))).trans hf_la
      have hL4 : h ∈ S1.1 := by rw [hS1]; exact hL_h
      have hf5 : S1.2 h = .inr (1, [.ref la, .int (nI (n - 1))]) := by rw [hS1]; exact pup_s
      refine lv_aload_n hx hb dX1_removeLast_29 rfl (lv_at hl 0 rfl) ?_
      refine p_get C hw (ci := 1) (Cn := RX1) (T := TX1) (N := 2) hL4 hf5 rfl hin_RX1 0 (by decide) (List.mem_of_getElem? (i := 2) rfl) rfl rfl dX1_removeLast_30 ?_
      refine lv_aload_n hx hb dX1_removeLast_33 rfl (lv_at hl 0 rfl) ?_
      refine p_get C hw (ci := 1) (Cn := RX1) (T := TX1) (N := 2) hL4 hf5 rfl hin_RX1 1 (by decide) (List.mem_of_getElem? (i := 1) rfl) rfl rfl dX1_removeLast_34 ?_
      refine lv_null hx hb dX1_removeLast_37 ?_
      refine p_astqN C hw 3 rfl hL2 hf3 (by omega) (by omega) dX1_removeLast_38 (fun H locs hw => ?_)
      obtain ⟨S6, hS6⟩ : ∃ z, z = pup S1 la (aQ (cy 3) 4 (va_up lq (n - 1) none)) := ⟨_, rfl⟩
      replace hw : pW D (pA S s.heap.size) s.heap S6 H locs := by rw [hS6]; exact hw
      have hL7 : h ∈ S6.1 := by rw [hS6]; exact hL4
      have hf8 : S6.2 h = .inr (1, [.ref la, .int (nI (n - 1))]) := by rw [hS6]; exact (pup_n (ne_cells hf5 hf3 (by nofun))).trans hf5
      have hL9 : la ∈ S6.1 := by rw [hS6]; exact hL2
      have hf10 : S6.2 la = aQ (cy 3) 4 (va_up lq (n - 1) none) := by rw [hS6]; exact pup_s
      exact p_vret C hw (by rw [hS6, hS1]) hr hlocks dX1_removeLast_39
