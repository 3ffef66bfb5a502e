theorem degN_5 {a : Nat} (h : a < 64) : degN a 9 ≤ 5 := by
  simp only [degN]
  repeat' split
  all_goals omega
/-- the length that a stage of the law makes of n bits -/
theorem sz_le {k a b c3 c4 c5 c6 n : Nat} (h : VSt k a b c3 c4 c5 c6) (hn : n ≤ 90) : sSize (wvS k a b c3 c4 c5 c6) n ≤ 600 := by
  rcases h with ⟨rfl, h1, h2⟩ | ⟨rfl, h1, h2, h3, h4, -⟩ | ⟨rfl, h1, h2, h3, h4⟩ | ⟨rfl, h1, h2, -⟩ | ⟨rfl, h1, h2, h3, h4⟩
  · have := Nat.mul_le_mul hn h2
    show n * a ≤ 600; omega
  · have e1 := blk_mul_le (n := n) (e := a) h1
    have e2 := Nat.le_mul_of_pos_right (blk n a) h1
    have e3 := Nat.mul_le_mul_left (blk n a) h4
    have e4 := Nat.mul_add (blk n a) a 3
    show blk n a * b ≤ 600; omega
  · have e1 := blk_mul_le (n := n) (e := b) h3
    have e2 := Nat.le_mul_of_pos_right (blk n b) h3
    have e3 := Nat.mul_le_mul_left (blk n b) (degN_5 (a := a) (by omega))
    have e4 := Nat.mul_add (blk n b) b (degN a 9)
    show blk n b * (b + degN a 9) ≤ 600; omega
  · have e1 : mk3 c5 ≤ 3 := by unfold mk3; split <;> omega
    have e2 := Nat.mul_le_mul (show stp a n ≤ 93 from Nat.le_trans stp_le (by omega)) e1
    show stp a n * mk3 c5 ≤ 600; omega
  · have e0 := Nat.mul_pos h1 h3
    have e1 := blk_mul_le (n := n) (e := a * b) e0
    have e2 := Nat.mul_le_mul h2 h4
    show blk n (a * b) * a * b ≤ 600
    rw [Nat.mul_assoc]; omega

theorem g_L_code (l : Launch) (D : va_G) (cy : Nat → ClassId) (S : pS) (sz : Nat) {st row k a b c3 c4 c5 c6 n : Nat} {stg rog : Nat → Int32} (hA_st : Arr cy S st 7 stg) (hsv : Sev stg k a b c3 c4 c5 c6) (hA_row : Arr cy S row n rog) (hvs : VSt k a b c3 c4 c5 c6) (hn1 : 1 ≤ n) (hn : n ≤ 90) : Met l yL_code (Cond.code yL_code cL_code 8 (some (.array .int)) :: lwU) ({ frames := 3, cells := 620, slots := 380000, locals := 104 }) (pPc D cy S sz [.ref st, .ref row]) (pQq D cy S sz (fun r S' => ∃ (q : Nat) (g : Nat → Int32), r = some q ∧ q ∉ S.1 ∧ Grw S S' ∧ Arr cy S' q (sSize (wvS k a b c3 c4 c5 c6) n) g)) 620 380000 (pA S sz) := by
  have hz := sz_le hvs hn
  rcases hvs with ⟨rfl, h1, h2⟩ | ⟨rfl, h1, h2, h3, h4, -⟩ | ⟨rfl, h1, h2, h3, h4⟩ | ⟨rfl, h1, h2, h3, h4, h5, h6, h7⟩ | ⟨rfl, h1, h2, h3, h4⟩
  · exact (g_L_code0 (a := a) (b := b) (c5 := c5) l D cy S sz hA_st hsv hA_row (by omega) (by omega) (by omega) hz)
  · exact (g_L_code1 (a := a) (b := b) (c5 := c5) l D cy S sz hA_st hsv hA_row (by omega) h1 h2 (by omega) hz)
  · exact (g_L_code2 (a := a) (b := b) (c5 := c5) l D cy S sz hA_st hsv hA_row (by omega) (by omega) h3 (by omega) hz)
  · exact (g_L_code3 (a := a) (b := b) (c5 := c5) l D cy S sz hA_st hsv hA_row (by omega) hn1 (by omega) (by have := two_pow_5 (show a + 1 ≤ 5 by omega); omega) hz)
  · have e : sSize (wvS 4 a b c3 c4 c5 c6) n = blk n (a * b) * (a * b) := Nat.mul_assoc _ _ _
    rw [e] at hz ⊢
    exact (g_L_code4 (a := a) (b := b) (c5 := c5) l D cy S sz hA_st hsv hA_row (by omega) h1 h3 (Nat.le_trans (Nat.mul_le_mul h2 h4) (by decide)) hz)

theorem hdg_L_tell0_V_0 : yX11_repeat.cls = RX11 ∧ yX11_repeat.cls ≠ "java/lang/invoke/MethodHandle" ∧ yX11_repeat.cls ≠ "java/lang/invoke/VarHandle" ∧ (parseMethodDescriptor yX11_repeat.desc).map (fun d => d.parameters.length) = some 1 := by decide +kernel
set_option maxHeartbeats 4000000 in
set_option maxRecDepth 100000 in
theorem g_L_tell0 (l : Launch) (D : va_G) (cy : Nat → ClassId) (S : pS) (sz : Nat) {G T : Nat → Nat} {n : Nat} {ws : Nat → WV} {l2 : va_E} {V : RV} {k0 a0 b0 c0 : Nat} (hP : Pic cy S G T n ws (.inr (5, [.int (nI k0), .int (nI a0), .int (nI b0), .int (nI c0)])) l2 V) (hk : k0 ≤ 3) (hla : a0 < 2 ^ 30) (hlb : b0 < 2 ^ 30) (hlc : c0 < 2 ^ 30) {its a b c3 c4 c5 c6 : Nat} {itg : Nat → Int32} (hA_its : Arr cy S its 7 itg) (hk_its : ∀ k, k < 53 → its ≠ G k) (hsv : Sev itg 0 a b c3 c4 c5 c6) (h1 : 2 ≤ a) (h2 : a ≤ 4) (hn : n < 4) (hzz : sSize (wvS 0 a b c3 c4 c5 c6) (V.1 n) ≤ 320) (hC : Cod ws n V) : Met l yL_tell (Cond.code yL_tell cL_tell 2 (some .int) :: lwU) ({ frames := 8, cells := 2, slots := 36, locals := 192 }) (pPc D cy S sz [.ref (G 0), .ref its]) (pQi D cy S sz (fun r S' => ∃ (T' : Nat → Nat) (ws' : Nat → WV) (V' : RV), r = nI (V'.1 (n + 1)) ∧ Pic cy S' G T' (n + 1) ws' (.inr (5, [.int (nI k0), .int (nI a0), .int (nI b0), .int (nI c0)])) l2 V' ∧ Frm G S S' ∧ Nw (n + 1) ws' k0 a0 b0 c0 V V' ∧ ws' n = wvS 0 a b c3 c4 c5 c6 ∧ ∀ k, k < n → ws' k = ws k)) 2 36 (pA S sz) := by
  refine Met.ofW (cc := cL_tell) (maxL := 2) (ret := (some .int)) (by decide) rfl ?_
  intro p e s m args below meth c s₁ B hml hv
  obtain ⟨rfl, rfl, C, hw, hA, hr, hlocks⟩ := p_start B hml hv
  have hx := C.1
  have hb := C.2.1
  have hl := lv_entry ([.ref (G 0), .ref its]) (n := 2) (Nat.le_of_ble_eq_true rfl)
  rw [lg_entry_eq]
  generalize (lg_sl ([.ref (G 0), .ref its]) ++ List.replicate (2 - (lg_sl ([.ref (G 0), .ref its])).length) Slot.unset).toArray = ls at hl ⊢
  have hl : lv_has ls 2 [(0, .ref (G 0)), (1, .ref its)] := hl
  have hn4 := hP.n4
  refine lv_aload_n hx hb dL_tell_0 rfl (lv_at hl 1 rfl) ?_
  refine lv_iconst (v := nI 0) hx hb dL_tell_1 (by decide) ?_
  refine p_ald C hw 0 rfl hA_its.1 hA_its.2 (by first | decide | omega) (by first | decide | omega) dL_tell_2 ?_
  refine x_ren (b := nI 0) hsv.1 ?_
  refine lv_tableIn (tgt := 32) (off := 29) hx hb dL_tell_3 (by decide) (by decide) (by decide) (by decide) ?_
  refine lv_aload_n hx hb dL_tell_32 rfl (lv_at hl 0 rfl) ?_
  refine lv_aload_n hx hb dL_tell_33 rfl (lv_at hl 1 rfl) ?_
  refine lv_iconst (v := nI 1) hx hb dL_tell_34 (by decide) ?_
  refine p_ald C hw 0 rfl hA_its.1 hA_its.2 (by first | decide | omega) (by first | decide | omega) dL_tell_35 ?_
  refine x_ren (b := nI a) hsv.2.1 ?_
  refine p_calli (va_runV (As := [.int (nI a)]) (rest := []) C.fix (g_X11_repeat l D cy S s.heap.size hP hk hla hlb hlc a h1 (by omega) hn hzz hC) (cwV 1 C.2.2.2.2.1 (gU_V mw_403 mw_404 mw_405 mw_2 (subU mw_406)) rfl rfl rfl hdg_L_tell0_V_0 ⟨Nat.le_of_ble_eq_true rfl, Nat.le_of_ble_eq_true rfl⟩) (p_preV C hw (hP.mem (k := 0) (by omega)) hP.c0 rfl) rfl rfl hl.1 rfl (lv_room (Nat.le_of_ble_eq_true rfl)) dL_tell_36 ⟨(Nat.le_of_ble_eq_true rfl), (Nat.le_of_ble_eq_true rfl)⟩) hw hA (fun r2 S1 H locs hpost hw => ?_)
  obtain ⟨Tt3, wt4, V5, hr_, hP6, hF7, tN8, tw9, tk10⟩ := hpost
  subst hr_
  refine W.widen (k := 2) (n := 36) (Nat.le_of_ble_eq_true rfl) (Nat.le_of_ble_eq_true rfl) ?_
  exact (p_iret C hw ⟨Tt3, wt4, V5, rfl, hP6, hF7, tN8, tw9, tk10⟩ hr hlocks dL_tell_39)

theorem hdg_L_tell1_V_0 : yX11_block.cls = RX11 ∧ yX11_block.cls ≠ "java/lang/invoke/MethodHandle" ∧ yX11_block.cls ≠ "java/lang/invoke/VarHandle" ∧ (parseMethodDescriptor yX11_block.desc).map (fun d => d.parameters.length) = some 6 := by decide +kernel
set_option maxHeartbeats 4000000 in
set_option maxRecDepth 100000 in
theorem g_L_tell1 (l : Launch) (D : va_G) (cy : Nat → ClassId) (S : pS) (sz : Nat) {G T : Nat → Nat} {n : Nat} {ws : Nat → WV} {l2 : va_E} {V : RV} {k0 a0 b0 c0 : Nat} (hP : Pic cy S G T n ws (.inr (5, [.int (nI k0), .int (nI a0), .int (nI b0), .int (nI c0)])) l2 V) (hk : k0 ≤ 3) (hla : a0 < 2 ^ 30) (hlb : b0 < 2 ^ 30) (hlc : c0 < 2 ^ 30) {its a b c3 c4 c5 c6 : Nat} {itg : Nat → Int32} (hA_its : Arr cy S its 7 itg) (hk_its : ∀ k, k < 53 → its ≠ G k) (hsv : Sev itg 1 a b c3 c4 c5 c6) (h1 : 1 ≤ a) (h2 : a ≤ 4) (h3 : a ≤ b) (h4 : b ≤ a + 3) (h5 : c3 < 2 ^ b) (h6 : c4 < 2 ^ b) (h7 : c5 < 2 ^ b) (h8 : c6 < 2 ^ b) (hn : n < 4) (hzz : sSize (wvS 1 a b c3 c4 c5 c6) (V.1 n) ≤ 320) (hC : Cod ws n V) : Met l yL_tell (Cond.code yL_tell cL_tell 2 (some .int) :: lwU) ({ frames := 8, cells := 2, slots := 36, locals := 192 }) (pPc D cy S sz [.ref (G 0), .ref its]) (pQi D cy S sz (fun r S' => ∃ (T' : Nat → Nat) (ws' : Nat → WV) (V' : RV), r = nI (V'.1 (n + 1)) ∧ Pic cy S' G T' (n + 1) ws' (.inr (5, [.int (nI k0), .int (nI a0), .int (nI b0), .int (nI c0)])) l2 V' ∧ Frm G S S' ∧ Nw (n + 1) ws' k0 a0 b0 c0 V V' ∧ ws' n = wvS 1 a b c3 c4 c5 c6 ∧ ∀ k, k < n → ws' k = ws k)) 2 36 (pA S sz) := by
  refine Met.ofW (cc := cL_tell) (maxL := 2) (ret := (some .int)) (by decide) rfl ?_
  intro p e s m args below meth c s₁ B hml hv
  obtain ⟨rfl, rfl, C, hw, hA, hr, hlocks⟩ := p_start B hml hv
  have hx := C.1
  have hb := C.2.1
  have hl := lv_entry ([.ref (G 0), .ref its]) (n := 2) (Nat.le_of_ble_eq_true rfl)
  rw [lg_entry_eq]
  generalize (lg_sl ([.ref (G 0), .ref its]) ++ List.replicate (2 - (lg_sl ([.ref (G 0), .ref its])).length) Slot.unset).toArray = ls at hl ⊢
  have hl : lv_has ls 2 [(0, .ref (G 0)), (1, .ref its)] := hl
  have hn4 := hP.n4
  refine lv_aload_n hx hb dL_tell_0 rfl (lv_at hl 1 rfl) ?_
  refine lv_iconst (v := nI 0) hx hb dL_tell_1 (by decide) ?_
  refine p_ald C hw 0 rfl hA_its.1 hA_its.2 (by first | decide | omega) (by first | decide | omega) dL_tell_2 ?_
  refine x_ren (b := nI 1) hsv.1 ?_
  refine lv_tableIn (tgt := 40) (off := 37) hx hb dL_tell_3 (by decide) (by decide) (by decide) (by decide) ?_
  refine lv_aload_n hx hb dL_tell_40 rfl (lv_at hl 0 rfl) ?_
  refine lv_aload_n hx hb dL_tell_41 rfl (lv_at hl 1 rfl) ?_
  refine lv_iconst (v := nI 1) hx hb dL_tell_42 (by decide) ?_
  refine p_ald C hw 0 rfl hA_its.1 hA_its.2 (by first | decide | omega) (by first | decide | omega) dL_tell_43 ?_
  refine x_ren (b := nI a) hsv.2.1 ?_
  refine lv_aload_n hx hb dL_tell_44 rfl (lv_at hl 1 rfl) ?_
  refine lv_iconst (v := nI 2) hx hb dL_tell_45 (by decide) ?_
  refine p_ald C hw 0 rfl hA_its.1 hA_its.2 (by first | decide | omega) (by first | decide | omega) dL_tell_46 ?_
  refine x_ren (b := nI b) hsv.2.2.1 ?_
  refine lv_aload_n hx hb dL_tell_47 rfl (lv_at hl 1 rfl) ?_
  refine lv_iconst (v := nI 3) hx hb dL_tell_48 (by decide) ?_
  refine p_ald C hw 0 rfl hA_its.1 hA_its.2 (by first | decide | omega) (by first | decide | omega) dL_tell_49 ?_
  refine x_ren (b := nI c3) hsv.2.2.2.1 ?_
  refine lv_aload_n hx hb dL_tell_50 rfl (lv_at hl 1 rfl) ?_
  refine lv_iconst (v := nI 4) hx hb dL_tell_51 (by decide) ?_
  refine p_ald C hw 0 rfl hA_its.1 hA_its.2 (by first | decide | omega) (by first | decide | omega) dL_tell_52 ?_
  refine x_ren (b := nI c4) hsv.2.2.2.2.1 ?_
  refine lv_aload_n hx hb dL_tell_53 rfl (lv_at hl 1 rfl) ?_
  refine lv_iconst (v := nI 5) hx hb dL_tell_54 (by decide) ?_
  refine p_ald C hw 0 rfl hA_its.1 hA_its.2 (by first | decide | omega) (by first | decide | omega) dL_tell_55 ?_
  refine x_ren (b := nI c5) hsv.2.2.2.2.2.1 ?_
  refine lv_aload_n hx hb dL_tell_56 rfl (lv_at hl 1 rfl) ?_
  refine lv_bipush (v := nI 6) hx hb dL_tell_57 (by decide) ?_
  refine p_ald C hw 0 rfl hA_its.1 hA_its.2 (by first | decide | omega) (by first | decide | omega) dL_tell_59 ?_
  refine x_ren (b := nI c6) hsv.2.2.2.2.2.2 ?_
  refine p_calli (va_runV (As := [.int (nI a), .int (nI b), .int (nI c3), .int (nI c4), .int (nI c5), .int (nI c6)]) (rest := []) C.fix (g_X11_block l D cy S s.heap.size hP hk hla hlb hlc a b c3 c4 c5 c6 h1 h2 h3 (by omega) h5 h6 h7 h8 hn hzz hC) (cwV 6 C.2.2.2.2.1 (gU_V mw_425 mw_426 mw_427 mw_2 (subU mw_428)) rfl rfl rfl hdg_L_tell1_V_0 ⟨Nat.le_of_ble_eq_true rfl, Nat.le_of_ble_eq_true rfl⟩) (p_preV C hw (hP.mem (k := 0) (by omega)) hP.c0 rfl) rfl rfl hl.1 rfl (lv_room (Nat.le_of_ble_eq_true rfl)) dL_tell_60 ⟨(Nat.le_of_ble_eq_true rfl), (Nat.le_of_ble_eq_true rfl)⟩) hw hA (fun r2 S1 H locs hpost hw => ?_)
  obtain ⟨Tt3, wt4, V5, hr_, hP6, hF7, tN8, tw9, tk10⟩ := hpost
  subst hr_
  refine W.widen (k := 2) (n := 36) (Nat.le_of_ble_eq_true rfl) (Nat.le_of_ble_eq_true rfl) ?_
  exact (p_iret C hw ⟨Tt3, wt4, V5, rfl, hP6, hF7, tN8, tw9, tk10⟩ hr hlocks dL_tell_63)

theorem hdg_L_tell2_V_0 : yX11_check.cls = RX11 ∧ yX11_check.cls ≠ "java/lang/invoke/MethodHandle" ∧ yX11_check.cls ≠ "java/lang/invoke/VarHandle" ∧ (parseMethodDescriptor yX11_check.desc).map (fun d => d.parameters.length) = some 2 := by decide +kernel
set_option maxHeartbeats 4000000 in
set_option maxRecDepth 100000 in
theorem g_L_tell2 (l : Launch) (D : va_G) (cy : Nat → ClassId) (S : pS) (sz : Nat) {G T : Nat → Nat} {n : Nat} {ws : Nat → WV} {l2 : va_E} {V : RV} {k0 a0 b0 c0 : Nat} (hP : Pic cy S G T n ws (.inr (5, [.int (nI k0), .int (nI a0), .int (nI b0), .int (nI c0)])) l2 V) (hk : k0 ≤ 3) (hla : a0 < 2 ^ 30) (hlb : b0 < 2 ^ 30) (hlc : c0 < 2 ^ 30) {its a b c3 c4 c5 c6 : Nat} {itg : Nat → Int32} (hA_its : Arr cy S its 7 itg) (hk_its : ∀ k, k < 53 → its ≠ G k) (hsv : Sev itg 2 a b c3 c4 c5 c6) (h1 : 2 ≤ a) (h2 : a ≤ 61) (h3 : 1 ≤ b) (h4 : b ≤ 9) (hn : n < 4) (hzz : sSize (wvS 2 a b c3 c4 c5 c6) (V.1 n) ≤ 320) (hC : Cod ws n V) : Met l yL_tell (Cond.code yL_tell cL_tell 2 (some .int) :: lwU) ({ frames := 8, cells := 2, slots := 36, locals := 192 }) (pPc D cy S sz [.ref (G 0), .ref its]) (pQi D cy S sz (fun r S' => ∃ (T' : Nat → Nat) (ws' : Nat → WV) (V' : RV), r = nI (V'.1 (n + 1)) ∧ Pic cy S' G T' (n + 1) ws' (.inr (5, [.int (nI k0), .int (nI a0), .int (nI b0), .int (nI c0)])) l2 V' ∧ Frm G S S' ∧ Nw (n + 1) ws' k0 a0 b0 c0 V V' ∧ ws' n = wvS 2 a b c3 c4 c5 c6 ∧ ∀ k, k < n → ws' k = ws k)) 2 36 (pA S sz) := by
  refine Met.ofW (cc := cL_tell) (maxL := 2) (ret := (some .int)) (by decide) rfl ?_
  intro p e s m args below meth c s₁ B hml hv
  obtain ⟨rfl, rfl, C, hw, hA, hr, hlocks⟩ := p_start B hml hv
  have hx := C.1
  have hb := C.2.1
  have hl := lv_entry ([.ref (G 0), .ref its]) (n := 2) (Nat.le_of_ble_eq_true rfl)
  rw [lg_entry_eq]
  generalize (lg_sl ([.ref (G 0), .ref its]) ++ List.replicate (2 - (lg_sl ([.ref (G 0), .ref its])).length) Slot.unset).toArray = ls at hl ⊢
  have hl : lv_has ls 2 [(0, .ref (G 0)), (1, .ref its)] := hl
  have hn4 := hP.n4
  refine lv_aload_n hx hb dL_tell_0 rfl (lv_at hl 1 rfl) ?_
  refine lv_iconst (v := nI 0) hx hb dL_tell_1 (by decide) ?_
  refine p_ald C hw 0 rfl hA_its.1 hA_its.2 (by first | decide | omega) (by first | decide | omega) dL_tell_2 ?_
  refine x_ren (b := nI 2) hsv.1 ?_
  refine lv_tableIn (tgt := 64) (off := 61) hx hb dL_tell_3 (by decide) (by decide) (by decide) (by decide) ?_
  refine lv_aload_n hx hb dL_tell_64 rfl (lv_at hl 0 rfl) ?_
  refine lv_aload_n hx hb dL_tell_65 rfl (lv_at hl 1 rfl) ?_
  refine lv_iconst (v := nI 1) hx hb dL_tell_66 (by decide) ?_
  refine p_ald C hw 0 rfl hA_its.1 hA_its.2 (by first | decide | omega) (by first | decide | omega) dL_tell_67 ?_
  refine x_ren (b := nI a) hsv.2.1 ?_
  refine lv_aload_n hx hb dL_tell_68 rfl (lv_at hl 1 rfl) ?_
  refine lv_iconst (v := nI 2) hx hb dL_tell_69 (by decide) ?_
  refine p_ald C hw 0 rfl hA_its.1 hA_its.2 (by first | decide | omega) (by first | decide | omega) dL_tell_70 ?_
  refine x_ren (b := nI b) hsv.2.2.1 ?_
  refine p_calli (va_runV (As := [.int (nI a), .int (nI b)]) (rest := []) C.fix (g_X11_check l D cy S s.heap.size hP hk hla hlb hlc a b h1 (by omega) h3 (by omega) hn hzz hC) (cwV 2 C.2.2.2.2.1 (gU_V mw_437 mw_438 mw_439 mw_2 (subU mw_440)) rfl rfl rfl hdg_L_tell2_V_0 ⟨Nat.le_of_ble_eq_true rfl, Nat.le_of_ble_eq_true rfl⟩) (p_preV C hw (hP.mem (k := 0) (by omega)) hP.c0 rfl) rfl rfl hl.1 rfl (lv_room (Nat.le_of_ble_eq_true rfl)) dL_tell_71 ⟨(Nat.le_of_ble_eq_true rfl), (Nat.le_of_ble_eq_true rfl)⟩) hw hA (fun r2 S1 H locs hpost hw => ?_)
  obtain ⟨Tt3, wt4, V5, hr_, hP6, hF7, tN8, tw9, tk10⟩ := hpost
  subst hr_
  refine W.widen (k := 2) (n := 36) (Nat.le_of_ble_eq_true rfl) (Nat.le_of_ble_eq_true rfl) ?_
  exact (p_iret C hw ⟨Tt3, wt4, V5, rfl, hP6, hF7, tN8, tw9, tk10⟩ hr hlocks dL_tell_74)

theorem hdg_L_tell3_V_0 : yX11_trail.cls = RX11 ∧ yX11_trail.cls ≠ "java/lang/invoke/MethodHandle" ∧ yX11_trail.cls ≠ "java/lang/invoke/VarHandle" ∧ (parseMethodDescriptor yX11_trail.desc).map (fun d => d.parameters.length) = some 4 := by decide +kernel
set_option maxHeartbeats 4000000 in
set_option maxRecDepth 100000 in
theorem g_L_tell3 (l : Launch) (D : va_G) (cy : Nat → ClassId) (S : pS) (sz : Nat) {G T : Nat → Nat} {n : Nat} {ws : Nat → WV} {l2 : va_E} {V : RV} {k0 a0 b0 c0 : Nat} (hP : Pic cy S G T n ws (.inr (5, [.int (nI k0), .int (nI a0), .int (nI b0), .int (nI c0)])) l2 V) (hk : k0 ≤ 3) (hla : a0 < 2 ^ 30) (hlb : b0 < 2 ^ 30) (hlc : c0 < 2 ^ 30) {its a b c3 c4 c5 c6 : Nat} {itg : Nat → Int32} (hA_its : Arr cy S its 7 itg) (hk_its : ∀ k, k < 53 → its ≠ G k) (hsv : Sev itg 3 a b c3 c4 c5 c6) (h1 : 1 ≤ a) (h2 : a ≤ 3) (h3 : 1 ≤ c3) (h4 : c3 < 2 ^ (a + 1)) (h5 : 1 ≤ c4) (h6 : c4 < 2 ^ (a + 1)) (h7 : c5 < 2 ^ (a + 1)) (hn : n < 4) (hzz : sSize (wvS 3 a b c3 c4 c5 c6) (V.1 n) ≤ 320) (hC : Cod ws n V) : Met l yL_tell (Cond.code yL_tell cL_tell 2 (some .int) :: lwU) ({ frames := 8, cells := 2, slots := 36, locals := 192 }) (pPc D cy S sz [.ref (G 0), .ref its]) (pQi D cy S sz (fun r S' => ∃ (T' : Nat → Nat) (ws' : Nat → WV) (V' : RV), r = nI (V'.1 (n + 1)) ∧ Pic cy S' G T' (n + 1) ws' (.inr (5, [.int (nI k0), .int (nI a0), .int (nI b0), .int (nI c0)])) l2 V' ∧ Frm G S S' ∧ Nw (n + 1) ws' k0 a0 b0 c0 V V' ∧ ws' n = wvS 3 a b c3 c4 c5 c6 ∧ ∀ k, k < n → ws' k = ws k)) 2 36 (pA S sz) := by
  refine Met.ofW (cc := cL_tell) (maxL := 2) (ret := (some .int)) (by decide) rfl ?_
  intro p e s m args below meth c s₁ B hml hv
  obtain ⟨rfl, rfl, C, hw, hA, hr, hlocks⟩ := p_start B hml hv
  have hx := C.1
  have hb := C.2.1
  have hl := lv_entry ([.ref (G 0), .ref its]) (n := 2) (Nat.le_of_ble_eq_true rfl)
  rw [lg_entry_eq]
  generalize (lg_sl ([.ref (G 0), .ref its]) ++ List.replicate (2 - (lg_sl ([.ref (G 0), .ref its])).length) Slot.unset).toArray = ls at hl ⊢
  have hl : lv_has ls 2 [(0, .ref (G 0)), (1, .ref its)] := hl
  have hn4 := hP.n4
  refine lv_aload_n hx hb dL_tell_0 rfl (lv_at hl 1 rfl) ?_
  refine lv_iconst (v := nI 0) hx hb dL_tell_1 (by decide) ?_
  refine p_ald C hw 0 rfl hA_its.1 hA_its.2 (by first | decide | omega) (by first | decide | omega) dL_tell_2 ?_
  refine x_ren (b := nI 3) hsv.1 ?_
  refine lv_tableIn (tgt := 75) (off := 72) hx hb dL_tell_3 (by decide) (by decide) (by decide) (by decide) ?_
  refine lv_aload_n hx hb dL_tell_75 rfl (lv_at hl 0 rfl) ?_
  refine lv_aload_n hx hb dL_tell_76 rfl (lv_at hl 1 rfl) ?_
  refine lv_iconst (v := nI 1) hx hb dL_tell_77 (by decide) ?_
  refine p_ald C hw 0 rfl hA_its.1 hA_its.2 (by first | decide | omega) (by first | decide | omega) dL_tell_78 ?_
  refine x_ren (b := nI a) hsv.2.1 ?_
  refine lv_aload_n hx hb dL_tell_79 rfl (lv_at hl 1 rfl) ?_
  refine lv_iconst (v := nI 3) hx hb dL_tell_80 (by decide) ?_
  refine p_ald C hw 0 rfl hA_its.1 hA_its.2 (by first | decide | omega) (by first | decide | omega) dL_tell_81 ?_
  refine x_ren (b := nI c3) hsv.2.2.2.1 ?_
  refine lv_aload_n hx hb dL_tell_82 rfl (lv_at hl 1 rfl) ?_
  refine lv_iconst (v := nI 4) hx hb dL_tell_83 (by decide) ?_
  refine p_ald C hw 0 rfl hA_its.1 hA_its.2 (by first | decide | omega) (by first | decide | omega) dL_tell_84 ?_
  refine x_ren (b := nI c4) hsv.2.2.2.2.1 ?_
  refine lv_aload_n hx hb dL_tell_85 rfl (lv_at hl 1 rfl) ?_
  refine lv_iconst (v := nI 5) hx hb dL_tell_86 (by decide) ?_
  refine p_ald C hw 0 rfl hA_its.1 hA_its.2 (by first | decide | omega) (by first | decide | omega) dL_tell_87 ?_
  refine x_ren (b := nI c5) hsv.2.2.2.2.2.1 ?_
  refine p_calli (va_runV (As := [.int (nI a), .int (nI c3), .int (nI c4), .int (nI c5)]) (rest := []) C.fix (g_X11_trail l D cy S s.heap.size hP hk hla hlb hlc a c3 c4 c5 h1 (by omega) h4 h6 h7 h3 h5 hn hzz hC) (cwV 4 C.2.2.2.2.1 (gU_V mw_449 mw_450 mw_451 mw_2 (subU mw_452)) rfl rfl rfl hdg_L_tell3_V_0 ⟨Nat.le_of_ble_eq_true rfl, Nat.le_of_ble_eq_true rfl⟩) (p_preV C hw (hP.mem (k := 0) (by omega)) hP.c0 rfl) rfl rfl hl.1 rfl (lv_room (Nat.le_of_ble_eq_true rfl)) dL_tell_88 ⟨(Nat.le_of_ble_eq_true rfl), (Nat.le_of_ble_eq_true rfl)⟩) hw hA (fun r2 S1 H locs hpost hw => ?_)
  obtain ⟨Tt3, wt4, V5, hr_, hP6, hF7, tN8, tw9, tk10⟩ := hpost
  subst hr_
  exact (p_iret C hw ⟨Tt3, wt4, V5, rfl, hP6, hF7, tN8, tw9, tk10⟩ hr hlocks dL_tell_91)

theorem hdg_L_tell4_V_0 : yX11_weave.cls = RX11 ∧ yX11_weave.cls ≠ "java/lang/invoke/MethodHandle" ∧ yX11_weave.cls ≠ "java/lang/invoke/VarHandle" ∧ (parseMethodDescriptor yX11_weave.desc).map (fun d => d.parameters.length) = some 2 := by decide +kernel
set_option maxHeartbeats 4000000 in
set_option maxRecDepth 100000 in
theorem g_L_tell4 (l : Launch) (D : va_G) (cy : Nat → ClassId) (S : pS) (sz : Nat) {G T : Nat → Nat} {n : Nat} {ws : Nat → WV} {l2 : va_E} {V : RV} {k0 a0 b0 c0 : Nat} (hP : Pic cy S G T n ws (.inr (5, [.int (nI k0), .int (nI a0), .int (nI b0), .int (nI c0)])) l2 V) (hk : k0 ≤ 3) (hla : a0 < 2 ^ 30) (hlb : b0 < 2 ^ 30) (hlc : c0 < 2 ^ 30) {its a b c3 c4 c5 c6 : Nat} {itg : Nat → Int32} (hA_its : Arr cy S its 7 itg) (hk_its : ∀ k, k < 53 → its ≠ G k) (hsv : Sev itg 4 a b c3 c4 c5 c6) (h1 : 1 ≤ a) (h2 : a ≤ 4) (h3 : 1 ≤ b) (h4 : b ≤ 4) (hn : n < 4) (hzz : sSize (wvS 4 a b c3 c4 c5 c6) (V.1 n) ≤ 320) (hC : Cod ws n V) : Met l yL_tell (Cond.code yL_tell cL_tell 2 (some .int) :: lwU) ({ frames := 8, cells := 2, slots := 36, locals := 192 }) (pPc D cy S sz [.ref (G 0), .ref its]) (pQi D cy S sz (fun r S' => ∃ (T' : Nat → Nat) (ws' : Nat → WV) (V' : RV), r = nI (V'.1 (n + 1)) ∧ Pic cy S' G T' (n + 1) ws' (.inr (5, [.int (nI k0), .int (nI a0), .int (nI b0), .int (nI c0)])) l2 V' ∧ Frm G S S' ∧ Nw (n + 1) ws' k0 a0 b0 c0 V V' ∧ ws' n = wvS 4 a b c3 c4 c5 c6 ∧ ∀ k, k < n → ws' k = ws k)) 2 36 (pA S sz) := by
  refine Met.ofW (cc := cL_tell) (maxL := 2) (ret := (some .int)) (by decide) rfl ?_
  intro p e s m args below meth c s₁ B hml hv
  obtain ⟨rfl, rfl, C, hw, hA, hr, hlocks⟩ := p_start B hml hv
  have hx := C.1
  have hb := C.2.1
  have hl := lv_entry ([.ref (G 0), .ref its]) (n := 2) (Nat.le_of_ble_eq_true rfl)
  rw [lg_entry_eq]
  generalize (lg_sl ([.ref (G 0), .ref its]) ++ List.replicate (2 - (lg_sl ([.ref (G 0), .ref its])).length) Slot.unset).toArray = ls at hl ⊢
  have hl : lv_has ls 2 [(0, .ref (G 0)), (1, .ref its)] := hl
  have hn4 := hP.n4
  refine lv_aload_n hx hb dL_tell_0 rfl (lv_at hl 1 rfl) ?_
  refine lv_iconst (v := nI 0) hx hb dL_tell_1 (by decide) ?_
  refine p_ald C hw 0 rfl hA_its.1 hA_its.2 (by first | decide | omega) (by first | decide | omega) dL_tell_2 ?_
  refine x_ren (b := nI 4) hsv.1 ?_
  refine lv_tableOut (tgt := 92) hx hb dL_tell_3 (by decide) (by decide) ?_
  refine lv_aload_n hx hb dL_tell_92 rfl (lv_at hl 0 rfl) ?_
  refine lv_aload_n hx hb dL_tell_93 rfl (lv_at hl 1 rfl) ?_
  refine lv_iconst (v := nI 1) hx hb dL_tell_94 (by decide) ?_
  refine p_ald C hw 0 rfl hA_its.1 hA_its.2 (by first | decide | omega) (by first | decide | omega) dL_tell_95 ?_
  refine x_ren (b := nI a) hsv.2.1 ?_
  refine lv_aload_n hx hb dL_tell_96 rfl (lv_at hl 1 rfl) ?_
  refine lv_iconst (v := nI 2) hx hb dL_tell_97 (by decide) ?_
  refine p_ald C hw 0 rfl hA_its.1 hA_its.2 (by first | decide | omega) (by first | decide | omega) dL_tell_98 ?_
  refine x_ren (b := nI b) hsv.2.2.1 ?_
  refine p_calli (va_runV (As := [.int (nI a), .int (nI b)]) (rest := []) C.fix (g_X11_weave l D cy S s.heap.size hP hk hla hlb hlc a b h1 (by omega) h3 (by omega) hn hzz hC) (cwV 2 C.2.2.2.2.1 (gU_V mw_461 mw_462 mw_463 mw_2 (subU mw_464)) rfl rfl rfl hdg_L_tell4_V_0 ⟨Nat.le_of_ble_eq_true rfl, Nat.le_of_ble_eq_true rfl⟩) (p_preV C hw (hP.mem (k := 0) (by omega)) hP.c0 rfl) rfl rfl hl.1 rfl (lv_room (Nat.le_of_ble_eq_true rfl)) dL_tell_99 ⟨(Nat.le_of_ble_eq_true rfl), (Nat.le_of_ble_eq_true rfl)⟩) hw hA (fun r2 S1 H locs hpost hw => ?_)
  obtain ⟨Tt3, wt4, V5, hr_, hP6, hF7, tN8, tw9, tk10⟩ := hpost
  subst hr_
  refine W.widen (k := 2) (n := 36) (Nat.le_of_ble_eq_true rfl) (Nat.le_of_ble_eq_true rfl) ?_
  exact (p_iret C hw ⟨Tt3, wt4, V5, rfl, hP6, hF7, tN8, tw9, tk10⟩ hr hlocks dL_tell_102)

theorem g_L_tell (l : Launch) (D : va_G) (cy : Nat → ClassId) (S : pS) (sz : Nat) {G T : Nat → Nat} {n : Nat} {ws : Nat → WV} {l2 : va_E} {V : RV} {k0 a0 b0 c0 : Nat} (hP : Pic cy S G T n ws (.inr (5, [.int (nI k0), .int (nI a0), .int (nI b0), .int (nI c0)])) l2 V) (hk : k0 ≤ 3) (hla : a0 < 2 ^ 30) (hlb : b0 < 2 ^ 30) (hlc : c0 < 2 ^ 30) {its k a b c3 c4 c5 c6 : Nat} {itg : Nat → Int32} (hA_its : Arr cy S its 7 itg) (hk_its : ∀ k, k < 53 → its ≠ G k) (hsv : Sev itg k a b c3 c4 c5 c6) (hvs : VSt k a b c3 c4 c5 c6) (hn : n < 4) (hzz : sSize (wvS k a b c3 c4 c5 c6) (V.1 n) ≤ 320) (hC : Cod ws n V) : Met l yL_tell (Cond.code yL_tell cL_tell 2 (some .int) :: lwU) ({ frames := 8, cells := 2, slots := 36, locals := 192 }) (pPc D cy S sz [.ref (G 0), .ref its]) (pQi D cy S sz (fun r S' => ∃ (T' : Nat → Nat) (ws' : Nat → WV) (V' : RV), r = nI (V'.1 (n + 1)) ∧ Pic cy S' G T' (n + 1) ws' (.inr (5, [.int (nI k0), .int (nI a0), .int (nI b0), .int (nI c0)])) l2 V' ∧ Frm G S S' ∧ Nw (n + 1) ws' k0 a0 b0 c0 V V' ∧ ws' n = wvS k a b c3 c4 c5 c6 ∧ ∀ k, k < n → ws' k = ws k)) 2 36 (pA S sz) := by
  rcases hvs with ⟨rfl, h1, h2⟩ | ⟨rfl, h1, h2, h3, h4, h5, h6, h7, h8⟩ | ⟨rfl, h1, h2, h3, h4⟩ | ⟨rfl, h1, h2, h3, h4, h5, h6, h7⟩ | ⟨rfl, h1, h2, h3, h4⟩
  · exact g_L_tell0 l D cy S sz hP hk hla hlb hlc hA_its hk_its hsv h1 h2 hn hzz hC
  · exact g_L_tell1 l D cy S sz hP hk hla hlb hlc hA_its hk_its hsv h1 h2 h3 h4 h5 h6 h7 h8 hn hzz hC
  · exact g_L_tell2 l D cy S sz hP hk hla hlb hlc hA_its hk_its hsv h1 h2 h3 h4 hn hzz hC
  · exact g_L_tell3 l D cy S sz hP hk hla hlb hlc hA_its hk_its hsv h1 h2 h3 h4 h5 h6 h7 hn hzz hC
  · exact g_L_tell4 l D cy S sz hP hk hla hlb hlc hA_its hk_its hsv h1 h2 h3 h4 hn hzz hC
