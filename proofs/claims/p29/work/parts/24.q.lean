set_option maxHeartbeats 4000000 in
set_option maxRecDepth 100000 in
/-- Stage.apart -/
theorem c_X8_apart (l : Launch) (D : va_G) (cy : Nat → ClassId) (S : pS) (sz : Nat) (h : Nat)   : Met l yX8_apart wsX8_apart ({ frames := 0, cells := 0, slots := 0, locals := 0 }) (pPc D cy S sz [.ref h]) (pQi D cy S sz (fun r S' => r = nI 1 ∧ S = S')) 0 0 (pA S sz) := by
  refine Met.ofW (cc := cX8_apart) (maxL := 1) (ret := (some .int)) (by decide) rfl ?_
  intro p e s m args below meth c s₁ B hml hv
  obtain ⟨rfl, rfl, C, hw, hA, hr, hlocks⟩ := p_start B hml hv
  have hx := C.1
  have hb := C.2.1
  have hl := lv_entry ([.ref h]) (n := 1) (Nat.le_of_ble_eq_true rfl)
  rw [lg_entry_eq]
  generalize (lg_sl ([.ref h]) ++ List.replicate (1 - (lg_sl ([.ref h])).length) Slot.unset).toArray = ls at hl ⊢
  have hl : lv_has ls 1 [(0, .ref h)] := hl
  refine lv_iconst (v := nI 1) hx hb dX8_apart_0 (by decide) ?_
  exact p_iret C hw ⟨rfl, rfl⟩ hr hlocks dX8_apart_1

set_option maxHeartbeats 4000000 in
set_option maxRecDepth 100000 in
/-- Stage.damagedIn -/
theorem c_X8_damagedIn (l : Launch) (D : va_G) (cy : Nat → ClassId) (S : pS) (sz : Nat) (h a : Nat)   : Met l yX8_damagedIn wsX8_damagedIn ({ frames := 0, cells := 0, slots := 0, locals := 0 }) (pPc D cy S sz [.ref h, .ref a]) (pQi D cy S sz (fun r S' => r = nI 0 ∧ S = S')) 0 0 (pA S sz) := by
  refine Met.ofW (cc := cX8_damagedIn) (maxL := 2) (ret := (some .int)) (by decide) rfl ?_
  intro p e s m args below meth c s₁ B hml hv
  obtain ⟨rfl, rfl, C, hw, hA, hr, hlocks⟩ := p_start B hml hv
  have hx := C.1
  have hb := C.2.1
  have hl := lv_entry ([.ref h, .ref a]) (n := 2) (Nat.le_of_ble_eq_true rfl)
  rw [lg_entry_eq]
  generalize (lg_sl ([.ref h, .ref a]) ++ List.replicate (2 - (lg_sl ([.ref h, .ref a])).length) Slot.unset).toArray = ls at hl ⊢
  have hl : lv_has ls 2 [(0, .ref h), (1, .ref a)] := hl
  refine lv_iconst (v := nI 0) hx hb dX8_damagedIn_0 (by decide) ?_
  exact p_iret C hw ⟨rfl, rfl⟩ hr hlocks dX8_damagedIn_1

set_option maxHeartbeats 4000000 in
set_option maxRecDepth 100000 in
/-- Stage.wordsWith -/
theorem c_X8_wordsWith (l : Launch) (D : va_G) (cy : Nat → ClassId) (S : pS) (sz : Nat) (h : Nat) (x : Int32)   : Met l yX8_wordsWith wsX8_wordsWith ({ frames := 0, cells := 0, slots := 0, locals := 0 }) (pPc D cy S sz [.ref h, .int x]) (pQi D cy S sz (fun r S' => r = nI 0 ∧ S = S')) 0 0 (pA S sz) := by
  refine Met.ofW (cc := cX8_wordsWith) (maxL := 2) (ret := (some .int)) (by decide) rfl ?_
  intro p e s m args below meth c s₁ B hml hv
  obtain ⟨rfl, rfl, C, hw, hA, hr, hlocks⟩ := p_start B hml hv
  have hx := C.1
  have hb := C.2.1
  have hl := lv_entry ([.ref h, .int x]) (n := 2) (Nat.le_of_ble_eq_true rfl)
  rw [lg_entry_eq]
  generalize (lg_sl ([.ref h, .int x]) ++ List.replicate (2 - (lg_sl ([.ref h, .int x])).length) Slot.unset).toArray = ls at hl ⊢
  have hl : lv_has ls 2 [(0, .ref h), (1, .int x)] := hl
  refine lv_iconst (v := nI 0) hx hb dX8_wordsWith_0 (by decide) ?_
  exact p_iret C hw ⟨rfl, rfl⟩ hr hlocks dX8_wordsWith_1

theorem q_resize (l : Launch) (D : va_G) (cy : Nat → ClassId) (S : pS) (sz : Nat) {G T : Nat → Nat} {n : Nat} {ws : Nat → WV} {l1 l2 : va_E} {V : RV} (hP : Pic cy S G T n ws l1 l2 V) (r w : Nat) (hr : r < 15) (hw : w < 2 ^ 31) : Met l yX7_resize wsX7_resize ({ frames := 1, cells := 0, slots := 0, locals := 21 }) (pPc D cy S sz [.ref (G (21 + r)), .int (nI w)]) (pQv D cy S sz (fun S' => Pic cy S' G T n ws l1 l2 (va_up V.1 r (min w (gcap r)), V.2) ∧ Frm G S S')) 0 0 (pA S sz) :=
  (c_X7_resize l D cy S sz (G (21 + r)) (G (37 + r)) (gcap r) (V.1 r) w (V.2 r) (hP.mem (by omega)) (hP.rh (by omega)) (hP.mem (by omega)) (hP.rb (by omega)) (gcap_27 r) hw).qv (fun S' e => by rw [e]; exact ⟨hP.rowS hr (Nat.min_le_right _ _), Frm.up (by omega)⟩)
theorem q_turn (l : Launch) (D : va_G) (cy : Nat → ClassId) (S : pS) (sz : Nat) {G T : Nat → Nat} {n : Nat} {ws : Nat → WV} {l1 l2 : va_E} {V : RV} (hP : Pic cy S G T n ws l1 l2 V) (r j : Nat) (hr : r < 16) (hj : j < 2 ^ 31) : Met l yX7_turn wsX7_turn ({ frames := 1, cells := 0, slots := 0, locals := 22 }) (pPc D cy S sz [.ref (G (21 + r)), .int (nI j)]) (pQv D cy S sz (fun S' => Pic cy S' G T n ws l1 l2 (V.1, va_up V.2 r (rturn (V.2 r) (V.1 r) j)) ∧ Frm G S S')) 0 0 (pA S sz) :=
  (c_X7_turn l D cy S sz (G (21 + r)) (G (37 + r)) (gcap r) (V.1 r) j (V.2 r) (hP.mem (by omega)) (hP.rh (by omega)) (hP.mem (by omega)) (hP.rb (by omega)) (gcap_27 r) (hP.rn hr) hj (hP.rg2 hr)).qv (fun S' e => by rw [e]; exact ⟨hP.rowB hr (rturn_le (hP.rg2 hr)), Frm.up (by omega)⟩)
theorem q_copy (l : Launch) (D : va_G) (cy : Nat → ClassId) (S : pS) (sz : Nat) {G T : Nat → Nat} {n : Nat} {ws : Nat → WV} {l1 l2 : va_E} {V : RV} (hP : Pic cy S G T n ws l1 l2 V) (r o : Nat) (hr : r < 15) (ho : o < 16) (hro : o ≠ r) : Met l yX7_copy wsX7_copy ({ frames := 2, cells := 0, slots := 0, locals := 42 }) (pPc D cy S sz [.ref (G (21 + r)), .ref (G (21 + o))]) (pQv D cy S sz (fun S' => Pic cy S' G T n ws l1 l2 (va_up V.1 r (min (V.1 o) (gcap r)), va_up V.2 r (rcop (V.2 r) (V.2 o) (V.1 o) (min (V.1 o) (gcap r)))) ∧ Frm G S S')) 0 0 (pA S sz) :=
  (c_X7_copy l D cy S sz (G (21 + r)) (G (37 + r)) (gcap r) (V.1 r) (G (21 + o)) (G (37 + o)) (gcap o) (V.1 o) (V.2 r) (V.2 o) (hP.mem (by omega)) (hP.rh (by omega)) (hP.mem (by omega)) (hP.rb (by omega)) (hP.mem (by omega)) (hP.rh (by omega)) (hP.mem (by omega)) (hP.rb (by omega)) (gcap_27 r) (hP.rn (by omega)) (gcap_27 o) (hP.rn ho) (hP.ne (by omega) (by omega) (by omega)) (hP.ne (by omega) (by omega) (by omega))).qv (fun S' e => by rw [e]; exact ⟨(hP.rowS hr (Nat.min_le_right _ _)).rowB (by omega) (rcop_le (hP.rg2 (by omega)) (hP.rg2 ho)), (Frm.up (by omega)).trans (Frm.up (by omega))⟩)
theorem q_turnWhere (l : Launch) (D : va_G) (cy : Nat → ClassId) (S : pS) (sz : Nat) {G T : Nat → Nat} {n : Nat} {ws : Nat → WV} {l1 l2 : va_E} {V : RV} (hP : Pic cy S G T n ws l1 l2 V) (r : Nat) (hr : r < 15) : Met l yX7_turnWhere wsX7_turnWhere ({ frames := 2, cells := 0, slots := 0, locals := 43 }) (pPc D cy S sz [.ref (G (21 + r)), .ref (G 36)]) (pQv D cy S sz (fun S' => Pic cy S' G T n ws l1 l2 (V.1, va_up V.2 r (rtw (V.2 r) (V.1 r) (V.2 15) (V.1 15) (V.1 r))) ∧ Frm G S S')) 0 0 (pA S sz) :=
  (c_X7_turnWhere l D cy S sz (G (21 + r)) (G (37 + r)) (gcap r) (V.1 r) (G (21 + 15)) (G (37 + 15)) (gcap 15) (V.1 15) (V.2 r) (V.2 15) (hP.mem (by omega)) (hP.rh (by omega)) (hP.mem (by omega)) (hP.rb (by omega)) (hP.mem (by omega)) (hP.rh (by omega)) (hP.mem (by omega)) (hP.rb (by omega)) (gcap_27 r) (hP.rn (by omega)) (hP.rg2 (by omega)) (gcap_27 15) (hP.rn (by omega)) (hP.rg2 (by omega)) (hP.ne (by omega) (by omega) (by omega))).qv (fun S' e => by rw [e]; exact ⟨hP.rowB (by omega) (rtw_le (hP.rg2 (by omega))), Frm.up (by omega)⟩)
theorem q_putNumber (l : Launch) (D : va_G) (cy : Nat → ClassId) (S : pS) (sz : Nat) {G T : Nat → Nat} {n : Nat} {ws : Nat → WV} {l1 l2 : va_E} {V : RV} (hP : Pic cy S G T n ws l1 l2 V) (r j v w : Nat) (hr : r < 15) (hj : j < 2 ^ 30) (hv : v < 2 ^ 31) (hw : w ≤ 31) : Met l yX7_putNumber wsX7_putNumber ({ frames := 1, cells := 0, slots := 0, locals := 22 }) (pPc D cy S sz [.ref (G (21 + r)), .int (nI j), .int (nI v), .int (nI w)]) (pQv D cy S sz (fun S' => Pic cy S' G T n ws l1 l2 (V.1, va_up V.2 r (rnum (V.2 r) (V.1 r) j v w w)) ∧ Frm G S S')) 0 0 (pA S sz) :=
  (c_X7_putNumber l D cy S sz (G (21 + r)) (G (37 + r)) (gcap r) (V.1 r) j v w (V.2 r) (hP.mem (by omega)) (hP.rh (by omega)) (hP.mem (by omega)) (hP.rb (by omega)) (gcap_27 r) (hP.rn (by omega)) hj hv hw).qv (fun S' e => by rw [e]; exact ⟨hP.rowB (by omega) (rnum_le (hP.rg2 (by omega))), Frm.up (by omega)⟩)
theorem q_harm (l : Launch) (D : va_G) (cy : Nat → ClassId) (S : pS) (sz : Nat) {G T : Nat → Nat} {n : Nat} {ws : Nat → WV} {l1 l2 : va_E} {V : RV} (hP : Pic cy S G T n ws l1 l2 V) (ln r k0 : Nat) (fa fb fc : Int32) (ya yb yc : Nat) (hln : ln < 53) (hl : S.2 (G ln) = .inr (5, [.int (nI k0), .int fa, .int fb, .int fc])) (hr : r < 15) (hk : k0 ≤ 3) (ha : ya < 2 ^ 30) (hbb : yb < 2 ^ 30) (hcc : yc < 2 ^ 30) (h2 : k0 = 2 → fa = nI ya ∧ fb = nI yb ∧ fc = nI yc) (h13 : k0 = 1 ∨ k0 = 3 → fa = nI ya ∧ fb = nI yb) : Met l yX5_harm wsX5_harm ({ frames := 3, cells := 0, slots := 0, locals := 67 }) (pPc D cy S sz [.ref (G ln), .ref (G (21 + r))]) (pQv D cy S sz (fun S' => Pic cy S' G T n ws l1 l2 (V.1, va_up V.2 r (rharm (V.2 r) (V.1 r) k0 ya yb yc)) ∧ Frm G S S')) 0 0 (pA S sz) :=
  (c_X5_harm l D cy S sz (G ln) k0 fa fb fc ya yb yc (G (21 + r)) (G (37 + r)) (gcap r) (V.1 r) (V.2 r) (hP.mem (by omega)) hl (hP.mem (by omega)) (hP.rh (by omega)) (hP.mem (by omega)) (hP.rb (by omega)) (gcap_27 r) (hP.rn (by omega)) (hP.rg2 (by omega)) hk ha hbb hcc h2 h13).qv (fun S' e => by rw [e]; exact ⟨hP.rowB (by omega) (rharm_le (hP.rg2 (by omega))), Frm.up (by omega)⟩)
theorem q_become1 (l : Launch) (D : va_G) (cy : Nat → ClassId) (S : pS) (sz : Nat) {G T : Nat → Nat} {n : Nat} {ws : Nat → WV} {l1 l2 : va_E} {V : RV} (hP : Pic cy S G T n ws l1 l2 V) (k : Nat) (fa fb fc : Int32) (k2 : Nat) (a2 b2 c2 : Int32) (hl : S.2 (G 3) = .inr (5, [.int (nI k), .int fa, .int fb, .int fc])) : Met l yX5_become wsX5_become ({ frames := 0, cells := 0, slots := 0, locals := 0 }) (pPc D cy S sz [.ref (G 3), .int (nI k2), .int a2, .int b2, .int c2]) (pQv D cy S sz (fun S' => Pic cy S' G T n ws (.inr (5, [.int (nI k2), .int a2, .int b2, .int c2])) l2 V ∧ Frm G S S')) 0 0 (pA S sz) :=
  (c_X5_become l D cy S sz (G 3) k fa fb fc k2 a2 b2 c2 (hP.mem (by omega)) hl).qv (fun S' e => by rw [e]; exact ⟨hP.line1, Frm.up (by omega)⟩)
theorem q_become2 (l : Launch) (D : va_G) (cy : Nat → ClassId) (S : pS) (sz : Nat) {G T : Nat → Nat} {n : Nat} {ws : Nat → WV} {l1 l2 : va_E} {V : RV} (hP : Pic cy S G T n ws l1 l2 V) (k : Nat) (fa fb fc : Int32) (k2 : Nat) (a2 b2 c2 : Int32) (hl : S.2 (G 4) = .inr (5, [.int (nI k), .int fa, .int fb, .int fc])) : Met l yX5_become wsX5_become ({ frames := 0, cells := 0, slots := 0, locals := 0 }) (pPc D cy S sz [.ref (G 4), .int (nI k2), .int a2, .int b2, .int c2]) (pQv D cy S sz (fun S' => Pic cy S' G T n ws l1 (.inr (5, [.int (nI k2), .int a2, .int b2, .int c2])) V ∧ Frm G S S')) 0 0 (pA S sz) :=
  (c_X5_become l D cy S sz (G 4) k fa fb fc k2 a2 b2 c2 (hP.mem (by omega)) hl).qv (fun S' e => by rw [e]; exact ⟨hP.line2, Frm.up (by omega)⟩)
