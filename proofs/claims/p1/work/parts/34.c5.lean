def okR (n : Int32) : Prop := 2 ≤ n.toInt ∧ n.toInt ≤ 5
def okK (d n : Int32) : Prop := 2 ≤ d.toInt ∧ d.toInt ≤ 511 ∧ 1 ≤ n.toInt ∧ n.toInt ≤ 32
def okV (r c : Int32) : Prop := 1 ≤ r.toInt ∧ r.toInt ≤ 10 ∧ 1 ≤ c.toInt ∧ c.toInt ≤ 10
def okF (x : Int32) (k : Nat) : Prop := 0 ≤ x.toInt ∧ x.toInt < 2 ^ k
theorem fitsB_F {x : Int32} {k : Nat} (hk : k ≤ 16) : (fitsB x k = true) = okF x k := fitsB_z hk
theorem fF_t {x : Int32} {k : Nat} (hk : k ≤ 16) (h : (if fitsB x k = true then 1 else 0) ≠ 0) : okF x k := by rw [← fitsB_F hk]; exact fb_t h
theorem fF_f {x : Int32} {k : Nat} (hk : k ≤ 16) (h : (if fitsB x k = true then 1 else 0) = 0) : ¬ okF x k := by rw [← fitsB_F hk]; exact fb_f h
def okB6 (k n a b c d : Int32) : Prop := (1 ≤ k.toInt ∧ k.toInt ≤ 4) ∧ (k.toInt ≤ n.toInt ∧ n.toInt ≤ 10) ∧ okF a n.toInt.toNat ∧ (2 ≤ k.toInt → okF b n.toInt.toNat) ∧ (3 ≤ k.toInt → okF c n.toInt.toNat) ∧ (4 ≤ k.toInt → okF d n.toInt.toNat)
def okT (m a b c : Int32) : Prop := (1 ≤ m.toInt ∧ m.toInt ≤ 4) ∧ (a.toInt ≠ 0 ∧ okF a (m.toInt.toNat + 1)) ∧ (b.toInt ≠ 0 ∧ okF b (m.toInt.toNat + 1)) ∧ okF c (m.toInt.toNat + 1)
theorem z_self {x : Int32} (h : 0 ≤ x.toInt) : x = nI x.toInt.toNat := by
  obtain ⟨j, hj, e, he⟩ := z_nat h
  rw [he, Int.toNat_natCast]; exact e
set_option maxHeartbeats 4000000 in
set_option maxRecDepth 100000 in
theorem e_X9_stepsFor0 (l : Launch) (D : va_G) (cy : Nat → ClassId) (S : pS) (sz : Nat) (st : Nat)   : Met l yX9_stepsFor (Cond.code yX9_stepsFor cX9_stepsFor 2 (some .int) :: lwU) ({ frames := 0, cells := 0, slots := 0, locals := 0 }) (pPc D cy S sz [.ref st, .int (nI 0)]) (pQi D cy S sz (fun r S' => r = (nI 0) ∧ S = S')) 0 0 (pA S sz) := by
  refine Met.ofW (cc := cX9_stepsFor) (maxL := 2) (ret := (some .int)) (by decide) rfl ?_
  intro p e s m args below meth c s₁ B hml hv
  obtain ⟨rfl, rfl, C, hw, hA, hr, hlocks⟩ := p_start B hml hv
  have hx := C.1
  have hb := C.2.1
  have hl := lv_entry ([.ref st, .int (nI 0)]) (n := 2) (Nat.le_of_ble_eq_true rfl)
  rw [lg_entry_eq]
  generalize (lg_sl ([.ref st, .int (nI 0)]) ++ List.replicate (2 - (lg_sl ([.ref st, .int (nI 0)])).length) Slot.unset).toArray = ls at hl ⊢
  have hl : lv_has ls 2 [(0, .ref st), (1, .int (nI 0))] := hl
  refine lv_iload_n hx hb dX9_stepsFor_0 rfl (lv_at hl 1 rfl) ?_
  refine n_if_gt (tgt := 8) hx hb (by first | decide | omega) dX9_stepsFor_1 (by decide) (fun h_1 => ?_) (fun h_1 => ?_)
  · exact absurd h_1 (by first | decide | omega)
  · skip
    refine lv_iconst (v := nI 0) hx hb dX9_stepsFor_4 (by decide) ?_
    refine lv_goto (tgt := 14) hx hb dX9_stepsFor_5 (by decide) ?_
    exact (p_iret C hw (⟨rfl, rfl⟩) hr hlocks dX9_stepsFor_14)

theorem hde_X11_send1_V_0 : yX11_last.cls = RX11 ∧ yX11_last.cls ≠ "java/lang/invoke/MethodHandle" ∧ yX11_last.cls ≠ "java/lang/invoke/VarHandle" ∧ (parseMethodDescriptor yX11_last.desc).map (fun d => d.parameters.length) = some 1 := by decide +kernel
theorem hde_X11_send1_V_1 : yX7_copy.cls = RX7 ∧ yX7_copy.cls ≠ "java/lang/invoke/MethodHandle" ∧ yX7_copy.cls ≠ "java/lang/invoke/VarHandle" ∧ (parseMethodDescriptor yX7_copy.desc).map (fun d => d.parameters.length) = some 1 := by decide +kernel
theorem hde_X11_send1_V_2 : yX5_harm.cls = RX5 ∧ yX5_harm.cls ≠ "java/lang/invoke/MethodHandle" ∧ yX5_harm.cls ≠ "java/lang/invoke/VarHandle" ∧ (parseMethodDescriptor yX5_harm.desc).map (fun d => d.parameters.length) = some 1 := by decide +kernel
theorem hde_X11_send1_V_3 : yX7_turnWhere.cls = RX7 ∧ yX7_turnWhere.cls ≠ "java/lang/invoke/MethodHandle" ∧ yX7_turnWhere.cls ≠ "java/lang/invoke/VarHandle" ∧ (parseMethodDescriptor yX7_turnWhere.desc).map (fun d => d.parameters.length) = some 1 := by decide +kernel
set_option maxHeartbeats 4000000 in
set_option maxRecDepth 100000 in
/-- send -/
theorem e_X11_send1 (l : Launch) (D : va_G) (cy : Nat → ClassId) (S : pS) (sz : Nat) (x : Nat) (h : Nat) (v : Nat) (ch : Nat) (ln : Nat) (sl : Nat) (mk : Nat) (co : Nat) (ca : Nat) (su : Nat) (lt : Nat) (lk : Nat) (mb : Nat) (col : Nat) (con : Nat) (vl : Nat) (vn : Nat) (cr : Nat) (cb : Nat) (vr : Nat) (vb : Nat) (cq : Nat → Option Nat) (vq : Nat → Option Nat) (mg : Nat → Nat) (cg : Nat → Nat) (vg : Nat → Nat) (an : Nat) (k0 : Nat) (fa : Int32) (fb : Int32) (fc : Int32) (ya : Nat) (yb : Nat) (yc : Nat) (hL_x : x ∈ S.1) (hf_x : S.2 x = .inr (11, [.ref ch, .ref ln, .ref sl, .ref mk, .ref co, .ref ca, .ref su, .ref lt])) (hL_ch : ch ∈ S.1) (hf_ch : S.2 ch = .inr (2, [.ref lk, .int (nI 1)])) (hL_mk : mk ∈ S.1) (hf_mk : S.2 mk = .inr (8, [.ref mb, .int (nI 320)])) (hL_mb : mb ∈ S.1) (hf_mb : S.2 mb = aN (cy 0) 320 mg) (hL_h : h ∈ S.1) (hf_h : S.2 h = .inr (6, [.int (nI k0), .int fa, .int fb, .int fc])) (hL_co : co ∈ S.1) (hf_co : S.2 co = .inr (5, [.ref col, .ref con])) (hL_col : col ∈ S.1) (hf_col : S.2 col = aQ (cy 2) 5 cq) (hL_v : v ∈ S.1) (hf_v : S.2 v = .inr (5, [.ref vl, .ref vn])) (hL_vl : vl ∈ S.1) (hf_vl : S.2 vl = aQ (cy 2) 5 vq) (hL_cr : cr ∈ S.1) (hf_cr : S.2 cr = .inr (8, [.ref cb, .int (nI 0)])) (hL_cb : cb ∈ S.1) (hf_cb : S.2 cb = aN (cy 0) 320 cg) (hL_vr : vr ∈ S.1) (hf_vr : S.2 vr = .inr (8, [.ref vb, .int (nI an)])) (hL_vb : vb ∈ S.1) (hf_vb : S.2 vb = aN (cy 0) 320 vg) (hne_cb_vb : cb ≠ vb) (hne_cr_vr : cr ≠ vr) (hne_mk_vr : mk ≠ vr) (hne_mb_vb : mb ≠ vb) (hcq : cq 1 = some cr) (hvq : vq 1 = some vr) (hmg : ∀ q, mg q ≤ 2) (hcg : ∀ q, cg q ≤ 2) (hvg : ∀ q, vg q ≤ 2) (han : an ≤ 320) (hk : k0 ≤ 3) (ha : ya < 2 ^ 30) (hbb : yb < 2 ^ 30) (hcc : yc < 2 ^ 30) (h2 : k0 = 2 → fa = nI ya ∧ fb = nI yb ∧ fc = nI yc) (h13 : k0 = 1 ∨ k0 = 3 → fa = nI ya ∧ fb = nI yb) : Met l yX11_send (Cond.code yX11_send cX11_send 4 none :: lwU) ({ frames := 4, cells := 0, slots := 0, locals := 88 }) (pPc D cy S sz [.ref x, .ref h, .ref v]) (pQv D cy S sz (fun S' => ∃ (wg : Nat → Nat), (∀ q, wg q ≤ 2) ∧ S'.1 = S.1 ++ [] ∧ (∀ a_, a_ ∈ S.1 → a_ ≠ vr → a_ ≠ vb → S'.2 a_ = S.2 a_) ∧ S'.2 vr = .inr (8, [.ref vb, .int (nI 0)]) ∧ S'.2 vb = aN (cy 0) 320 wg)) 0 0 (pA S sz) := by
  refine Met.ofW (cc := cX11_send) (maxL := 4) (ret := none) (by decide) rfl ?_
  intro p e s m args below meth c s₁ B hml hv
  obtain ⟨rfl, rfl, C, hw, hA, hr, hlocks⟩ := p_start B hml hv
  have hx := C.1
  have hb := C.2.1
  have hl := lv_entry ([.ref x, .ref h, .ref v]) (n := 4) (Nat.le_of_ble_eq_true rfl)
  rw [lg_entry_eq]
  generalize (lg_sl ([.ref x, .ref h, .ref v]) ++ List.replicate (4 - (lg_sl ([.ref x, .ref h, .ref v])).length) Slot.unset).toArray = ls at hl ⊢
  have hl : lv_has ls 4 [(0, .ref x), (1, .ref h), (2, .ref v)] := hl
  have hin_RX11 : ∀ w ∈ u_ws RX11 TX11 8, w ∈ (Cond.code yX11_send cX11_send 4 none :: lwU) := fun w h => mU (sub_RX11 w h)
  refine lv_aload_n hx hb dX11_send_0 rfl (lv_at hl 0 rfl) ?_
  refine lv_aload_n hx hb dX11_send_1 rfl (lv_at hl 2 rfl) ?_
  refine p_callq (va_runV (As := [.ref v]) (rest := []) C.fix (e_X11_last1 l D cy S s.heap.size x v ch ln sl mk co ca su lt lk vl vn vq vr hL_x hf_x hL_ch hf_ch hL_v hf_v hL_vl hf_vl (by first | assumption | rfl | simp [va_up])) (cwV 1 C.2.2.2.2.1 (gU_V mw_256 mw_257 mw_258 mw_2 (subU mw_259)) rfl rfl rfl hde_X11_send1_V_0 ⟨Nat.le_of_ble_eq_true rfl, Nat.le_of_ble_eq_true rfl⟩) (p_preV C hw hL_x hf_x rfl) rfl rfl hl.1 rfl (lv_room (Nat.le_of_ble_eq_true rfl)) dX11_send_2 ⟨Nat.le_of_ble_eq_true rfl, Nat.le_of_ble_eq_true rfl⟩) hw hA (fun r2 S1 H locs hpost hw => ?_)
  obtain ⟨hr_, hS_⟩ := hpost
  subst hr_
  subst hS_
  refine lv_astore_n (lv' := [(3, .ref vr), (0, .ref x), (1, .ref h), (2, .ref v)]) hx hb dX11_send_5 rfl hl (by decide) rfl (fun ls hl => ?_)
  refine lv_aload_n hx hb dX11_send_6 rfl (lv_at hl 0 rfl) ?_
  refine lv_aload_n hx hb dX11_send_7 rfl (lv_at hl 1 rfl) ?_
  refine lv_aload_n hx hb dX11_send_8 rfl (lv_at hl 1 rfl) ?_
  refine p_get C hw (ci := 11) (Cn := RX11) (T := TX11) (N := 8) hL_x hf_x rfl hin_RX11 4 (by decide) (mU mw_30) rfl rfl dX11_send_9 ?_
  refine p_callq (va_runV (As := [.ref co]) (rest := [.ref vr]) C.fix (e_X11_last1 l D cy S H.size x co ch ln sl mk co ca su lt lk col con cq cr hL_x hf_x hL_ch hf_ch hL_co hf_co hL_col hf_col (by first | assumption | rfl | simp [va_up])) (cwV 1 C.2.2.2.2.1 (gU_V mw_256 mw_257 mw_258 mw_2 (subU mw_259)) rfl rfl rfl hde_X11_send1_V_0 ⟨Nat.le_of_ble_eq_true rfl, Nat.le_of_ble_eq_true rfl⟩) (p_preV C hw hL_x hf_x rfl) rfl rfl hl.1 rfl (lv_room (Nat.le_of_ble_eq_true rfl)) dX11_send_12 ⟨Nat.le_of_ble_eq_true rfl, Nat.le_of_ble_eq_true rfl⟩) hw hA (fun r4 S3 H locs hpost hw => ?_)
  obtain ⟨hr_, hS_⟩ := hpost
  subst hr_
  subst hS_
  refine p_callv (va_runV (As := [.ref cr]) (rest := []) C.fix (c_X7_copy l D cy S H.size vr vb 320 an cr cb 320 0 vg cg hL_vr hf_vr hL_vb hf_vb hL_cr hf_cr hL_cb hf_cb (by first | assumption | decide | omega) (by first | assumption | decide | omega) (by first | assumption | decide | omega) (by first | assumption | decide | omega) hne_cb_vb hne_cr_vr) (cwV 1 C.2.2.2.2.1 (gU_V mw_264 mw_265 mw_266 mw_25 sub_X7_copy) rfl rfl rfl hde_X11_send1_V_1 ⟨Nat.le_of_ble_eq_true rfl, Nat.le_of_ble_eq_true rfl⟩) (p_preV C hw hL_vr hf_vr rfl) rfl rfl hl.1 rfl (lv_room (Nat.le_of_ble_eq_true rfl)) dX11_send_15 ⟨Nat.le_of_ble_eq_true rfl, Nat.le_of_ble_eq_true rfl⟩) hw hA (fun S5 H locs hpost hw => ?_)
  have hS_ := hpost
  try rw [show min 0 320 = 0 from rfl] at hS_
  obtain ⟨S7, hS7⟩ : ∃ z, z = pup S vr (.inr (8, [.ref vb, .int (nI 0)])) := ⟨_, rfl⟩
  rw [← hS7] at hS_
  have hL8 : vr ∈ S7.1 := by rw [hS7]; exact hL_vr
  have hf9 : S7.2 vr = .inr (8, [.ref vb, .int (nI 0)]) := by rw [hS7]; exact pup_s
  try rw [show min 0 320 = 0 from rfl] at hS_
  have hL10 : vb ∈ S7.1 := by rw [hS7]; exact hL_vb
  have hf11 : S7.2 vb = aN (cy 0) 320 vg := by rw [hS7]; exact (pup_n (ne_cells hf_vb hf_vr (by nofun))).trans hf_vb
  have hS12 := hS_
  have hL13 : vb ∈ S5.1 := by rw [hS12]; exact hL10
  have hf14 : S5.2 vb = aN (cy 0) 320 (rcop vg cg 0 0) := by rw [hS12]; exact pup_s
  refine lv_aload_n hx hb dX11_send_18 rfl (lv_at hl 2 rfl) ?_
  refine lv_aload_n hx hb dX11_send_19 rfl (lv_at hl 0 rfl) ?_
  have hL15 : h ∈ S7.1 := by rw [hS7]; exact hL_h
  have hf16 : S7.2 h = .inr (6, [.int (nI k0), .int fa, .int fb, .int fc]) := by rw [hS7]; exact (pup_n (ne_cells hf_h hf_vr (by nofun))).trans hf_h
  have hL17 : h ∈ S5.1 := by rw [hS12]; exact hL15
  have hf18 : S5.2 h = .inr (6, [.int (nI k0), .int fa, .int fb, .int fc]) := by rw [hS12]; exact (pup_n (ne_cells hf16 hf11 (by nofun))).trans hf16
  have hL19 : vr ∈ S5.1 := by rw [hS12]; exact hL8
  have hf20 : S5.2 vr = .inr (8, [.ref vb, .int (nI 0)]) := by rw [hS12]; exact (pup_n (ne_cells hf9 hf11 (by nofun))).trans hf9
  refine p_callv (va_runV (As := [.ref vr]) (rest := []) C.fix (c_X5_harm l D cy S5 H.size h k0 fa fb fc ya yb yc vr vb 320 0 (rcop vg cg 0 0) hL17 hf18 hL19 hf20 hL13 hf14 (by first | assumption | decide | omega) (by first | assumption | decide | omega) (by first | assumption | exact (fun _ => Nat.zero_le 2) | exact rnum_le (fun _ => Nat.zero_le 2) | exact rcop_le (by first | assumption | exact (fun _ => Nat.zero_le 2)) (by first | assumption | exact (fun _ => Nat.zero_le 2)) | exact rharm_le (rcop_le (by first | assumption | exact (fun _ => Nat.zero_le 2)) (by first | assumption | exact (fun _ => Nat.zero_le 2))) | exact rturn_le (fun _ => Nat.zero_le 2)) (by first | assumption | decide | omega) (by first | assumption | decide | omega) (by first | assumption | decide | omega) (by first | assumption | decide | omega) (by first | assumption | (intro h; exact absurd h (by decide)) | (intro h; exact absurd h (by omega))) (by first | assumption | (intro h; exact absurd h (by decide)) | (intro h; exact absurd h (by omega)))) (cwV 1 C.2.2.2.2.1 (gU_V mw_270 mw_271 mw_272 mw_20 sub_X5_harm) rfl rfl rfl hde_X11_send1_V_2 ⟨Nat.le_of_ble_eq_true rfl, Nat.le_of_ble_eq_true rfl⟩) (p_preV C hw hL17 hf18 rfl) rfl rfl hl.1 rfl (lv_room (Nat.le_of_ble_eq_true rfl)) dX11_send_20 ⟨Nat.le_of_ble_eq_true rfl, Nat.le_of_ble_eq_true rfl⟩) hw hA (fun S21 H locs hpost hw => ?_)
  have hS_ := hpost
  have hS23 := hS_
  have hL24 : vb ∈ S21.1 := by rw [hS23]; exact hL13
  have hf25 : S21.2 vb = aN (cy 0) 320 (rharm (rcop vg cg 0 0) 0 k0 ya yb yc) := by rw [hS23]; exact pup_s
  refine lv_aload_n hx hb dX11_send_23 rfl (lv_at hl 0 rfl) ?_
  refine lv_aload_n hx hb dX11_send_24 rfl (lv_at hl 1 rfl) ?_
  have hL26 : x ∈ S7.1 := by rw [hS7]; exact hL_x
  have hf27 : S7.2 x = .inr (11, [.ref ch, .ref ln, .ref sl, .ref mk, .ref co, .ref ca, .ref su, .ref lt]) := by rw [hS7]; exact (pup_n (ne_cells hf_x hf_vr (by nofun))).trans hf_x
  have hL28 : x ∈ S5.1 := by rw [hS12]; exact hL26
  have hf29 : S5.2 x = .inr (11, [.ref ch, .ref ln, .ref sl, .ref mk, .ref co, .ref ca, .ref su, .ref lt]) := by rw [hS12]; exact (pup_n (ne_cells hf27 hf11 (by nofun))).trans hf27
  have hL30 : x ∈ S21.1 := by rw [hS23]; exact hL28
  have hf31 : S21.2 x = .inr (11, [.ref ch, .ref ln, .ref sl, .ref mk, .ref co, .ref ca, .ref su, .ref lt]) := by rw [hS23]; exact (pup_n (ne_cells hf29 hf14 (by nofun))).trans hf29
  refine p_get C hw (ci := 11) (Cn := RX11) (T := TX11) (N := 8) hL30 hf31 rfl hin_RX11 3 (by decide) (mU mw_26) rfl rfl dX11_send_25 ?_
  have hL32 : vr ∈ S21.1 := by rw [hS23]; exact hL19
  have hf33 : S21.2 vr = .inr (8, [.ref vb, .int (nI 0)]) := by rw [hS23]; exact (pup_n (ne_cells hf20 hf14 (by nofun))).trans hf20
  have hL34 : mk ∈ S7.1 := by rw [hS7]; exact hL_mk
  have hf35 : S7.2 mk = .inr (8, [.ref mb, .int (nI 320)]) := by rw [hS7]; exact (pup_n hne_mk_vr).trans hf_mk
  have hL36 : mk ∈ S5.1 := by rw [hS12]; exact hL34
  have hf37 : S5.2 mk = .inr (8, [.ref mb, .int (nI 320)]) := by rw [hS12]; exact (pup_n (ne_cells hf35 hf11 (by nofun))).trans hf35
  have hL38 : mk ∈ S21.1 := by rw [hS23]; exact hL36
  have hf39 : S21.2 mk = .inr (8, [.ref mb, .int (nI 320)]) := by rw [hS23]; exact (pup_n (ne_cells hf37 hf14 (by nofun))).trans hf37
  have hL40 : mb ∈ S7.1 := by rw [hS7]; exact hL_mb
  have hf41 : S7.2 mb = aN (cy 0) 320 mg := by rw [hS7]; exact (pup_n (ne_cells hf_mb hf_vr (by nofun))).trans hf_mb
  have hL42 : mb ∈ S5.1 := by rw [hS12]; exact hL40
  have hf43 : S5.2 mb = aN (cy 0) 320 mg := by rw [hS12]; exact (pup_n hne_mb_vb).trans hf41
  have hL44 : mb ∈ S21.1 := by rw [hS23]; exact hL42
  have hf45 : S21.2 mb = aN (cy 0) 320 mg := by rw [hS23]; exact (pup_n hne_mb_vb).trans hf43
  refine p_callv (va_runV (As := [.ref mk]) (rest := []) C.fix (c_X7_turnWhere l D cy S21 H.size vr vb 320 0 mk mb 320 320 (rharm (rcop vg cg 0 0) 0 k0 ya yb yc) mg hL32 hf33 hL24 hf25 hL38 hf39 hL44 hf45 (by first | assumption | decide | omega) (by first | assumption | decide | omega) (by first | assumption | exact (fun _ => Nat.zero_le 2) | exact rnum_le (fun _ => Nat.zero_le 2) | exact rcop_le (by first | assumption | exact (fun _ => Nat.zero_le 2)) (by first | assumption | exact (fun _ => Nat.zero_le 2)) | exact rharm_le (rcop_le (by first | assumption | exact (fun _ => Nat.zero_le 2)) (by first | assumption | exact (fun _ => Nat.zero_le 2))) | exact rturn_le (fun _ => Nat.zero_le 2)) (by first | assumption | decide | omega) (by first | assumption | decide | omega) (by first | assumption | exact (fun _ => Nat.zero_le 2) | exact rnum_le (fun _ => Nat.zero_le 2) | exact rcop_le (by first | assumption | exact (fun _ => Nat.zero_le 2)) (by first | assumption | exact (fun _ => Nat.zero_le 2)) | exact rharm_le (rcop_le (by first | assumption | exact (fun _ => Nat.zero_le 2)) (by first | assumption | exact (fun _ => Nat.zero_le 2))) | exact rturn_le (fun _ => Nat.zero_le 2)) hne_mb_vb) (cwV 1 C.2.2.2.2.1 (gU_V mw_294 mw_295 mw_296 mw_25 sub_X7_turnWhere) rfl rfl rfl hde_X11_send1_V_3 ⟨Nat.le_of_ble_eq_true rfl, Nat.le_of_ble_eq_true rfl⟩) (p_preV C hw hL32 hf33 rfl) rfl rfl hl.1 rfl (lv_room (Nat.le_of_ble_eq_true rfl)) dX11_send_28 ⟨Nat.le_of_ble_eq_true rfl, Nat.le_of_ble_eq_true rfl⟩) hw hA (fun S46 H locs hpost hw => ?_)
  have hS_ := hpost
  have hS48 := hS_
  have hL49 : vb ∈ S46.1 := by rw [hS48]; exact hL24
  have hf50 : S46.2 vb = aN (cy 0) 320 (rtw (rharm (rcop vg cg 0 0) 0 k0 ya yb yc) 0 mg 320 0) := by rw [hS48]; exact pup_s
  have hL51 : vr ∈ S46.1 := by rw [hS48]; exact hL32
  have hf52 : S46.2 vr = .inr (8, [.ref vb, .int (nI 0)]) := by rw [hS48]; exact (pup_n (ne_cells hf33 hf25 (by nofun))).trans hf33
  exact (p_vret C hw (⟨rtw (rharm (rcop vg cg 0 (0)) (0) k0 ya yb yc) (0) mg 320 (0), (rtw_le (rharm_le (rcop_le hvg hcg))), (by simp only [hS48, hS23, hS12, hS7, pup, pnew, List.append_nil, List.append_assoc, List.cons_append, List.nil_append]), (fun a_ ha_ hn_0 hn_1 => ((show S46.2 a_ = S21.2 a_ from by rw [hS48]; exact pup_n hn_1).trans ((show S21.2 a_ = S5.2 a_ from by rw [hS23]; exact pup_n hn_1).trans ((show S5.2 a_ = S7.2 a_ from by rw [hS12]; exact pup_n hn_1).trans (show S7.2 a_ = S.2 a_ from by rw [hS7]; exact pup_n hn_0))))), hf52, hf50⟩) hr hlocks dX11_send_31)

set_option maxHeartbeats 4000000 in
set_option maxRecDepth 100000 in
theorem e_X6_sizeOf0 (l : Launch) (D : va_G) (cy : Nat → ClassId) (S : pS) (sz : Nat) (st : Nat) (sa : Nat) (hL_st : st ∈ S.1) (hf_st : S.2 st = .inr (7, [.int (nI sa)]))  : Met l yX6_sizeOf (Cond.code yX6_sizeOf cX6_sizeOf 2 (some .int) :: lwU) ({ frames := 0, cells := 0, slots := 0, locals := 0 }) (pPc D cy S sz [.ref st, .int (nI 0)]) (pQi D cy S sz (fun r S' => r = (nI 0) ∧ S = S')) 0 0 (pA S sz) := by
  refine Met.ofW (cc := cX6_sizeOf) (maxL := 2) (ret := (some .int)) (by decide) rfl ?_
  intro p e s m args below meth c s₁ B hml hv
  obtain ⟨rfl, rfl, C, hw, hA, hr, hlocks⟩ := p_start B hml hv
  have hx := C.1
  have hb := C.2.1
  have hl := lv_entry ([.ref st, .int (nI 0)]) (n := 2) (Nat.le_of_ble_eq_true rfl)
  rw [lg_entry_eq]
  generalize (lg_sl ([.ref st, .int (nI 0)]) ++ List.replicate (2 - (lg_sl ([.ref st, .int (nI 0)])).length) Slot.unset).toArray = ls at hl ⊢
  have hl : lv_has ls 2 [(0, .ref st), (1, .int (nI 0))] := hl
  have hin_RX6 : ∀ w ∈ u_ws RX6 TX6 1, w ∈ (Cond.code yX6_sizeOf cX6_sizeOf 2 (some .int) :: lwU) := fun w h => mU (sub_RX6 w h)
  refine lv_iload_n hx hb dX6_sizeOf_0 rfl (lv_at hl 1 rfl) ?_
  refine lv_aload_n hx hb dX6_sizeOf_1 rfl (lv_at hl 0 rfl) ?_
  refine p_get C hw (ci := 7) (Cn := RX6) (T := TX6) (N := 1) hL_st hf_st rfl hin_RX6 0 (by decide) (mU mw_162) rfl rfl dX6_sizeOf_2 ?_
  refine n_imul hx hb dX6_sizeOf_5 ?_
  refine n_ren (b := 0) (by first | rfl | omega | simp) ?_
  exact (p_iret C hw (⟨rfl, rfl⟩) hr hlocks dX6_sizeOf_6)

theorem hde_X6_code0_V_0 : yX7_size.cls = RX7 ∧ yX7_size.cls ≠ "java/lang/invoke/MethodHandle" ∧ yX7_size.cls ≠ "java/lang/invoke/VarHandle" ∧ (parseMethodDescriptor yX7_size.desc).map (fun d => d.parameters.length) = some 0 := by decide +kernel
set_option maxHeartbeats 4000000 in
set_option maxRecDepth 100000 in
theorem e_X6_code0 (l : Launch) (D : va_G) (cy : Nat → ClassId) (S : pS) (sz : Nat) (st : Nat) (f : Nat) (o : Nat) (fb : Nat) (hL_f : f ∈ S.1) (hf_f : S.2 f = .inr (8, [.ref fb, .int (nI 0)]))  : Met l yX6_code (Cond.code yX6_code cX6_code 6 none :: lwU) ({ frames := 1, cells := 0, slots := 0, locals := 20 }) (pPc D cy S sz [.ref st, .ref f, .ref o]) (pQv D cy S sz (fun S' => S = S')) 0 0 (pA S sz) := by
  refine Met.ofW (cc := cX6_code) (maxL := 6) (ret := none) (by decide) rfl ?_
  intro p e s m args below meth c s₁ B hml hv
  obtain ⟨rfl, rfl, C, hw, hA, hr, hlocks⟩ := p_start B hml hv
  have hx := C.1
  have hb := C.2.1
  have hl := lv_entry ([.ref st, .ref f, .ref o]) (n := 6) (Nat.le_of_ble_eq_true rfl)
  rw [lg_entry_eq]
  generalize (lg_sl ([.ref st, .ref f, .ref o]) ++ List.replicate (6 - (lg_sl ([.ref st, .ref f, .ref o])).length) Slot.unset).toArray = ls at hl ⊢
  have hl : lv_has ls 6 [(0, .ref st), (1, .ref f), (2, .ref o)] := hl
  refine lv_iconst (v := nI 0) hx hb dX6_code_0 (by decide) ?_
  refine lv_istore_n (lv' := [(3, .int (nI 0)), (0, .ref st), (1, .ref f), (2, .ref o)]) hx hb dX6_code_1 rfl hl (by decide) rfl (fun ls hl => ?_)
  refine lv_iload_n hx hb dX6_code_2 rfl (lv_at hl 0 rfl) ?_
  refine lv_aload_n hx hb dX6_code_3 rfl (lv_at hl 2 rfl) ?_
  refine p_calli (va_runV (As := []) (rest := [.int (nI 0)]) C.fix (c_X7_size l D cy S s.heap.size f fb 0 hL_f hf_f) (cwV 0 C.2.2.2.2.1 (gU_V mw_232 mw_131 mw_132 mw_25 sub_X7_size) rfl rfl rfl hde_X6_code0_V_0 ⟨Nat.le_of_ble_eq_true rfl, Nat.le_of_ble_eq_true rfl⟩) (p_preV C hw hL_f hf_f rfl) rfl rfl hl.1 rfl (lv_room (Nat.le_of_ble_eq_true rfl)) dX6_code_4 ⟨Nat.le_of_ble_eq_true rfl, Nat.le_of_ble_eq_true rfl⟩) hw hA (fun r2 S1 H locs hpost hw => ?_)
  obtain ⟨hr_, hS_⟩ := hpost
  subst hr_
  subst hS_
  refine n_icmp_ge (tgt := 57) hx hb (by first | decide | omega) (by first | decide | omega) dX6_code_7 (by decide) (fun h_7 => ?_) (fun h_7 => ?_)
  · skip
    exact (p_vret C hw (rfl) hr hlocks dX6_code_57)
  · exact absurd h_7 (by first | decide | omega)

theorem hde_X6_decode0_V_0 : yX7_size.cls = RX7 ∧ yX7_size.cls ≠ "java/lang/invoke/MethodHandle" ∧ yX7_size.cls ≠ "java/lang/invoke/VarHandle" ∧ (parseMethodDescriptor yX7_size.desc).map (fun d => d.parameters.length) = some 0 := by decide +kernel
set_option maxHeartbeats 4000000 in
set_option maxRecDepth 100000 in
theorem e_X6_decode0 (l : Launch) (D : va_G) (cy : Nat → ClassId) (S : pS) (sz : Nat) (st : Nat) (f : Nat) (o : Nat) (obb : Nat) (hL_o : o ∈ S.1) (hf_o : S.2 o = .inr (8, [.ref obb, .int (nI 0)]))  : Met l yX6_decode (Cond.code yX6_decode cX6_decode 6 none :: lwU) ({ frames := 1, cells := 0, slots := 0, locals := 20 }) (pPc D cy S sz [.ref st, .ref f, .ref o]) (pQv D cy S sz (fun S' => S = S')) 0 0 (pA S sz) := by
  refine Met.ofW (cc := cX6_decode) (maxL := 6) (ret := none) (by decide) rfl ?_
  intro p e s m args below meth c s₁ B hml hv
  obtain ⟨rfl, rfl, C, hw, hA, hr, hlocks⟩ := p_start B hml hv
  have hx := C.1
  have hb := C.2.1
  have hl := lv_entry ([.ref st, .ref f, .ref o]) (n := 6) (Nat.le_of_ble_eq_true rfl)
  rw [lg_entry_eq]
  generalize (lg_sl ([.ref st, .ref f, .ref o]) ++ List.replicate (6 - (lg_sl ([.ref st, .ref f, .ref o])).length) Slot.unset).toArray = ls at hl ⊢
  have hl : lv_has ls 6 [(0, .ref st), (1, .ref f), (2, .ref o)] := hl
  refine lv_iconst (v := nI 0) hx hb dX6_decode_0 (by decide) ?_
  refine lv_istore_n (lv' := [(3, .int (nI 0)), (0, .ref st), (1, .ref f), (2, .ref o)]) hx hb dX6_decode_1 rfl hl (by decide) rfl (fun ls hl => ?_)
  refine lv_iload_n hx hb dX6_decode_2 rfl (lv_at hl 0 rfl) ?_
  refine lv_aload_n hx hb dX6_decode_3 rfl (lv_at hl 3 rfl) ?_
  refine p_calli (va_runV (As := []) (rest := [.int (nI 0)]) C.fix (c_X7_size l D cy S s.heap.size o obb 0 hL_o hf_o) (cwV 0 C.2.2.2.2.1 (gU_V mw_232 mw_131 mw_132 mw_25 sub_X7_size) rfl rfl rfl hde_X6_decode0_V_0 ⟨Nat.le_of_ble_eq_true rfl, Nat.le_of_ble_eq_true rfl⟩) (p_preV C hw hL_o hf_o rfl) rfl rfl hl.1 rfl (lv_room (Nat.le_of_ble_eq_true rfl)) dX6_decode_4 ⟨Nat.le_of_ble_eq_true rfl, Nat.le_of_ble_eq_true rfl⟩) hw hA (fun r2 S1 H locs hpost hw => ?_)
  obtain ⟨hr_, hS_⟩ := hpost
  subst hr_
  subst hS_
  refine n_icmp_ge (tgt := 85) hx hb (by first | decide | omega) (by first | decide | omega) dX6_decode_7 (by decide) (fun h_7 => ?_) (fun h_7 => ?_)
  · skip
    exact (p_vret C hw (rfl) hr hlocks dX6_decode_85)
  · exact absurd h_7 (by first | decide | omega)

theorem hde_X1_code1rep_V_0 : yX1_stageAt.cls = RX1 ∧ yX1_stageAt.cls ≠ "java/lang/invoke/MethodHandle" ∧ yX1_stageAt.cls ≠ "java/lang/invoke/VarHandle" ∧ (parseMethodDescriptor yX1_stageAt.desc).map (fun d => d.parameters.length) = some 1 := by decide +kernel
theorem hde_X1_code1rep_V_1 : yX4_at.cls = RX4 ∧ yX4_at.cls ≠ "java/lang/invoke/MethodHandle" ∧ yX4_at.cls ≠ "java/lang/invoke/VarHandle" ∧ (parseMethodDescriptor yX4_at.desc).map (fun d => d.parameters.length) = some 1 := by decide +kernel
theorem hde_X1_code1rep_V_2 : yX7_size.cls = RX7 ∧ yX7_size.cls ≠ "java/lang/invoke/MethodHandle" ∧ yX7_size.cls ≠ "java/lang/invoke/VarHandle" ∧ (parseMethodDescriptor yX7_size.desc).map (fun d => d.parameters.length) = some 0 := by decide +kernel
theorem hdue_X1_code1rep_3 : "SoundingLine$Stage" ≠ "java/lang/invoke/MethodHandle" ∧ "SoundingLine$Stage" ≠ "java/lang/invoke/VarHandle" ∧ (parseMethodDescriptor "(I)I").map (fun d => d.parameters.length) = some 1 := by decide +kernel
theorem hde_X1_code1rep_V_4 : yX7_resize.cls = RX7 ∧ yX7_resize.cls ≠ "java/lang/invoke/MethodHandle" ∧ yX7_resize.cls ≠ "java/lang/invoke/VarHandle" ∧ (parseMethodDescriptor yX7_resize.desc).map (fun d => d.parameters.length) = some 1 := by decide +kernel
theorem hdue_X1_code1rep_5 : "SoundingLine$Stage" ≠ "java/lang/invoke/MethodHandle" ∧ "SoundingLine$Stage" ≠ "java/lang/invoke/VarHandle" ∧ (parseMethodDescriptor "(LSoundingLine$Row;LSoundingLine$Row;)V").map (fun d => d.parameters.length) = some 2 := by decide +kernel
set_option maxHeartbeats 4000000 in
set_option maxRecDepth 100000 in
theorem e_X1_code1rep (l : Launch) (D : va_G) (cy : Nat → ClassId) (S : pS) (sz : Nat) (ch : Nat) (co : Nat) (lk : Nat) (st : Nat) (col : Nat) (con : Nat) (c0 : Nat) (c0b : Nat) (c1 : Nat) (c1b : Nat) (lq : Nat → Option Nat) (cq : Nat → Option Nat) (n1 : Nat) (g1 : Nat → Nat) (sa : Nat) (hL_ch : ch ∈ S.1) (hf_ch : S.2 ch = .inr (2, [.ref lk, .int (nI 1)])) (hL_lk : lk ∈ S.1) (hf_lk : S.2 lk = aQ (cy 3) 4 lq) (hL_st : st ∈ S.1) (hf_st : S.2 st = .inr (7, [.int (nI sa)])) (hL_co : co ∈ S.1) (hf_co : S.2 co = .inr (5, [.ref col, .ref con])) (hL_col : col ∈ S.1) (hf_col : S.2 col = aQ (cy 2) 5 cq) (hL_c0 : c0 ∈ S.1) (hf_c0 : S.2 c0 = .inr (8, [.ref c0b, .int (nI 0)])) (hL_c1 : c1 ∈ S.1) (hf_c1 : S.2 c1 = .inr (8, [.ref c1b, .int (nI n1)])) (hL_c1b : c1b ∈ S.1) (hf_c1b : S.2 c1b = aN (cy 0) 320 g1) (hne_c0_c1 : c0 ≠ c1) (hlq : lq 0 = some st) (hcq : cq 0 = some c0) (hcq1 : cq 1 = some c1) : Met l yX1_code (Cond.code yX1_code cX1_code 6 none :: lwU) ({ frames := 2, cells := 0, slots := 0, locals := 45 }) (pPc D cy S sz [.ref ch, .ref co]) (pQv D cy S sz (fun S' => S'.1 = S.1 ++ [] ∧ (∀ a_, a_ ∈ S.1 → a_ ≠ c1 → S'.2 a_ = S.2 a_) ∧ S'.2 c1 = .inr (8, [.ref c1b, .int (nI 0)]))) 0 0 (pA S sz) := by
  refine Met.ofW (cc := cX1_code) (maxL := 6) (ret := none) (by decide) rfl ?_
  intro p e s m args below meth c s₁ B hml hv
  obtain ⟨rfl, rfl, C, hw, hA, hr, hlocks⟩ := p_start B hml hv
  have hx := C.1
  have hb := C.2.1
  have hl := lv_entry ([.ref ch, .ref co]) (n := 6) (Nat.le_of_ble_eq_true rfl)
  rw [lg_entry_eq]
  generalize (lg_sl ([.ref ch, .ref co]) ++ List.replicate (6 - (lg_sl ([.ref ch, .ref co])).length) Slot.unset).toArray = ls at hl ⊢
  have hl : lv_has ls 6 [(0, .ref ch), (1, .ref co)] := hl
  have hin_RX1 : ∀ w ∈ u_ws RX1 TX1 2, w ∈ (Cond.code yX1_code cX1_code 6 none :: lwU) := fun w h => mU (sub_RX1 w h)
  refine lv_iconst (v := nI 0) hx hb dX1_code_0 (by decide) ?_
  refine lv_istore_n (lv' := [(2, .int (nI 0)), (0, .ref ch), (1, .ref co)]) hx hb dX1_code_1 rfl hl (by decide) rfl (fun ls hl => ?_)
  refine lv_iload_n hx hb dX1_code_2 rfl (lv_at hl 0 rfl) ?_
  refine lv_aload_n hx hb dX1_code_3 rfl (lv_at hl 1 rfl) ?_
  refine p_get C hw (ci := 2) (Cn := RX1) (T := TX1) (N := 2) hL_ch hf_ch rfl hin_RX1 1 (by decide) (mU mw_42) rfl rfl dX1_code_4 ?_
  refine n_icmp_ge (tgt := 64) hx hb (by first | decide | omega) (by first | decide | omega) dX1_code_7 (by decide) (fun h_7 => ?_) (fun h_7 => ?_)
  · exact absurd h_7 (by first | decide | omega)
  · skip
    refine lv_aload_n hx hb dX1_code_10 rfl (lv_at hl 1 rfl) ?_
    refine lv_iload_n hx hb dX1_code_11 rfl (lv_at hl 0 rfl) ?_
    refine p_callq (va_runV (As := [.int (nI 0)]) (rest := []) C.fix (e_X1_stageAt1 l D cy S s.heap.size ch lk lq st hL_ch hf_ch hL_lk hf_lk (by first | assumption | rfl | simp [va_up])) (cwV 1 C.2.2.2.2.1 (gU_V mw_138 mw_139 mw_140 mw_16 (subU mw_141)) rfl rfl rfl hde_X1_code1rep_V_0 ⟨Nat.le_of_ble_eq_true rfl, Nat.le_of_ble_eq_true rfl⟩) (p_preV C hw hL_ch hf_ch rfl) rfl rfl hl.1 rfl (lv_room (Nat.le_of_ble_eq_true rfl)) dX1_code_12 ⟨Nat.le_of_ble_eq_true rfl, Nat.le_of_ble_eq_true rfl⟩) hw hA (fun r2 S1 H locs hpost hw => ?_)
    obtain ⟨hr_, hS_⟩ := hpost
    subst hr_
    subst hS_
    refine lv_astore_n (lv' := [(3, .ref st), (2, .int (nI 0)), (0, .ref ch), (1, .ref co)]) hx hb dX1_code_15 rfl hl (by decide) rfl (fun ls hl => ?_)
    refine lv_aload_n hx hb dX1_code_16 rfl (lv_at hl 0 rfl) ?_
    refine lv_ifnull hx hb dX1_code_17 ?_
    refine lv_aload_n hx hb dX1_code_20 rfl (lv_at hl 3 rfl) ?_
    refine lv_iload_n hx hb dX1_code_21 rfl (lv_at hl 1 rfl) ?_
    refine p_callq (va_runV (As := [.int (nI 0)]) (rest := []) C.fix (c_X4_at l D cy S H.size co col con 0 c0 cq hL_co hf_co hL_col hf_col (by first | assumption | decide | omega) (by first | assumption | rfl | simp [va_up])) (cwV 1 C.2.2.2.2.1 (gU_V mw_195 mw_127 mw_128 mw_29 sub_X4_at) rfl rfl rfl hde_X1_code1rep_V_1 ⟨Nat.le_of_ble_eq_true rfl, Nat.le_of_ble_eq_true rfl⟩) (p_preV C hw hL_co hf_co rfl) rfl rfl hl.1 rfl (lv_room (Nat.le_of_ble_eq_true rfl)) dX1_code_22 ⟨Nat.le_of_ble_eq_true rfl, Nat.le_of_ble_eq_true rfl⟩) hw hA (fun r4 S3 H locs hpost hw => ?_)
    obtain ⟨hr_, hS_⟩ := hpost
    subst hr_
    subst hS_
    refine lv_astore (lv' := [(4, .ref c0), (3, .ref st), (2, .int (nI 0)), (0, .ref ch), (1, .ref co)]) hx hb dX1_code_25 hl (by decide) rfl (fun ls hl => ?_)
    refine lv_aload_n hx hb dX1_code_27 rfl (lv_at hl 4 rfl) ?_
    refine lv_iload_n hx hb dX1_code_28 rfl (lv_at hl 2 rfl) ?_
    refine lv_iconst (v := nI 1) hx hb dX1_code_29 (by decide) ?_
    refine n_iadd hx hb dX1_code_30 ?_
    refine n_ren (b := 1) (by first | rfl | omega | simp) ?_
    refine p_callq (va_runV (As := [.int (nI 1)]) (rest := []) C.fix (c_X4_at l D cy S H.size co col con 1 c1 cq hL_co hf_co hL_col hf_col (by first | assumption | decide | omega) (by first | assumption | rfl | simp [va_up])) (cwV 1 C.2.2.2.2.1 (gU_V mw_195 mw_127 mw_128 mw_29 sub_X4_at) rfl rfl rfl hde_X1_code1rep_V_1 ⟨Nat.le_of_ble_eq_true rfl, Nat.le_of_ble_eq_true rfl⟩) (p_preV C hw hL_co hf_co rfl) rfl rfl hl.1 rfl (lv_room (Nat.le_of_ble_eq_true rfl)) dX1_code_31 ⟨Nat.le_of_ble_eq_true rfl, Nat.le_of_ble_eq_true rfl⟩) hw hA (fun r6 S5 H locs hpost hw => ?_)
    obtain ⟨hr_, hS_⟩ := hpost
    subst hr_
    subst hS_
    refine lv_astore (lv' := [(5, .ref c1), (4, .ref c0), (3, .ref st), (2, .int (nI 0)), (0, .ref ch), (1, .ref co)]) hx hb dX1_code_34 hl (by decide) rfl (fun ls hl => ?_)
    refine lv_aload hx hb dX1_code_36 (lv_at hl 0 rfl) ?_
    refine lv_aload_n hx hb dX1_code_38 rfl (lv_at hl 2 rfl) ?_
    refine lv_aload hx hb dX1_code_39 (lv_at hl 1 rfl) ?_
    refine p_calli (va_runV (As := []) (rest := [.ref st, .ref c1]) C.fix (c_X7_size l D cy S H.size c0 c0b 0 hL_c0 hf_c0) (cwV 0 C.2.2.2.2.1 (gU_V mw_196 mw_131 mw_132 mw_25 sub_X7_size) rfl rfl rfl hde_X1_code1rep_V_2 ⟨Nat.le_of_ble_eq_true rfl, Nat.le_of_ble_eq_true rfl⟩) (p_preV C hw hL_c0 hf_c0 rfl) rfl rfl hl.1 rfl (lv_room (Nat.le_of_ble_eq_true rfl)) dX1_code_41 ⟨Nat.le_of_ble_eq_true rfl, Nat.le_of_ble_eq_true rfl⟩) hw hA (fun r8 S7 H locs hpost hw => ?_)
    obtain ⟨hr_, hS_⟩ := hpost
    subst hr_
    subst hS_
    refine p_calli (va_runU (x := ⟨"SoundingLine$Stage", "sizeOf", "(I)I"⟩) (As := [.int (nI 0)]) (rest := [.ref c1]) C.fix (e_X6_sizeOf0 l D cy S H.size st sa hL_st hf_st ) (va_cwA 1 C.2.2.2.2.1 (gU_U mw_142 mw_143 mw_158 mw_159 mw_160 (subU mw_161)) rfl rfl rfl (C.dcl 0 _ rfl) hdue_X1_code1rep_3 ⟨Nat.le_of_ble_eq_true rfl, Nat.le_of_ble_eq_true rfl⟩) (p_preV C hw hL_st hf_st rfl) rfl rfl hl.1 rfl (lv_room (Nat.le_of_ble_eq_true rfl)) dX1_code_44 ⟨Nat.le_of_ble_eq_true rfl, Nat.le_of_ble_eq_true rfl⟩) hw hA (fun r10 S9 H locs hpost hw => ?_)
    obtain ⟨hr_, hS_⟩ := hpost
    subst hr_
    subst hS_
    refine p_callv (va_runV (As := [.int (nI 0)]) (rest := []) C.fix (c_X7_resize l D cy S H.size c1 c1b 320 n1 0 g1 hL_c1 hf_c1 hL_c1b hf_c1b (by first | assumption | decide | omega) (by first | assumption | decide | omega)) (cwV 1 C.2.2.2.2.1 (gU_V mw_197 mw_62 mw_63 mw_25 sub_X7_resize) rfl rfl rfl hde_X1_code1rep_V_4 ⟨Nat.le_of_ble_eq_true rfl, Nat.le_of_ble_eq_true rfl⟩) (p_preV C hw hL_c1 hf_c1 rfl) rfl rfl hl.1 rfl (lv_room (Nat.le_of_ble_eq_true rfl)) dX1_code_47 ⟨Nat.le_of_ble_eq_true rfl, Nat.le_of_ble_eq_true rfl⟩) hw hA (fun S11 H locs hpost hw => ?_)
    have hS_ := hpost
    try rw [show min 0 320 = 0 from rfl] at hS_
    have hS13 := hS_
    have hL14 : c1 ∈ S11.1 := by rw [hS13]; exact hL_c1
    have hf15 : S11.2 c1 = .inr (8, [.ref c1b, .int (nI 0)]) := by rw [hS13]; exact pup_s
    refine lv_aload_n hx hb dX1_code_50 rfl (lv_at hl 2 rfl) ?_
    refine lv_aload hx hb dX1_code_51 (lv_at hl 1 rfl) ?_
    refine lv_aload hx hb dX1_code_53 (lv_at hl 0 rfl) ?_
    have hL16 : st ∈ S11.1 := by rw [hS13]; exact hL_st
    have hf17 : S11.2 st = .inr (7, [.int (nI sa)]) := by rw [hS13]; exact (pup_n (ne_cells hf_st hf_c1 (by nofun))).trans hf_st
    have hL18 : c0 ∈ S11.1 := by rw [hS13]; exact hL_c0
    have hf19 : S11.2 c0 = .inr (8, [.ref c0b, .int (nI 0)]) := by rw [hS13]; exact (pup_n hne_c0_c1).trans hf_c0
    refine p_callv (va_runU (x := ⟨"SoundingLine$Stage", "code", "(LSoundingLine$Row;LSoundingLine$Row;)V"⟩) (As := [.ref c0, .ref c1]) (rest := []) C.fix (e_X6_code0 l D cy S11 H.size st c0 c1 c0b hL18 hf19 ) (va_cwA 2 C.2.2.2.2.1 (gU_U mw_198 mw_199 mw_229 mw_230 mw_160 (subU mw_231)) rfl rfl rfl (C.dcl 1 _ rfl) hdue_X1_code1rep_5 ⟨Nat.le_of_ble_eq_true rfl, Nat.le_of_ble_eq_true rfl⟩) (p_preV C hw hL16 hf17 rfl) rfl rfl hl.1 rfl (lv_room (Nat.le_of_ble_eq_true rfl)) dX1_code_55 ⟨Nat.le_of_ble_eq_true rfl, Nat.le_of_ble_eq_true rfl⟩) hw hA (fun S20 H locs hpost hw => ?_)
    have hS_ := hpost
    subst hS_
    refine lv_iinc (v := (nI 1)) (lv' := [(2, .int (nI 1)), (5, .ref c1), (4, .ref c0), (3, .ref st), (0, .ref ch), (1, .ref co)]) hx hb dX1_code_58 hl (k := 3) rfl (by decide) (by decide) rfl (fun ls hl => ?_)
    refine lv_goto (tgt := 2) hx hb dX1_code_61 (by decide) ?_
    refine lv_iload_n hx hb dX1_code_2 rfl (lv_at hl 0 rfl) ?_
    refine lv_aload_n hx hb dX1_code_3 rfl (lv_at hl 4 rfl) ?_
    have hL22 : ch ∈ S11.1 := by rw [hS13]; exact hL_ch
    have hf23 : S11.2 ch = .inr (2, [.ref lk, .int (nI 1)]) := by rw [hS13]; exact (pup_n (ne_cells hf_ch hf_c1 (by nofun))).trans hf_ch
    refine p_get C hw (ci := 2) (Cn := RX1) (T := TX1) (N := 2) hL22 hf23 rfl hin_RX1 1 (by decide) (mU mw_42) rfl rfl dX1_code_4 ?_
    refine n_icmp_ge (tgt := 64) hx hb (by first | decide | omega) (by first | decide | omega) dX1_code_7 (by decide) (fun h_7 => ?_) (fun h_7 => ?_)
    · skip
      exact (p_vret C hw (⟨(by simp only [hS13, pup, pnew, List.append_nil, List.append_assoc, List.cons_append, List.nil_append]), (fun a_ ha_ hn_0 => (show S11.2 a_ = S.2 a_ from by rw [hS13]; exact pup_n hn_0)), hf15⟩) hr hlocks dX1_code_64)
    · exact absurd h_7 (by first | decide | omega)

theorem hde_X1_decode1rep_V_0 : yX1_stageAt.cls = RX1 ∧ yX1_stageAt.cls ≠ "java/lang/invoke/MethodHandle" ∧ yX1_stageAt.cls ≠ "java/lang/invoke/VarHandle" ∧ (parseMethodDescriptor yX1_stageAt.desc).map (fun d => d.parameters.length) = some 1 := by decide +kernel
theorem hde_X1_decode1rep_V_1 : yX4_at.cls = RX4 ∧ yX4_at.cls ≠ "java/lang/invoke/MethodHandle" ∧ yX4_at.cls ≠ "java/lang/invoke/VarHandle" ∧ (parseMethodDescriptor yX4_at.desc).map (fun d => d.parameters.length) = some 1 := by decide +kernel
theorem hde_X1_decode1rep_V_2 : yX7_size.cls = RX7 ∧ yX7_size.cls ≠ "java/lang/invoke/MethodHandle" ∧ yX7_size.cls ≠ "java/lang/invoke/VarHandle" ∧ (parseMethodDescriptor yX7_size.desc).map (fun d => d.parameters.length) = some 0 := by decide +kernel
theorem hde_X1_decode1rep_V_3 : yX7_resize.cls = RX7 ∧ yX7_resize.cls ≠ "java/lang/invoke/MethodHandle" ∧ yX7_resize.cls ≠ "java/lang/invoke/VarHandle" ∧ (parseMethodDescriptor yX7_resize.desc).map (fun d => d.parameters.length) = some 1 := by decide +kernel
theorem hdue_X1_decode1rep_4 : "SoundingLine$Stage" ≠ "java/lang/invoke/MethodHandle" ∧ "SoundingLine$Stage" ≠ "java/lang/invoke/VarHandle" ∧ (parseMethodDescriptor "(LSoundingLine$Row;LSoundingLine$Row;)V").map (fun d => d.parameters.length) = some 2 := by decide +kernel
set_option maxHeartbeats 4000000 in
set_option maxRecDepth 100000 in
theorem e_X1_decode1rep (l : Launch) (D : va_G) (cy : Nat → ClassId) (S : pS) (sz : Nat) (ch : Nat) (v : Nat) (co : Nat) (lk : Nat) (st : Nat) (col : Nat) (con : Nat) (vl : Nat) (vn : Nat) (c0 : Nat) (c0b : Nat) (v0 : Nat) (v0b : Nat) (v1 : Nat) (lq : Nat → Option Nat) (cq : Nat → Option Nat) (vq : Nat → Option Nat) (n0 : Nat) (g0 : Nat → Nat) (sa : Nat) (hL_ch : ch ∈ S.1) (hf_ch : S.2 ch = .inr (2, [.ref lk, .int (nI 1)])) (hL_lk : lk ∈ S.1) (hf_lk : S.2 lk = aQ (cy 3) 4 lq) (hL_st : st ∈ S.1) (hf_st : S.2 st = .inr (7, [.int (nI sa)])) (hL_co : co ∈ S.1) (hf_co : S.2 co = .inr (5, [.ref col, .ref con])) (hL_col : col ∈ S.1) (hf_col : S.2 col = aQ (cy 2) 5 cq) (hL_v : v ∈ S.1) (hf_v : S.2 v = .inr (5, [.ref vl, .ref vn])) (hL_vl : vl ∈ S.1) (hf_vl : S.2 vl = aQ (cy 2) 5 vq) (hL_c0 : c0 ∈ S.1) (hf_c0 : S.2 c0 = .inr (8, [.ref c0b, .int (nI 0)])) (hL_v0 : v0 ∈ S.1) (hf_v0 : S.2 v0 = .inr (8, [.ref v0b, .int (nI n0)])) (hL_v0b : v0b ∈ S.1) (hf_v0b : S.2 v0b = aN (cy 0) 32 g0) (hlq : lq 0 = some st) (hcq : cq 0 = some c0) (hvq : vq 0 = some v0) (hvq1 : vq 1 = some v1) : Met l yX1_decode (Cond.code yX1_decode cX1_decode 6 none :: lwU) ({ frames := 2, cells := 0, slots := 0, locals := 45 }) (pPc D cy S sz [.ref ch, .ref v, .ref co]) (pQv D cy S sz (fun S' => S'.1 = S.1 ++ [] ∧ (∀ a_, a_ ∈ S.1 → a_ ≠ v0 → S'.2 a_ = S.2 a_))) 0 0 (pA S sz) := by
  refine Met.ofW (cc := cX1_decode) (maxL := 6) (ret := none) (by decide) rfl ?_
  intro p e s m args below meth c s₁ B hml hv
  obtain ⟨rfl, rfl, C, hw, hA, hr, hlocks⟩ := p_start B hml hv
  have hx := C.1
  have hb := C.2.1
  have hl := lv_entry ([.ref ch, .ref v, .ref co]) (n := 6) (Nat.le_of_ble_eq_true rfl)
  rw [lg_entry_eq]
  generalize (lg_sl ([.ref ch, .ref v, .ref co]) ++ List.replicate (6 - (lg_sl ([.ref ch, .ref v, .ref co])).length) Slot.unset).toArray = ls at hl ⊢
  have hl : lv_has ls 6 [(0, .ref ch), (1, .ref v), (2, .ref co)] := hl
  have hin_RX1 : ∀ w ∈ u_ws RX1 TX1 2, w ∈ (Cond.code yX1_decode cX1_decode 6 none :: lwU) := fun w h => mU (sub_RX1 w h)
  refine lv_aload_n hx hb dX1_decode_0 rfl (lv_at hl 0 rfl) ?_
  refine p_get C hw (ci := 2) (Cn := RX1) (T := TX1) (N := 2) hL_ch hf_ch rfl hin_RX1 1 (by decide) (mU mw_42) rfl rfl dX1_decode_1 ?_
  refine lv_iconst (v := nI 1) hx hb dX1_decode_4 (by decide) ?_
  refine n_isub hx hb (by first | decide | omega) dX1_decode_5 ?_
  refine n_ren (b := 0) (by first | rfl | omega | simp) ?_
  refine lv_istore_n (lv' := [(3, .int (nI 0)), (0, .ref ch), (1, .ref v), (2, .ref co)]) hx hb dX1_decode_6 rfl hl (by decide) rfl (fun ls hl => ?_)
  refine lv_iload_n hx hb dX1_decode_7 rfl (lv_at hl 0 rfl) ?_
  refine n_if_lt (tgt := 63) hx hb (by first | decide | omega) dX1_decode_8 (by decide) ?_
  refine lv_aload_n hx hb dX1_decode_11 rfl (lv_at hl 1 rfl) ?_
  refine lv_iload_n hx hb dX1_decode_12 rfl (lv_at hl 0 rfl) ?_
  refine p_callq (va_runV (As := [.int (nI 0)]) (rest := []) C.fix (e_X1_stageAt1 l D cy S s.heap.size ch lk lq st hL_ch hf_ch hL_lk hf_lk (by first | assumption | rfl | simp [va_up])) (cwV 1 C.2.2.2.2.1 (gU_V mw_138 mw_139 mw_140 mw_16 (subU mw_141)) rfl rfl rfl hde_X1_decode1rep_V_0 ⟨Nat.le_of_ble_eq_true rfl, Nat.le_of_ble_eq_true rfl⟩) (p_preV C hw hL_ch hf_ch rfl) rfl rfl hl.1 rfl (lv_room (Nat.le_of_ble_eq_true rfl)) dX1_decode_13 ⟨Nat.le_of_ble_eq_true rfl, Nat.le_of_ble_eq_true rfl⟩) hw hA (fun r2 S1 H locs hpost hw => ?_)
  obtain ⟨hr_, hS_⟩ := hpost
  subst hr_
  subst hS_
  refine lv_astore (lv' := [(4, .ref st), (3, .int (nI 0)), (0, .ref ch), (1, .ref v), (2, .ref co)]) hx hb dX1_decode_16 hl (by decide) rfl (fun ls hl => ?_)
  refine lv_aload hx hb dX1_decode_18 (lv_at hl 0 rfl) ?_
  refine lv_ifnull hx hb dX1_decode_20 ?_
  refine lv_aload_n hx hb dX1_decode_23 rfl (lv_at hl 3 rfl) ?_
  refine lv_iload_n hx hb dX1_decode_24 rfl (lv_at hl 1 rfl) ?_
  refine p_callq (va_runV (As := [.int (nI 0)]) (rest := []) C.fix (c_X4_at l D cy S H.size v vl vn 0 v0 vq hL_v hf_v hL_vl hf_vl (by first | assumption | decide | omega) (by first | assumption | rfl | simp [va_up])) (cwV 1 C.2.2.2.2.1 (gU_V mw_195 mw_127 mw_128 mw_29 sub_X4_at) rfl rfl rfl hde_X1_decode1rep_V_1 ⟨Nat.le_of_ble_eq_true rfl, Nat.le_of_ble_eq_true rfl⟩) (p_preV C hw hL_v hf_v rfl) rfl rfl hl.1 rfl (lv_room (Nat.le_of_ble_eq_true rfl)) dX1_decode_25 ⟨Nat.le_of_ble_eq_true rfl, Nat.le_of_ble_eq_true rfl⟩) hw hA (fun r4 S3 H locs hpost hw => ?_)
  obtain ⟨hr_, hS_⟩ := hpost
  subst hr_
  subst hS_
  refine lv_astore (lv' := [(5, .ref v0), (4, .ref st), (3, .int (nI 0)), (0, .ref ch), (1, .ref v), (2, .ref co)]) hx hb dX1_decode_28 hl (by decide) rfl (fun ls hl => ?_)
  refine lv_aload hx hb dX1_decode_30 (lv_at hl 0 rfl) ?_
  refine lv_aload_n hx hb dX1_decode_32 rfl (lv_at hl 5 rfl) ?_
  refine lv_iload_n hx hb dX1_decode_33 rfl (lv_at hl 2 rfl) ?_
  refine p_callq (va_runV (As := [.int (nI 0)]) (rest := [.ref v0]) C.fix (c_X4_at l D cy S H.size co col con 0 c0 cq hL_co hf_co hL_col hf_col (by first | assumption | decide | omega) (by first | assumption | rfl | simp [va_up])) (cwV 1 C.2.2.2.2.1 (gU_V mw_195 mw_127 mw_128 mw_29 sub_X4_at) rfl rfl rfl hde_X1_decode1rep_V_1 ⟨Nat.le_of_ble_eq_true rfl, Nat.le_of_ble_eq_true rfl⟩) (p_preV C hw hL_co hf_co rfl) rfl rfl hl.1 rfl (lv_room (Nat.le_of_ble_eq_true rfl)) dX1_decode_34 ⟨Nat.le_of_ble_eq_true rfl, Nat.le_of_ble_eq_true rfl⟩) hw hA (fun r6 S5 H locs hpost hw => ?_)
  obtain ⟨hr_, hS_⟩ := hpost
  subst hr_
  subst hS_
  refine p_calli (va_runV (As := []) (rest := [.ref v0]) C.fix (c_X7_size l D cy S H.size c0 c0b 0 hL_c0 hf_c0) (cwV 0 C.2.2.2.2.1 (gU_V mw_196 mw_131 mw_132 mw_25 sub_X7_size) rfl rfl rfl hde_X1_decode1rep_V_2 ⟨Nat.le_of_ble_eq_true rfl, Nat.le_of_ble_eq_true rfl⟩) (p_preV C hw hL_c0 hf_c0 rfl) rfl rfl hl.1 rfl (lv_room (Nat.le_of_ble_eq_true rfl)) dX1_decode_37 ⟨Nat.le_of_ble_eq_true rfl, Nat.le_of_ble_eq_true rfl⟩) hw hA (fun r8 S7 H locs hpost hw => ?_)
  obtain ⟨hr_, hS_⟩ := hpost
  subst hr_
  subst hS_
  refine p_callv (va_runV (As := [.int (nI 0)]) (rest := []) C.fix (c_X7_resize l D cy S H.size v0 v0b 32 n0 0 g0 hL_v0 hf_v0 hL_v0b hf_v0b (by first | assumption | decide | omega) (by first | assumption | decide | omega)) (cwV 1 C.2.2.2.2.1 (gU_V mw_197 mw_62 mw_63 mw_25 sub_X7_resize) rfl rfl rfl hde_X1_decode1rep_V_3 ⟨Nat.le_of_ble_eq_true rfl, Nat.le_of_ble_eq_true rfl⟩) (p_preV C hw hL_v0 hf_v0 rfl) rfl rfl hl.1 rfl (lv_room (Nat.le_of_ble_eq_true rfl)) dX1_decode_40 ⟨Nat.le_of_ble_eq_true rfl, Nat.le_of_ble_eq_true rfl⟩) hw hA (fun S9 H locs hpost hw => ?_)
  have hS_ := hpost
  try rw [show min 0 32 = 0 from rfl] at hS_
  have hS11 := hS_
  have hL12 : v0 ∈ S9.1 := by rw [hS11]; exact hL_v0
  have hf13 : S9.2 v0 = .inr (8, [.ref v0b, .int (nI 0)]) := by rw [hS11]; exact pup_s
  refine lv_aload hx hb dX1_decode_43 (lv_at hl 1 rfl) ?_
  refine lv_aload_n hx hb dX1_decode_45 rfl (lv_at hl 4 rfl) ?_
  refine lv_iload_n hx hb dX1_decode_46 rfl (lv_at hl 2 rfl) ?_
  refine lv_iconst (v := nI 1) hx hb dX1_decode_47 (by decide) ?_
  refine n_iadd hx hb dX1_decode_48 ?_
  refine n_ren (b := 1) (by first | rfl | omega | simp) ?_
  have hL14 : v ∈ S9.1 := by rw [hS11]; exact hL_v
  have hf15 : S9.2 v = .inr (5, [.ref vl, .ref vn]) := by rw [hS11]; exact (pup_n (ne_cells hf_v hf_v0 (by nofun))).trans hf_v
  have hL16 : vl ∈ S9.1 := by rw [hS11]; exact hL_vl
  have hf17 : S9.2 vl = aQ (cy 2) 5 vq := by rw [hS11]; exact (pup_n (ne_cells hf_vl hf_v0 (by nofun))).trans hf_vl
  refine p_callq (va_runV (As := [.int (nI 1)]) (rest := [.ref st]) C.fix (c_X4_at l D cy S9 H.size v vl vn 1 v1 vq hL14 hf15 hL16 hf17 (by first | assumption | decide | omega) (by first | assumption | rfl | simp [va_up])) (cwV 1 C.2.2.2.2.1 (gU_V mw_195 mw_127 mw_128 mw_29 sub_X4_at) rfl rfl rfl hde_X1_decode1rep_V_1 ⟨Nat.le_of_ble_eq_true rfl, Nat.le_of_ble_eq_true rfl⟩) (p_preV C hw hL14 hf15 rfl) rfl rfl hl.1 rfl (lv_room (Nat.le_of_ble_eq_true rfl)) dX1_decode_49 ⟨Nat.le_of_ble_eq_true rfl, Nat.le_of_ble_eq_true rfl⟩) hw hA (fun r19 S18 H locs hpost hw => ?_)
  obtain ⟨hr_, hS_⟩ := hpost
  subst hr_
  subst hS_
  refine lv_aload hx hb dX1_decode_52 (lv_at hl 0 rfl) ?_
  have hL20 : st ∈ S9.1 := by rw [hS11]; exact hL_st
  have hf21 : S9.2 st = .inr (7, [.int (nI sa)]) := by rw [hS11]; exact (pup_n (ne_cells hf_st hf_v0 (by nofun))).trans hf_st
  refine p_callv (va_runU (x := ⟨"SoundingLine$Stage", "decode", "(LSoundingLine$Row;LSoundingLine$Row;)V"⟩) (As := [.ref v1, .ref v0]) (rest := []) C.fix (e_X6_decode0 l D cy S9 H.size st v1 v0 v0b hL12 hf13 ) (va_cwA 2 C.2.2.2.2.1 (gU_U mw_303 mw_304 mw_332 mw_333 mw_160 (subU mw_334)) rfl rfl rfl (C.dcl 2 _ rfl) hdue_X1_decode1rep_4 ⟨Nat.le_of_ble_eq_true rfl, Nat.le_of_ble_eq_true rfl⟩) (p_preV C hw hL20 hf21 rfl) rfl rfl hl.1 rfl (lv_room (Nat.le_of_ble_eq_true rfl)) dX1_decode_54 ⟨Nat.le_of_ble_eq_true rfl, Nat.le_of_ble_eq_true rfl⟩) hw hA (fun S22 H locs hpost hw => ?_)
  have hS_ := hpost
  subst hS_
  refine lv_iinc (v := (-1)) (lv' := [(3, .int (-1)), (5, .ref v0), (4, .ref st), (0, .ref ch), (1, .ref v), (2, .ref co)]) hx hb dX1_decode_57 hl (k := 2) rfl (by decide) (by decide) rfl (fun ls hl => ?_)
  refine lv_goto (tgt := 7) hx hb dX1_decode_60 (by decide) ?_
  refine lv_iload_n hx hb dX1_decode_7 rfl (lv_at hl 0 rfl) ?_
  refine z_if_lt (tgt := 63) hx hb (show (-1 : Int32).toInt = -1 from by decide) dX1_decode_8 (by decide) (fun h_8 => ?_) (fun h_8 => ?_)
  · skip
    exact (p_vret C hw (⟨(by simp only [hS11, pup, pnew, List.append_nil, List.append_assoc, List.cons_append, List.nil_append]), (fun a_ ha_ hn_0 => (show S9.2 a_ = S.2 a_ from by rw [hS11]; exact pup_n hn_0))⟩) hr hlocks dX1_decode_63)
  · exact absurd h_8 (by first | decide | omega)

theorem hde_X11_settle1rep_V_0 : yX1_code.cls = RX1 ∧ yX1_code.cls ≠ "java/lang/invoke/MethodHandle" ∧ yX1_code.cls ≠ "java/lang/invoke/VarHandle" ∧ (parseMethodDescriptor yX1_code.desc).map (fun d => d.parameters.length) = some 1 := by decide +kernel
theorem hde_X11_settle1rep_V_1 : yX11_send.cls = RX11 ∧ yX11_send.cls ≠ "java/lang/invoke/MethodHandle" ∧ yX11_send.cls ≠ "java/lang/invoke/VarHandle" ∧ (parseMethodDescriptor yX11_send.desc).map (fun d => d.parameters.length) = some 2 := by decide +kernel
theorem hde_X11_settle1rep_V_2 : yX1_decode.cls = RX1 ∧ yX1_decode.cls ≠ "java/lang/invoke/MethodHandle" ∧ yX1_decode.cls ≠ "java/lang/invoke/VarHandle" ∧ (parseMethodDescriptor yX1_decode.desc).map (fun d => d.parameters.length) = some 2 := by decide +kernel
set_option maxHeartbeats 4000000 in
set_option maxRecDepth 100000 in
theorem e_X11_settle1rep (l : Launch) (D : va_G) (cy : Nat → ClassId) (S : pS) (sz : Nat) (x : Nat) (ch : Nat) (ln : Nat) (sl : Nat) (mk : Nat) (co : Nat) (ca : Nat) (su : Nat) (lt : Nat) (lk : Nat) (mb : Nat) (col : Nat) (con : Nat) (cor0 : Nat) (cor1 : Nat) (cor2 : Nat) (cor3 : Nat) (cor4 : Nat) (cob0 : Nat) (cob1 : Nat) (cal : Nat) (can : Nat) (car0 : Nat) (car1 : Nat) (car2 : Nat) (car3 : Nat) (car4 : Nat) (cab0 : Nat) (cab1 : Nat) (st : Nat) (lq : Nat → Option Nat) (sa : Nat) (hL_x : x ∈ S.1) (hf_x : S.2 x = .inr (11, [.ref ch, .ref ln, .ref sl, .ref mk, .ref co, .ref ca, .ref su, .ref lt])) (hL_ch : ch ∈ S.1) (hf_ch : S.2 ch = .inr (2, [.ref lk, .int (nI 1)])) (hL_lk : lk ∈ S.1) (hf_lk : S.2 lk = aQ (cy 3) 4 lq) (hL_ln : ln ∈ S.1) (hf_ln : S.2 ln = .inr (6, [.int (nI 0), .int (nI 0), .int (nI 0), .int (nI 0)])) (hL_mk : mk ∈ S.1) (hf_mk : S.2 mk = .inr (8, [.ref mb, .int (nI 320)])) (hL_mb : mb ∈ S.1) (hf_mb : S.2 mb = aN (cy 0) 320 (fun _ => 0)) (hL_co : co ∈ S.1) (hf_co : S.2 co = .inr (5, [.ref col, .ref con])) (hL_col : col ∈ S.1) (hf_col : S.2 col = aQ (cy 2) 5 (va_up (va_up (va_up (va_up (va_up (fun _ => none) 0 (some cor0)) 1 (some cor1)) 2 (some cor2)) 3 (some cor3)) 4 (some cor4))) (hL_cor0 : cor0 ∈ S.1) (hf_cor0 : S.2 cor0 = .inr (8, [.ref cob0, .int (nI 0)])) (hL_cor1 : cor1 ∈ S.1) (hf_cor1 : S.2 cor1 = .inr (8, [.ref cob1, .int (nI 0)])) (hL_cob1 : cob1 ∈ S.1) (hf_cob1 : S.2 cob1 = aN (cy 0) 320 (fun _ => 0)) (hL_ca : ca ∈ S.1) (hf_ca : S.2 ca = .inr (5, [.ref cal, .ref can])) (hL_cal : cal ∈ S.1) (hf_cal : S.2 cal = aQ (cy 2) 5 (va_up (va_up (va_up (va_up (va_up (fun _ => none) 0 (some car0)) 1 (some car1)) 2 (some car2)) 3 (some car3)) 4 (some car4))) (hL_car0 : car0 ∈ S.1) (hf_car0 : S.2 car0 = .inr (8, [.ref cab0, .int (nI 0)])) (hL_cab0 : cab0 ∈ S.1) (hf_cab0 : S.2 cab0 = aN (cy 0) 32 (fun _ => 0)) (hL_car1 : car1 ∈ S.1) (hf_car1 : S.2 car1 = .inr (8, [.ref cab1, .int (nI 0)])) (hL_cab1 : cab1 ∈ S.1) (hf_cab1 : S.2 cab1 = aN (cy 0) 320 (fun _ => 0)) (hL_st : st ∈ S.1) (hf_st : S.2 st = .inr (7, [.int (nI sa)])) (hne_cor0_cor1 : cor0 ≠ cor1) (hne_mk_cor1 : mk ≠ cor1) (hne_car1_cor1 : car1 ≠ cor1) (hne_cob1_cab1 : cob1 ≠ cab1) (hne_mk_car1 : mk ≠ car1) (hne_mb_cab1 : mb ≠ cab1) (hne_cor0_car1 : cor0 ≠ car1) (hne_car0_cor1 : car0 ≠ cor1) (hne_car0_car1 : car0 ≠ car1) (hne_cab0_cab1 : cab0 ≠ cab1) (hlq : lq 0 = some st) : Met l yX11_settle (Cond.code yX11_settle cX11_settle 1 none :: lwU) ({ frames := 5, cells := 0, slots := 0, locals := 111 }) (pPc D cy S sz [.ref x]) (pQv D cy S sz (fun S' => S'.1 = S.1 ++ [] ∧ (∀ a_, a_ ∈ S.1 → a_ ≠ cor1 → a_ ≠ car1 → a_ ≠ cab1 → a_ ≠ car0 → S'.2 a_ = S.2 a_) ∧ S'.2 cor1 = .inr (8, [.ref cob1, .int (nI 0)]))) 0 0 (pA S sz) := by
  refine Met.ofW (cc := cX11_settle) (maxL := 1) (ret := none) (by decide) rfl ?_
  intro p e s m args below meth c s₁ B hml hv
  obtain ⟨rfl, rfl, C, hw, hA, hr, hlocks⟩ := p_start B hml hv
  have hx := C.1
  have hb := C.2.1
  have hl := lv_entry ([.ref x]) (n := 1) (Nat.le_of_ble_eq_true rfl)
  rw [lg_entry_eq]
  generalize (lg_sl ([.ref x]) ++ List.replicate (1 - (lg_sl ([.ref x])).length) Slot.unset).toArray = ls at hl ⊢
  have hl : lv_has ls 1 [(0, .ref x)] := hl
  have hin_RX11 : ∀ w ∈ u_ws RX11 TX11 8, w ∈ (Cond.code yX11_settle cX11_settle 1 none :: lwU) := fun w h => mU (sub_RX11 w h)
  refine lv_aload_n hx hb dX11_settle_0 rfl (lv_at hl 0 rfl) ?_
  refine p_get C hw (ci := 11) (Cn := RX11) (T := TX11) (N := 8) hL_x hf_x rfl hin_RX11 0 (by decide) (mU mw_17) rfl rfl dX11_settle_1 ?_
  refine lv_aload_n hx hb dX11_settle_4 rfl (lv_at hl 0 rfl) ?_
  refine p_get C hw (ci := 11) (Cn := RX11) (T := TX11) (N := 8) hL_x hf_x rfl hin_RX11 4 (by decide) (mU mw_30) rfl rfl dX11_settle_5 ?_
  refine p_callv (va_runV (As := [.ref co]) (rest := []) C.fix (e_X1_code1rep l D cy S s.heap.size ch co lk st col con cor0 cob0 cor1 cob1 lq (va_up (va_up (va_up (va_up (va_up (fun _ => none) 0 (some cor0)) 1 (some cor1)) 2 (some cor2)) 3 (some cor3)) 4 (some cor4)) 0 (fun _ => 0) sa hL_ch hf_ch hL_lk hf_lk hL_st hf_st hL_co hf_co hL_col hf_col hL_cor0 hf_cor0 hL_cor1 hf_cor1 hL_cob1 hf_cob1 hne_cor0_cor1 (by first | assumption | rfl | simp [va_up]) (by first | assumption | rfl | simp [va_up]) (by first | assumption | rfl | simp [va_up])) (cwV 1 C.2.2.2.2.1 (gU_V mw_191 mw_192 mw_193 mw_16 (subU mw_194)) rfl rfl rfl hde_X11_settle1rep_V_0 ⟨Nat.le_of_ble_eq_true rfl, Nat.le_of_ble_eq_true rfl⟩) (p_preV C hw hL_ch hf_ch rfl) rfl rfl hl.1 rfl (lv_room (Nat.le_of_ble_eq_true rfl)) dX11_settle_8 ⟨Nat.le_of_ble_eq_true rfl, Nat.le_of_ble_eq_true rfl⟩) hw hA (fun S1 H locs hpost hw => ?_)
  obtain ⟨hS3, hfr4, hf5⟩ := hpost
  have hL6 : cor1 ∈ S1.1 := by rw [hS3]; exact List.mem_append_left _ hL_cor1
  refine lv_aload_n hx hb dX11_settle_11 rfl (lv_at hl 0 rfl) ?_
  refine lv_aload_n hx hb dX11_settle_12 rfl (lv_at hl 0 rfl) ?_
  have hL7 : x ∈ S1.1 := by rw [hS3]; exact List.mem_append_left _ hL_x
  have hf8 : S1.2 x = .inr (11, [.ref ch, .ref ln, .ref sl, .ref mk, .ref co, .ref ca, .ref su, .ref lt]) := (hfr4 x hL_x (ne_cells hf_x hf_cor1 (by nofun))).trans hf_x
  refine p_get C hw (ci := 11) (Cn := RX11) (T := TX11) (N := 8) hL7 hf8 rfl hin_RX11 1 (by decide) (mU mw_21) rfl rfl dX11_settle_13 ?_
  refine lv_aload_n hx hb dX11_settle_16 rfl (lv_at hl 0 rfl) ?_
  refine p_get C hw (ci := 11) (Cn := RX11) (T := TX11) (N := 8) hL7 hf8 rfl hin_RX11 5 (by decide) (mU mw_31) rfl rfl dX11_settle_17 ?_
  have hL9 : ch ∈ S1.1 := by rw [hS3]; exact List.mem_append_left _ hL_ch
  have hf10 : S1.2 ch = .inr (2, [.ref lk, .int (nI 1)]) := (hfr4 ch hL_ch (ne_cells hf_ch hf_cor1 (by nofun))).trans hf_ch
  have hL11 : mk ∈ S1.1 := by rw [hS3]; exact List.mem_append_left _ hL_mk
  have hf12 : S1.2 mk = .inr (8, [.ref mb, .int (nI 320)]) := (hfr4 mk hL_mk hne_mk_cor1).trans hf_mk
  have hL13 : mb ∈ S1.1 := by rw [hS3]; exact List.mem_append_left _ hL_mb
  have hf14 : S1.2 mb = aN (cy 0) 320 (fun _ => 0) := (hfr4 mb hL_mb (ne_cells hf_mb hf_cor1 (by nofun))).trans hf_mb
  have hL15 : ln ∈ S1.1 := by rw [hS3]; exact List.mem_append_left _ hL_ln
  have hf16 : S1.2 ln = .inr (6, [.int (nI 0), .int (nI 0), .int (nI 0), .int (nI 0)]) := (hfr4 ln hL_ln (ne_cells hf_ln hf_cor1 (by nofun))).trans hf_ln
  have hL17 : co ∈ S1.1 := by rw [hS3]; exact List.mem_append_left _ hL_co
  have hf18 : S1.2 co = .inr (5, [.ref col, .ref con]) := (hfr4 co hL_co (ne_cells hf_co hf_cor1 (by nofun))).trans hf_co
  have hL19 : col ∈ S1.1 := by rw [hS3]; exact List.mem_append_left _ hL_col
  have hf20 : S1.2 col = aQ (cy 2) 5 (va_up (va_up (va_up (va_up (va_up (fun _ => none) 0 (some cor0)) 1 (some cor1)) 2 (some cor2)) 3 (some cor3)) 4 (some cor4)) := (hfr4 col hL_col (ne_cells hf_col hf_cor1 (by nofun))).trans hf_col
  have hL21 : ca ∈ S1.1 := by rw [hS3]; exact List.mem_append_left _ hL_ca
  have hf22 : S1.2 ca = .inr (5, [.ref cal, .ref can]) := (hfr4 ca hL_ca (ne_cells hf_ca hf_cor1 (by nofun))).trans hf_ca
  have hL23 : cal ∈ S1.1 := by rw [hS3]; exact List.mem_append_left _ hL_cal
  have hf24 : S1.2 cal = aQ (cy 2) 5 (va_up (va_up (va_up (va_up (va_up (fun _ => none) 0 (some car0)) 1 (some car1)) 2 (some car2)) 3 (some car3)) 4 (some car4)) := (hfr4 cal hL_cal (ne_cells hf_cal hf_cor1 (by nofun))).trans hf_cal
  have hL25 : cob1 ∈ S1.1 := by rw [hS3]; exact List.mem_append_left _ hL_cob1
  have hf26 : S1.2 cob1 = aN (cy 0) 320 (fun _ => 0) := (hfr4 cob1 hL_cob1 (ne_cells hf_cob1 hf_cor1 (by nofun))).trans hf_cob1
  have hL27 : car1 ∈ S1.1 := by rw [hS3]; exact List.mem_append_left _ hL_car1
  have hf28 : S1.2 car1 = .inr (8, [.ref cab1, .int (nI 0)]) := (hfr4 car1 hL_car1 hne_car1_cor1).trans hf_car1
  have hL29 : cab1 ∈ S1.1 := by rw [hS3]; exact List.mem_append_left _ hL_cab1
  have hf30 : S1.2 cab1 = aN (cy 0) 320 (fun _ => 0) := (hfr4 cab1 hL_cab1 (ne_cells hf_cab1 hf_cor1 (by nofun))).trans hf_cab1
  refine p_callv (va_runV (As := [.ref ln, .ref ca]) (rest := []) C.fix (e_X11_send1 l D cy S1 H.size x ln ca ch ln sl mk co ca su lt lk mb col con cal can cor1 cob1 car1 cab1 (va_up (va_up (va_up (va_up (va_up (fun _ => none) 0 (some cor0)) 1 (some cor1)) 2 (some cor2)) 3 (some cor3)) 4 (some cor4)) (va_up (va_up (va_up (va_up (va_up (fun _ => none) 0 (some car0)) 1 (some car1)) 2 (some car2)) 3 (some car3)) 4 (some car4)) (fun _ => 0) (fun _ => 0) (fun _ => 0) 0 0 (nI 0) (nI 0) (nI 0) 0 0 0 hL7 hf8 hL9 hf10 hL11 hf12 hL13 hf14 hL15 hf16 hL17 hf18 hL19 hf20 hL21 hf22 hL23 hf24 hL6 hf5 hL25 hf26 hL27 hf28 hL29 hf30 hne_cob1_cab1 (Ne.symm hne_car1_cor1) hne_mk_car1 hne_mb_cab1 (by first | assumption | rfl | simp [va_up]) (by first | assumption | rfl | simp [va_up]) (by first | assumption | exact (fun _ => Nat.zero_le 2) | exact rnum_le (fun _ => Nat.zero_le 2) | exact rcop_le (by first | assumption | exact (fun _ => Nat.zero_le 2)) (by first | assumption | exact (fun _ => Nat.zero_le 2)) | exact rharm_le (rcop_le (by first | assumption | exact (fun _ => Nat.zero_le 2)) (by first | assumption | exact (fun _ => Nat.zero_le 2))) | exact rturn_le (fun _ => Nat.zero_le 2)) (by first | assumption | exact (fun _ => Nat.zero_le 2) | exact rnum_le (fun _ => Nat.zero_le 2) | exact rcop_le (by first | assumption | exact (fun _ => Nat.zero_le 2)) (by first | assumption | exact (fun _ => Nat.zero_le 2)) | exact rharm_le (rcop_le (by first | assumption | exact (fun _ => Nat.zero_le 2)) (by first | assumption | exact (fun _ => Nat.zero_le 2))) | exact rturn_le (fun _ => Nat.zero_le 2)) (by first | assumption | exact (fun _ => Nat.zero_le 2) | exact rnum_le (fun _ => Nat.zero_le 2) | exact rcop_le (by first | assumption | exact (fun _ => Nat.zero_le 2)) (by first | assumption | exact (fun _ => Nat.zero_le 2)) | exact rharm_le (rcop_le (by first | assumption | exact (fun _ => Nat.zero_le 2)) (by first | assumption | exact (fun _ => Nat.zero_le 2))) | exact rturn_le (fun _ => Nat.zero_le 2)) (by first | assumption | decide | omega) (by first | assumption | decide | omega) (by first | assumption | decide | omega) (by first | assumption | decide | omega) (by first | assumption | decide | omega) (by first | assumption | (intro h; exact absurd h (by decide)) | (intro h; exact absurd h (by omega))) (by first | assumption | (intro h; exact absurd h (by decide)) | (intro h; exact absurd h (by omega)))) (cwV 2 C.2.2.2.2.1 (gU_V mw_252 mw_253 mw_254 mw_2 (subU mw_255)) rfl rfl rfl hde_X11_settle1rep_V_1 ⟨Nat.le_of_ble_eq_true rfl, Nat.le_of_ble_eq_true rfl⟩) (p_preV C hw hL7 hf8 rfl) rfl rfl hl.1 rfl (lv_room (Nat.le_of_ble_eq_true rfl)) dX11_settle_20 ⟨Nat.le_of_ble_eq_true rfl, Nat.le_of_ble_eq_true rfl⟩) hw hA (fun S31 H locs hpost hw => ?_)
  obtain ⟨wg33, hc34, hS35, hfr36, hf37, hf38⟩ := hpost
  have hL39 : car1 ∈ S31.1 := by rw [hS35]; exact List.mem_append_left _ hL27
  have hL40 : cab1 ∈ S31.1 := by rw [hS35]; exact List.mem_append_left _ hL29
  refine lv_aload_n hx hb dX11_settle_23 rfl (lv_at hl 0 rfl) ?_
  have hL41 : x ∈ S31.1 := by rw [hS35]; exact List.mem_append_left _ hL7
  have hf42 : S31.2 x = .inr (11, [.ref ch, .ref ln, .ref sl, .ref mk, .ref co, .ref ca, .ref su, .ref lt]) := (hfr36 x hL7 (ne_cells hf8 hf28 (by nofun)) (ne_cells hf8 hf30 (by nofun))).trans hf8
  refine p_get C hw (ci := 11) (Cn := RX11) (T := TX11) (N := 8) hL41 hf42 rfl hin_RX11 0 (by decide) (mU mw_17) rfl rfl dX11_settle_24 ?_
  refine lv_aload_n hx hb dX11_settle_27 rfl (lv_at hl 0 rfl) ?_
  refine p_get C hw (ci := 11) (Cn := RX11) (T := TX11) (N := 8) hL41 hf42 rfl hin_RX11 5 (by decide) (mU mw_31) rfl rfl dX11_settle_28 ?_
  refine lv_aload_n hx hb dX11_settle_31 rfl (lv_at hl 0 rfl) ?_
  refine p_get C hw (ci := 11) (Cn := RX11) (T := TX11) (N := 8) hL41 hf42 rfl hin_RX11 4 (by decide) (mU mw_30) rfl rfl dX11_settle_32 ?_
  have hL43 : ch ∈ S31.1 := by rw [hS35]; exact List.mem_append_left _ hL9
  have hf44 : S31.2 ch = .inr (2, [.ref lk, .int (nI 1)]) := (hfr36 ch hL9 (ne_cells hf10 hf28 (by nofun)) (ne_cells hf10 hf30 (by nofun))).trans hf10
  have hL45 : lk ∈ S1.1 := by rw [hS3]; exact List.mem_append_left _ hL_lk
  have hf46 : S1.2 lk = aQ (cy 3) 4 lq := (hfr4 lk hL_lk (ne_cells hf_lk hf_cor1 (by nofun))).trans hf_lk
  have hL47 : lk ∈ S31.1 := by rw [hS35]; exact List.mem_append_left _ hL45
  have hf48 : S31.2 lk = aQ (cy 3) 4 lq := (hfr36 lk hL45 (ne_cells hf46 hf28 (by nofun)) (ne_cells hf46 hf30 ne_QN)).trans hf46
  have hL49 : st ∈ S1.1 := by rw [hS3]; exact List.mem_append_left _ hL_st
  have hf50 : S1.2 st = .inr (7, [.int (nI sa)]) := (hfr4 st hL_st (ne_cells hf_st hf_cor1 (by nofun))).trans hf_st
  have hL51 : st ∈ S31.1 := by rw [hS35]; exact List.mem_append_left _ hL49
  have hf52 : S31.2 st = .inr (7, [.int (nI sa)]) := (hfr36 st hL49 (ne_cells hf50 hf28 (by nofun)) (ne_cells hf50 hf30 (by nofun))).trans hf50
  have hL53 : co ∈ S31.1 := by rw [hS35]; exact List.mem_append_left _ hL17
  have hf54 : S31.2 co = .inr (5, [.ref col, .ref con]) := (hfr36 co hL17 (ne_cells hf18 hf28 (by nofun)) (ne_cells hf18 hf30 (by nofun))).trans hf18
  have hL55 : col ∈ S31.1 := by rw [hS35]; exact List.mem_append_left _ hL19
  have hf56 : S31.2 col = aQ (cy 2) 5 (va_up (va_up (va_up (va_up (va_up (fun _ => none) 0 (some cor0)) 1 (some cor1)) 2 (some cor2)) 3 (some cor3)) 4 (some cor4)) := (hfr36 col hL19 (ne_cells hf20 hf28 (by nofun)) (ne_cells hf20 hf30 ne_QN)).trans hf20
  have hL57 : ca ∈ S31.1 := by rw [hS35]; exact List.mem_append_left _ hL21
  have hf58 : S31.2 ca = .inr (5, [.ref cal, .ref can]) := (hfr36 ca hL21 (ne_cells hf22 hf28 (by nofun)) (ne_cells hf22 hf30 (by nofun))).trans hf22
  have hL59 : cal ∈ S31.1 := by rw [hS35]; exact List.mem_append_left _ hL23
  have hf60 : S31.2 cal = aQ (cy 2) 5 (va_up (va_up (va_up (va_up (va_up (fun _ => none) 0 (some car0)) 1 (some car1)) 2 (some car2)) 3 (some car3)) 4 (some car4)) := (hfr36 cal hL23 (ne_cells hf24 hf28 (by nofun)) (ne_cells hf24 hf30 ne_QN)).trans hf24
  have hL61 : cor0 ∈ S1.1 := by rw [hS3]; exact List.mem_append_left _ hL_cor0
  have hf62 : S1.2 cor0 = .inr (8, [.ref cob0, .int (nI 0)]) := (hfr4 cor0 hL_cor0 hne_cor0_cor1).trans hf_cor0
  have hL63 : cor0 ∈ S31.1 := by rw [hS35]; exact List.mem_append_left _ hL61
  have hf64 : S31.2 cor0 = .inr (8, [.ref cob0, .int (nI 0)]) := (hfr36 cor0 hL61 hne_cor0_car1 (ne_cells hf62 hf30 (by nofun))).trans hf62
  have hL65 : car0 ∈ S1.1 := by rw [hS3]; exact List.mem_append_left _ hL_car0
  have hf66 : S1.2 car0 = .inr (8, [.ref cab0, .int (nI 0)]) := (hfr4 car0 hL_car0 hne_car0_cor1).trans hf_car0
  have hL67 : car0 ∈ S31.1 := by rw [hS35]; exact List.mem_append_left _ hL65
  have hf68 : S31.2 car0 = .inr (8, [.ref cab0, .int (nI 0)]) := (hfr36 car0 hL65 hne_car0_car1 (ne_cells hf66 hf30 (by nofun))).trans hf66
  have hL69 : cab0 ∈ S1.1 := by rw [hS3]; exact List.mem_append_left _ hL_cab0
  have hf70 : S1.2 cab0 = aN (cy 0) 32 (fun _ => 0) := (hfr4 cab0 hL_cab0 (ne_cells hf_cab0 hf_cor1 (by nofun))).trans hf_cab0
  have hL71 : cab0 ∈ S31.1 := by rw [hS35]; exact List.mem_append_left _ hL69
  have hf72 : S31.2 cab0 = aN (cy 0) 32 (fun _ => 0) := (hfr36 cab0 hL69 (ne_cells hf70 hf28 (by nofun)) hne_cab0_cab1).trans hf70
  refine p_callv (va_runV (As := [.ref ca, .ref co]) (rest := []) C.fix (e_X1_decode1rep l D cy S31 H.size ch ca co lk st col con cal can cor0 cob0 car0 cab0 car1 lq (va_up (va_up (va_up (va_up (va_up (fun _ => none) 0 (some cor0)) 1 (some cor1)) 2 (some cor2)) 3 (some cor3)) 4 (some cor4)) (va_up (va_up (va_up (va_up (va_up (fun _ => none) 0 (some car0)) 1 (some car1)) 2 (some car2)) 3 (some car3)) 4 (some car4)) 0 (fun _ => 0) sa hL43 hf44 hL47 hf48 hL51 hf52 hL53 hf54 hL55 hf56 hL57 hf58 hL59 hf60 hL63 hf64 hL67 hf68 hL71 hf72 (by first | assumption | rfl | simp [va_up]) (by first | assumption | rfl | simp [va_up]) (by first | assumption | rfl | simp [va_up]) (by first | assumption | rfl | simp [va_up])) (cwV 2 C.2.2.2.2.1 (gU_V mw_299 mw_300 mw_301 mw_16 (subU mw_302)) rfl rfl rfl hde_X11_settle1rep_V_2 ⟨Nat.le_of_ble_eq_true rfl, Nat.le_of_ble_eq_true rfl⟩) (p_preV C hw hL43 hf44 rfl) rfl rfl hl.1 rfl (lv_room (Nat.le_of_ble_eq_true rfl)) dX11_settle_35 ⟨Nat.le_of_ble_eq_true rfl, Nat.le_of_ble_eq_true rfl⟩) hw hA (fun S73 H locs hpost hw => ?_)
  obtain ⟨hS75, hfr76⟩ := hpost
  have hL77 : cor1 ∈ S31.1 := by rw [hS35]; exact List.mem_append_left _ hL6
  have hf78 : S31.2 cor1 = .inr (8, [.ref cob1, .int (nI 0)]) := (hfr36 cor1 hL6 (Ne.symm hne_car1_cor1) (ne_cells hf5 hf30 (by nofun))).trans hf5
  have hL79 : cor1 ∈ S73.1 := by rw [hS75]; exact List.mem_append_left _ hL77
  have hf80 : S73.2 cor1 = .inr (8, [.ref cob1, .int (nI 0)]) := (hfr76 cor1 hL77 (Ne.symm hne_car0_cor1)).trans hf78
  exact (p_vret C hw (⟨(by simp only [hS75, hS35, hS3, pup, pnew, List.append_nil, List.append_assoc, List.cons_append, List.nil_append]), (fun a_ ha_ hn_0 hn_1 hn_2 hn_3 => ((hfr76 a_ (show a_ ∈ S31.1 from by rw [hS35]; exact List.mem_append_left _ (show a_ ∈ S1.1 from by rw [hS3]; exact List.mem_append_left _ ha_)) hn_3).trans ((hfr36 a_ (show a_ ∈ S1.1 from by rw [hS3]; exact List.mem_append_left _ ha_) hn_1 hn_2).trans (hfr4 a_ ha_ hn_0)))), hf80⟩) hr hlocks dX11_settle_38)

theorem hde_X11_putBehindrep_V_0 : yX1_count.cls = RX1 ∧ yX1_count.cls ≠ "java/lang/invoke/MethodHandle" ∧ yX1_count.cls ≠ "java/lang/invoke/VarHandle" ∧ (parseMethodDescriptor yX1_count.desc).map (fun d => d.parameters.length) = some 0 := by decide +kernel
theorem hde_X11_putBehindrep_V_1 : yX11_last.cls = RX11 ∧ yX11_last.cls ≠ "java/lang/invoke/MethodHandle" ∧ yX11_last.cls ≠ "java/lang/invoke/VarHandle" ∧ (parseMethodDescriptor yX11_last.desc).map (fun d => d.parameters.length) = some 1 := by decide +kernel
theorem hde_X11_putBehindrep_V_2 : yX7_size.cls = RX7 ∧ yX7_size.cls ≠ "java/lang/invoke/MethodHandle" ∧ yX7_size.cls ≠ "java/lang/invoke/VarHandle" ∧ (parseMethodDescriptor yX7_size.desc).map (fun d => d.parameters.length) = some 0 := by decide +kernel
theorem hdue_X11_putBehindrep_3 : "SoundingLine$Stage" ≠ "java/lang/invoke/MethodHandle" ∧ "SoundingLine$Stage" ≠ "java/lang/invoke/VarHandle" ∧ (parseMethodDescriptor "(I)I").map (fun d => d.parameters.length) = some 1 := by decide +kernel
theorem hde_X11_putBehindrep_V_4 : yX1_append.cls = RX1 ∧ yX1_append.cls ≠ "java/lang/invoke/MethodHandle" ∧ yX1_append.cls ≠ "java/lang/invoke/VarHandle" ∧ (parseMethodDescriptor yX1_append.desc).map (fun d => d.parameters.length) = some 1 := by decide +kernel
theorem hde_X11_putBehindrep_V_5 : yX11_settle.cls = RX11 ∧ yX11_settle.cls ≠ "java/lang/invoke/MethodHandle" ∧ yX11_settle.cls ≠ "java/lang/invoke/VarHandle" ∧ (parseMethodDescriptor yX11_settle.desc).map (fun d => d.parameters.length) = some 0 := by decide +kernel
set_option maxHeartbeats 4000000 in
set_option maxRecDepth 100000 in
theorem e_X11_putBehindrep (l : Launch) (D : va_G) (cy : Nat → ClassId) (S : pS) (sz : Nat) (x : Nat) (st : Nat) (ch : Nat) (ln : Nat) (sl : Nat) (mk : Nat) (co : Nat) (ca : Nat) (su : Nat) (lt : Nat) (lk : Nat) (mb : Nat) (col : Nat) (con : Nat) (cor0 : Nat) (cor1 : Nat) (cor2 : Nat) (cor3 : Nat) (cor4 : Nat) (cob0 : Nat) (cob1 : Nat) (cal : Nat) (can : Nat) (car0 : Nat) (car1 : Nat) (car2 : Nat) (car3 : Nat) (car4 : Nat) (cab0 : Nat) (cab1 : Nat) (sa : Nat) (hL_x : x ∈ S.1) (hf_x : S.2 x = .inr (11, [.ref ch, .ref ln, .ref sl, .ref mk, .ref co, .ref ca, .ref su, .ref lt])) (hL_ch : ch ∈ S.1) (hf_ch : S.2 ch = .inr (2, [.ref lk, .int (nI 0)])) (hL_lk : lk ∈ S.1) (hf_lk : S.2 lk = aQ (cy 3) 4 (fun _ => none)) (hL_ln : ln ∈ S.1) (hf_ln : S.2 ln = .inr (6, [.int (nI 0), .int (nI 0), .int (nI 0), .int (nI 0)])) (hL_mk : mk ∈ S.1) (hf_mk : S.2 mk = .inr (8, [.ref mb, .int (nI 320)])) (hL_mb : mb ∈ S.1) (hf_mb : S.2 mb = aN (cy 0) 320 (fun _ => 0)) (hL_co : co ∈ S.1) (hf_co : S.2 co = .inr (5, [.ref col, .ref con])) (hL_col : col ∈ S.1) (hf_col : S.2 col = aQ (cy 2) 5 (va_up (va_up (va_up (va_up (va_up (fun _ => none) 0 (some cor0)) 1 (some cor1)) 2 (some cor2)) 3 (some cor3)) 4 (some cor4))) (hL_cor0 : cor0 ∈ S.1) (hf_cor0 : S.2 cor0 = .inr (8, [.ref cob0, .int (nI 0)])) (hL_cor1 : cor1 ∈ S.1) (hf_cor1 : S.2 cor1 = .inr (8, [.ref cob1, .int (nI 0)])) (hL_cob1 : cob1 ∈ S.1) (hf_cob1 : S.2 cob1 = aN (cy 0) 320 (fun _ => 0)) (hL_ca : ca ∈ S.1) (hf_ca : S.2 ca = .inr (5, [.ref cal, .ref can])) (hL_cal : cal ∈ S.1) (hf_cal : S.2 cal = aQ (cy 2) 5 (va_up (va_up (va_up (va_up (va_up (fun _ => none) 0 (some car0)) 1 (some car1)) 2 (some car2)) 3 (some car3)) 4 (some car4))) (hL_car0 : car0 ∈ S.1) (hf_car0 : S.2 car0 = .inr (8, [.ref cab0, .int (nI 0)])) (hL_cab0 : cab0 ∈ S.1) (hf_cab0 : S.2 cab0 = aN (cy 0) 32 (fun _ => 0)) (hL_car1 : car1 ∈ S.1) (hf_car1 : S.2 car1 = .inr (8, [.ref cab1, .int (nI 0)])) (hL_cab1 : cab1 ∈ S.1) (hf_cab1 : S.2 cab1 = aN (cy 0) 320 (fun _ => 0)) (hL_st : st ∈ S.1) (hf_st : S.2 st = .inr (7, [.int (nI sa)])) (hne_col_lk : col ≠ lk) (hne_cal_lk : cal ≠ lk) (hne_cor0_cor1 : cor0 ≠ cor1) (hne_mk_cor1 : mk ≠ cor1) (hne_car1_cor1 : car1 ≠ cor1) (hne_cob1_cab1 : cob1 ≠ cab1) (hne_mk_car1 : mk ≠ car1) (hne_mb_cab1 : mb ≠ cab1) (hne_cor0_car1 : cor0 ≠ car1) (hne_car0_cor1 : car0 ≠ cor1) (hne_car0_car1 : car0 ≠ car1) (hne_cab0_cab1 : cab0 ≠ cab1) : Met l yX11_putBehind (Cond.code yX11_putBehind cX11_putBehind 2 (some .int) :: lwU) ({ frames := 6, cells := 0, slots := 0, locals := 131 }) (pPc D cy S sz [.ref x, .ref st]) (pQi D cy S sz (fun r S' => r = (nI 0) ∧ S'.1 = S.1 ++ [] ∧ (∀ a_, a_ ∈ S.1 → a_ ≠ lk → a_ ≠ ch → a_ ≠ cor1 → a_ ≠ car1 → a_ ≠ cab1 → a_ ≠ car0 → S'.2 a_ = S.2 a_))) 0 0 (pA S sz) := by
  refine Met.ofW (cc := cX11_putBehind) (maxL := 2) (ret := (some .int)) (by decide) rfl ?_
  intro p e s m args below meth c s₁ B hml hv
  obtain ⟨rfl, rfl, C, hw, hA, hr, hlocks⟩ := p_start B hml hv
  have hx := C.1
  have hb := C.2.1
  have hl := lv_entry ([.ref x, .ref st]) (n := 2) (Nat.le_of_ble_eq_true rfl)
  rw [lg_entry_eq]
  generalize (lg_sl ([.ref x, .ref st]) ++ List.replicate (2 - (lg_sl ([.ref x, .ref st])).length) Slot.unset).toArray = ls at hl ⊢
  have hl : lv_has ls 2 [(0, .ref x), (1, .ref st)] := hl
  have hin_RX11 : ∀ w ∈ u_ws RX11 TX11 8, w ∈ (Cond.code yX11_putBehind cX11_putBehind 2 (some .int) :: lwU) := fun w h => mU (sub_RX11 w h)
  refine lv_aload_n hx hb dX11_putBehind_0 rfl (lv_at hl 0 rfl) ?_
  refine p_get C hw (ci := 11) (Cn := RX11) (T := TX11) (N := 8) hL_x hf_x rfl hin_RX11 0 (by decide) (mU mw_17) rfl rfl dX11_putBehind_1 ?_
  refine p_calli (va_runV (As := []) (rest := []) C.fix (c_X1_count l D cy S s.heap.size ch lk 0 hL_ch hf_ch) (cwV 0 C.2.2.2.2.1 (gU_V mw_260 mw_261 mw_262 mw_16 sub_X1_count) rfl rfl rfl hde_X11_putBehindrep_V_0 ⟨Nat.le_of_ble_eq_true rfl, Nat.le_of_ble_eq_true rfl⟩) (p_preV C hw hL_ch hf_ch rfl) rfl rfl hl.1 rfl (lv_room (Nat.le_of_ble_eq_true rfl)) dX11_putBehind_4 ⟨Nat.le_of_ble_eq_true rfl, Nat.le_of_ble_eq_true rfl⟩) hw hA (fun r2 S1 H locs hpost hw => ?_)
  obtain ⟨hr_, hS_⟩ := hpost
  subst hr_
  subst hS_
  refine lv_iconst (v := nI 4) hx hb dX11_putBehind_7 (by decide) ?_
  refine n_icmp_lt (tgt := 22) hx hb (by first | decide | omega) (by first | decide | omega) dX11_putBehind_8 (by decide) (fun h_8 => ?_) (fun h_8 => ?_)
  · skip
    refine lv_aload_n hx hb dX11_putBehind_22 rfl (lv_at hl 1 rfl) ?_
    refine lv_aload_n hx hb dX11_putBehind_23 rfl (lv_at hl 0 rfl) ?_
    refine lv_aload_n hx hb dX11_putBehind_24 rfl (lv_at hl 0 rfl) ?_
    refine p_get C hw (ci := 11) (Cn := RX11) (T := TX11) (N := 8) hL_x hf_x rfl hin_RX11 4 (by decide) (mU mw_30) rfl rfl dX11_putBehind_25 ?_
    refine p_callq (va_runV (As := [.ref co]) (rest := [.ref st]) C.fix (e_X11_last0 l D cy S H.size x co ch ln sl mk co ca su lt lk col con (va_up (va_up (va_up (va_up (va_up (fun _ => none) 0 (some cor0)) 1 (some cor1)) 2 (some cor2)) 3 (some cor3)) 4 (some cor4)) cor0 hL_x hf_x hL_ch hf_ch hL_co hf_co hL_col hf_col (by first | assumption | rfl | simp [va_up])) (cwV 1 C.2.2.2.2.1 (gU_V mw_256 mw_257 mw_258 mw_2 (subU mw_259)) rfl rfl rfl hde_X11_putBehindrep_V_1 ⟨Nat.le_of_ble_eq_true rfl, Nat.le_of_ble_eq_true rfl⟩) (p_preV C hw hL_x hf_x rfl) rfl rfl hl.1 rfl (lv_room (Nat.le_of_ble_eq_true rfl)) dX11_putBehind_28 ⟨Nat.le_of_ble_eq_true rfl, Nat.le_of_ble_eq_true rfl⟩) hw hA (fun r4 S3 H locs hpost hw => ?_)
    obtain ⟨hr_, hS_⟩ := hpost
    subst hr_
    subst hS_
    refine p_calli (va_runV (As := []) (rest := [.ref st]) C.fix (c_X7_size l D cy S H.size cor0 cob0 0 hL_cor0 hf_cor0) (cwV 0 C.2.2.2.2.1 (gU_V mw_130 mw_131 mw_132 mw_25 sub_X7_size) rfl rfl rfl hde_X11_putBehindrep_V_2 ⟨Nat.le_of_ble_eq_true rfl, Nat.le_of_ble_eq_true rfl⟩) (p_preV C hw hL_cor0 hf_cor0 rfl) rfl rfl hl.1 rfl (lv_room (Nat.le_of_ble_eq_true rfl)) dX11_putBehind_31 ⟨Nat.le_of_ble_eq_true rfl, Nat.le_of_ble_eq_true rfl⟩) hw hA (fun r6 S5 H locs hpost hw => ?_)
    obtain ⟨hr_, hS_⟩ := hpost
    subst hr_
    subst hS_
    refine p_calli (va_runU (x := ⟨"SoundingLine$Stage", "sizeOf", "(I)I"⟩) (As := [.int (nI 0)]) (rest := []) C.fix (e_X6_sizeOf0 l D cy S H.size st sa hL_st hf_st ) (va_cwA 1 C.2.2.2.2.1 (gU_U mw_580 mw_143 mw_158 mw_159 mw_160 (subU mw_161)) rfl rfl rfl (C.dcl 0 _ rfl) hdue_X11_putBehindrep_3 ⟨Nat.le_of_ble_eq_true rfl, Nat.le_of_ble_eq_true rfl⟩) (p_preV C hw hL_st hf_st rfl) rfl rfl hl.1 rfl (lv_room (Nat.le_of_ble_eq_true rfl)) dX11_putBehind_34 ⟨Nat.le_of_ble_eq_true rfl, Nat.le_of_ble_eq_true rfl⟩) hw hA (fun r8 S7 H locs hpost hw => ?_)
    obtain ⟨hr_, hS_⟩ := hpost
    subst hr_
    subst hS_
    refine lv_sipush (v := nI 320) hx hb dX11_putBehind_37 (by decide) ?_
    refine n_icmp_le (tgt := 53) hx hb (by first | decide | omega) (by first | decide | omega) dX11_putBehind_40 (by decide) (fun h_40 => ?_) (fun h_40 => ?_)
    · skip
      refine lv_aload_n hx hb dX11_putBehind_53 rfl (lv_at hl 0 rfl) ?_
      refine p_get C hw (ci := 11) (Cn := RX11) (T := TX11) (N := 8) hL_x hf_x rfl hin_RX11 0 (by decide) (mU mw_17) rfl rfl dX11_putBehind_54 ?_
      refine lv_aload_n hx hb dX11_putBehind_57 rfl (lv_at hl 1 rfl) ?_
      refine p_callv (va_runV (As := [.ref st]) (rest := []) C.fix (c_X1_append l D cy S H.size ch lk 0 st 7 2 1 (fun _ => none) RX6 TX6 ([.int (nI sa)]) hL_ch hf_ch hL_lk hf_lk (by first | assumption | decide | omega) hL_st hf_st rfl rfl) (cwV 1 C.2.2.2.2.1 (gU_V mw_581 mw_582 mw_583 mw_16 sub_X1_append) rfl rfl rfl hde_X11_putBehindrep_V_4 ⟨Nat.le_of_ble_eq_true rfl, Nat.le_of_ble_eq_true rfl⟩) (p_preV C hw hL_ch hf_ch rfl) rfl rfl hl.1 rfl (lv_room (Nat.le_of_ble_eq_true rfl)) dX11_putBehind_58 ⟨Nat.le_of_ble_eq_true rfl, Nat.le_of_ble_eq_true rfl⟩) hw hA (fun S9 H locs hpost hw => ?_)
      have hS_ := hpost
      obtain ⟨S11, hS11⟩ : ∃ z, z = pup S lk (aQ (cy 3) 4 (va_up (fun _ => none) 0 (some st))) := ⟨_, rfl⟩
      rw [← hS11] at hS_
      have hL12 : lk ∈ S11.1 := by rw [hS11]; exact hL_lk
      have hf13 : S11.2 lk = aQ (cy 3) 4 (va_up (fun _ => none) 0 (some st)) := by rw [hS11]; exact pup_s
      try rw [show 0 + 1 = 1 from rfl] at hS_
      have hL14 : ch ∈ S11.1 := by rw [hS11]; exact hL_ch
      have hf15 : S11.2 ch = .inr (2, [.ref lk, .int (nI 0)]) := by rw [hS11]; exact (pup_n (ne_cells hf_ch hf_lk (by nofun))).trans hf_ch
      have hS16 := hS_
      have hL17 : ch ∈ S9.1 := by rw [hS16]; exact hL14
      have hf18 : S9.2 ch = .inr (2, [.ref lk, .int (nI 1)]) := by rw [hS16]; exact pup_s
      refine lv_aload_n hx hb dX11_putBehind_61 rfl (lv_at hl 0 rfl) ?_
      have hL19 : x ∈ S11.1 := by rw [hS11]; exact hL_x
      have hf20 : S11.2 x = .inr (11, [.ref ch, .ref ln, .ref sl, .ref mk, .ref co, .ref ca, .ref su, .ref lt]) := by rw [hS11]; exact (pup_n (ne_cells hf_x hf_lk (by nofun))).trans hf_x
      have hL21 : x ∈ S9.1 := by rw [hS16]; exact hL19
      have hf22 : S9.2 x = .inr (11, [.ref ch, .ref ln, .ref sl, .ref mk, .ref co, .ref ca, .ref su, .ref lt]) := by rw [hS16]; exact (pup_n (ne_cells hf20 hf15 (by nofun))).trans hf20
      have hL23 : lk ∈ S9.1 := by rw [hS16]; exact hL12
      have hf24 : S9.2 lk = aQ (cy 3) 4 (va_up (fun _ => none) 0 (some st)) := by rw [hS16]; exact (pup_n (ne_cells hf13 hf15 (by nofun))).trans hf13
      have hL25 : ln ∈ S11.1 := by rw [hS11]; exact hL_ln
      have hf26 : S11.2 ln = .inr (6, [.int (nI 0), .int (nI 0), .int (nI 0), .int (nI 0)]) := by rw [hS11]; exact (pup_n (ne_cells hf_ln hf_lk (by nofun))).trans hf_ln
      have hL27 : ln ∈ S9.1 := by rw [hS16]; exact hL25
      have hf28 : S9.2 ln = .inr (6, [.int (nI 0), .int (nI 0), .int (nI 0), .int (nI 0)]) := by rw [hS16]; exact (pup_n (ne_cells hf26 hf15 (by nofun))).trans hf26
      have hL29 : mk ∈ S11.1 := by rw [hS11]; exact hL_mk
      have hf30 : S11.2 mk = .inr (8, [.ref mb, .int (nI 320)]) := by rw [hS11]; exact (pup_n (ne_cells hf_mk hf_lk (by nofun))).trans hf_mk
      have hL31 : mk ∈ S9.1 := by rw [hS16]; exact hL29
      have hf32 : S9.2 mk = .inr (8, [.ref mb, .int (nI 320)]) := by rw [hS16]; exact (pup_n (ne_cells hf30 hf15 (by nofun))).trans hf30
      have hL33 : mb ∈ S11.1 := by rw [hS11]; exact hL_mb
      have hf34 : S11.2 mb = aN (cy 0) 320 (fun _ => 0) := by rw [hS11]; exact (pup_n (ne_cells hf_mb hf_lk ne_NQ)).trans hf_mb
      have hL35 : mb ∈ S9.1 := by rw [hS16]; exact hL33
      have hf36 : S9.2 mb = aN (cy 0) 320 (fun _ => 0) := by rw [hS16]; exact (pup_n (ne_cells hf34 hf15 (by nofun))).trans hf34
      have hL37 : co ∈ S11.1 := by rw [hS11]; exact hL_co
      have hf38 : S11.2 co = .inr (5, [.ref col, .ref con]) := by rw [hS11]; exact (pup_n (ne_cells hf_co hf_lk (by nofun))).trans hf_co
      have hL39 : co ∈ S9.1 := by rw [hS16]; exact hL37
      have hf40 : S9.2 co = .inr (5, [.ref col, .ref con]) := by rw [hS16]; exact (pup_n (ne_cells hf38 hf15 (by nofun))).trans hf38
      have hL41 : col ∈ S11.1 := by rw [hS11]; exact hL_col
      have hf42 : S11.2 col = aQ (cy 2) 5 (va_up (va_up (va_up (va_up (va_up (fun _ => none) 0 (some cor0)) 1 (some cor1)) 2 (some cor2)) 3 (some cor3)) 4 (some cor4)) := by rw [hS11]; exact (pup_n hne_col_lk).trans hf_col
      have hL43 : col ∈ S9.1 := by rw [hS16]; exact hL41
      have hf44 : S9.2 col = aQ (cy 2) 5 (va_up (va_up (va_up (va_up (va_up (fun _ => none) 0 (some cor0)) 1 (some cor1)) 2 (some cor2)) 3 (some cor3)) 4 (some cor4)) := by rw [hS16]; exact (pup_n (ne_cells hf42 hf15 (by nofun))).trans hf42
      have hL45 : cor0 ∈ S11.1 := by rw [hS11]; exact hL_cor0
      have hf46 : S11.2 cor0 = .inr (8, [.ref cob0, .int (nI 0)]) := by rw [hS11]; exact (pup_n (ne_cells hf_cor0 hf_lk (by nofun))).trans hf_cor0
      have hL47 : cor0 ∈ S9.1 := by rw [hS16]; exact hL45
      have hf48 : S9.2 cor0 = .inr (8, [.ref cob0, .int (nI 0)]) := by rw [hS16]; exact (pup_n (ne_cells hf46 hf15 (by nofun))).trans hf46
      have hL49 : cor1 ∈ S11.1 := by rw [hS11]; exact hL_cor1
      have hf50 : S11.2 cor1 = .inr (8, [.ref cob1, .int (nI 0)]) := by rw [hS11]; exact (pup_n (ne_cells hf_cor1 hf_lk (by nofun))).trans hf_cor1
      have hL51 : cor1 ∈ S9.1 := by rw [hS16]; exact hL49
      have hf52 : S9.2 cor1 = .inr (8, [.ref cob1, .int (nI 0)]) := by rw [hS16]; exact (pup_n (ne_cells hf50 hf15 (by nofun))).trans hf50
      have hL53 : cob1 ∈ S11.1 := by rw [hS11]; exact hL_cob1
      have hf54 : S11.2 cob1 = aN (cy 0) 320 (fun _ => 0) := by rw [hS11]; exact (pup_n (ne_cells hf_cob1 hf_lk ne_NQ)).trans hf_cob1
      have hL55 : cob1 ∈ S9.1 := by rw [hS16]; exact hL53
      have hf56 : S9.2 cob1 = aN (cy 0) 320 (fun _ => 0) := by rw [hS16]; exact (pup_n (ne_cells hf54 hf15 (by nofun))).trans hf54
      have hL57 : ca ∈ S11.1 := by rw [hS11]; exact hL_ca
      have hf58 : S11.2 ca = .inr (5, [.ref cal, .ref can]) := by rw [hS11]; exact (pup_n (ne_cells hf_ca hf_lk (by nofun))).trans hf_ca
      have hL59 : ca ∈ S9.1 := by rw [hS16]; exact hL57
      have hf60 : S9.2 ca = .inr (5, [.ref cal, .ref can]) := by rw [hS16]; exact (pup_n (ne_cells hf58 hf15 (by nofun))).trans hf58
      have hL61 : cal ∈ S11.1 := by rw [hS11]; exact hL_cal
      have hf62 : S11.2 cal = aQ (cy 2) 5 (va_up (va_up (va_up (va_up (va_up (fun _ => none) 0 (some car0)) 1 (some car1)) 2 (some car2)) 3 (some car3)) 4 (some car4)) := by rw [hS11]; exact (pup_n hne_cal_lk).trans hf_cal
      have hL63 : cal ∈ S9.1 := by rw [hS16]; exact hL61
      have hf64 : S9.2 cal = aQ (cy 2) 5 (va_up (va_up (va_up (va_up (va_up (fun _ => none) 0 (some car0)) 1 (some car1)) 2 (some car2)) 3 (some car3)) 4 (some car4)) := by rw [hS16]; exact (pup_n (ne_cells hf62 hf15 (by nofun))).trans hf62
      have hL65 : car0 ∈ S11.1 := by rw [hS11]; exact hL_car0
      have hf66 : S11.2 car0 = .inr (8, [.ref cab0, .int (nI 0)]) := by rw [hS11]; exact (pup_n (ne_cells hf_car0 hf_lk (by nofun))).trans hf_car0
      have hL67 : car0 ∈ S9.1 := by rw [hS16]; exact hL65
      have hf68 : S9.2 car0 = .inr (8, [.ref cab0, .int (nI 0)]) := by rw [hS16]; exact (pup_n (ne_cells hf66 hf15 (by nofun))).trans hf66
      have hL69 : cab0 ∈ S11.1 := by rw [hS11]; exact hL_cab0
      have hf70 : S11.2 cab0 = aN (cy 0) 32 (fun _ => 0) := by rw [hS11]; exact (pup_n (ne_cells hf_cab0 hf_lk ne_NQ)).trans hf_cab0
      have hL71 : cab0 ∈ S9.1 := by rw [hS16]; exact hL69
      have hf72 : S9.2 cab0 = aN (cy 0) 32 (fun _ => 0) := by rw [hS16]; exact (pup_n (ne_cells hf70 hf15 (by nofun))).trans hf70
      have hL73 : car1 ∈ S11.1 := by rw [hS11]; exact hL_car1
      have hf74 : S11.2 car1 = .inr (8, [.ref cab1, .int (nI 0)]) := by rw [hS11]; exact (pup_n (ne_cells hf_car1 hf_lk (by nofun))).trans hf_car1
      have hL75 : car1 ∈ S9.1 := by rw [hS16]; exact hL73
      have hf76 : S9.2 car1 = .inr (8, [.ref cab1, .int (nI 0)]) := by rw [hS16]; exact (pup_n (ne_cells hf74 hf15 (by nofun))).trans hf74
      have hL77 : cab1 ∈ S11.1 := by rw [hS11]; exact hL_cab1
      have hf78 : S11.2 cab1 = aN (cy 0) 320 (fun _ => 0) := by rw [hS11]; exact (pup_n (ne_cells hf_cab1 hf_lk ne_NQ)).trans hf_cab1
      have hL79 : cab1 ∈ S9.1 := by rw [hS16]; exact hL77
      have hf80 : S9.2 cab1 = aN (cy 0) 320 (fun _ => 0) := by rw [hS16]; exact (pup_n (ne_cells hf78 hf15 (by nofun))).trans hf78
      have hL81 : st ∈ S11.1 := by rw [hS11]; exact hL_st
      have hf82 : S11.2 st = .inr (7, [.int (nI sa)]) := by rw [hS11]; exact (pup_n (ne_cells hf_st hf_lk (by nofun))).trans hf_st
      have hL83 : st ∈ S9.1 := by rw [hS16]; exact hL81
      have hf84 : S9.2 st = .inr (7, [.int (nI sa)]) := by rw [hS16]; exact (pup_n (ne_cells hf82 hf15 (by nofun))).trans hf82
      refine p_callv (va_runV (As := []) (rest := []) C.fix (e_X11_settle1rep l D cy S9 H.size x ch ln sl mk co ca su lt lk mb col con cor0 cor1 cor2 cor3 cor4 cob0 cob1 cal can car0 car1 car2 car3 car4 cab0 cab1 st (va_up (fun _ => none) 0 (some st)) sa hL21 hf22 hL17 hf18 hL23 hf24 hL27 hf28 hL31 hf32 hL35 hf36 hL39 hf40 hL43 hf44 hL47 hf48 hL51 hf52 hL55 hf56 hL59 hf60 hL63 hf64 hL67 hf68 hL71 hf72 hL75 hf76 hL79 hf80 hL83 hf84 hne_cor0_cor1 hne_mk_cor1 hne_car1_cor1 hne_cob1_cab1 hne_mk_car1 hne_mb_cab1 hne_cor0_car1 hne_car0_cor1 hne_car0_car1 hne_cab0_cab1 (by first | assumption | rfl | simp [va_up])) (cwV 0 C.2.2.2.2.1 (gU_V mw_187 mw_188 mw_189 mw_2 (subU mw_190)) rfl rfl rfl hde_X11_putBehindrep_V_5 ⟨Nat.le_of_ble_eq_true rfl, Nat.le_of_ble_eq_true rfl⟩) (p_preV C hw hL21 hf22 rfl) rfl rfl hl.1 rfl (lv_room (Nat.le_of_ble_eq_true rfl)) dX11_putBehind_62 ⟨Nat.le_of_ble_eq_true rfl, Nat.le_of_ble_eq_true rfl⟩) hw hA (fun S85 H locs hpost hw => ?_)
      obtain ⟨hS87, hfr88, hf89⟩ := hpost
      have hL90 : cor1 ∈ S85.1 := by rw [hS87]; exact List.mem_append_left _ hL51
      refine lv_aload_n hx hb dX11_putBehind_65 rfl (lv_at hl 0 rfl) ?_
      refine lv_aload_n hx hb dX11_putBehind_66 rfl (lv_at hl 0 rfl) ?_
      have hL91 : x ∈ S85.1 := by rw [hS87]; exact List.mem_append_left _ hL21
      have hf92 : S85.2 x = .inr (11, [.ref ch, .ref ln, .ref sl, .ref mk, .ref co, .ref ca, .ref su, .ref lt]) := (hfr88 x hL21 (ne_cells hf22 hf52 (by nofun)) (ne_cells hf22 hf76 (by nofun)) (ne_cells hf22 hf80 (by nofun)) (ne_cells hf22 hf68 (by nofun))).trans hf22
      refine p_get C hw (ci := 11) (Cn := RX11) (T := TX11) (N := 8) hL91 hf92 rfl hin_RX11 4 (by decide) (mU mw_30) rfl rfl dX11_putBehind_67 ?_
      have hL93 : ch ∈ S85.1 := by rw [hS87]; exact List.mem_append_left _ hL17
      have hf94 : S85.2 ch = .inr (2, [.ref lk, .int (nI 1)]) := (hfr88 ch hL17 (ne_cells hf18 hf52 (by nofun)) (ne_cells hf18 hf76 (by nofun)) (ne_cells hf18 hf80 (by nofun)) (ne_cells hf18 hf68 (by nofun))).trans hf18
      have hL95 : co ∈ S85.1 := by rw [hS87]; exact List.mem_append_left _ hL39
      have hf96 : S85.2 co = .inr (5, [.ref col, .ref con]) := (hfr88 co hL39 (ne_cells hf40 hf52 (by nofun)) (ne_cells hf40 hf76 (by nofun)) (ne_cells hf40 hf80 (by nofun)) (ne_cells hf40 hf68 (by nofun))).trans hf40
      have hL97 : col ∈ S85.1 := by rw [hS87]; exact List.mem_append_left _ hL43
      have hf98 : S85.2 col = aQ (cy 2) 5 (va_up (va_up (va_up (va_up (va_up (fun _ => none) 0 (some cor0)) 1 (some cor1)) 2 (some cor2)) 3 (some cor3)) 4 (some cor4)) := (hfr88 col hL43 (ne_cells hf44 hf52 (by nofun)) (ne_cells hf44 hf76 (by nofun)) (ne_cells hf44 hf80 ne_QN) (ne_cells hf44 hf68 (by nofun))).trans hf44
      refine p_callq (va_runV (As := [.ref co]) (rest := []) C.fix (e_X11_last1 l D cy S85 H.size x co ch ln sl mk co ca su lt lk col con (va_up (va_up (va_up (va_up (va_up (fun _ => none) 0 (some cor0)) 1 (some cor1)) 2 (some cor2)) 3 (some cor3)) 4 (some cor4)) cor1 hL91 hf92 hL93 hf94 hL95 hf96 hL97 hf98 (by first | assumption | rfl | simp [va_up])) (cwV 1 C.2.2.2.2.1 (gU_V mw_256 mw_257 mw_258 mw_2 (subU mw_259)) rfl rfl rfl hde_X11_putBehindrep_V_1 ⟨Nat.le_of_ble_eq_true rfl, Nat.le_of_ble_eq_true rfl⟩) (p_preV C hw hL91 hf92 rfl) rfl rfl hl.1 rfl (lv_room (Nat.le_of_ble_eq_true rfl)) dX11_putBehind_70 ⟨Nat.le_of_ble_eq_true rfl, Nat.le_of_ble_eq_true rfl⟩) hw hA (fun r100 S99 H locs hpost hw => ?_)
      obtain ⟨hr_, hS_⟩ := hpost
      subst hr_
      subst hS_
      refine p_calli (va_runV (As := []) (rest := []) C.fix (c_X7_size l D cy S85 H.size cor1 cob1 0 hL90 hf89) (cwV 0 C.2.2.2.2.1 (gU_V mw_130 mw_131 mw_132 mw_25 sub_X7_size) rfl rfl rfl hde_X11_putBehindrep_V_2 ⟨Nat.le_of_ble_eq_true rfl, Nat.le_of_ble_eq_true rfl⟩) (p_preV C hw hL90 hf89 rfl) rfl rfl hl.1 rfl (lv_room (Nat.le_of_ble_eq_true rfl)) dX11_putBehind_73 ⟨Nat.le_of_ble_eq_true rfl, Nat.le_of_ble_eq_true rfl⟩) hw hA (fun r102 S101 H locs hpost hw => ?_)
      obtain ⟨hr_, hS_⟩ := hpost
      subst hr_
      subst hS_
      exact (p_iret C hw (⟨rfl, (by simp only [hS87, hS16, hS11, pup, pnew, List.append_nil, List.append_assoc, List.cons_append, List.nil_append]), (fun a_ ha_ hn_0 hn_1 hn_2 hn_3 hn_4 hn_5 => ((hfr88 a_ (show a_ ∈ S9.1 from by rw [hS16]; exact (show a_ ∈ S11.1 from by rw [hS11]; exact ha_)) hn_2 hn_3 hn_4 hn_5).trans ((show S9.2 a_ = S11.2 a_ from by rw [hS16]; exact pup_n hn_1).trans (show S11.2 a_ = S.2 a_ from by rw [hS11]; exact pup_n hn_0))))⟩) hr hlocks dX11_putBehind_76)
    · exact absurd h_40 (by first | decide | omega)
  · exact absurd h_8 (by first | decide | omega)

theorem hde_X0_sizeOf0_S_0 : yX11_blocksOf.cls ≠ "java/lang/invoke/MethodHandle" ∧ yX11_blocksOf.cls ≠ "java/lang/invoke/VarHandle" ∧ (parseMethodDescriptor yX11_blocksOf.desc).map (fun d => d.parameters.length) = some 2 := by decide +kernel
set_option maxHeartbeats 4000000 in
set_option maxRecDepth 100000 in
theorem e_X0_sizeOf0 (l : Launch) (D : va_G) (cy : Nat → ClassId) (S : pS) (sz : Nat) (st : Nat) (sw : Nat) (sa : Nat) (sb : Nat) (hL_st : st ∈ S.1) (hf_st : S.2 st = .inr (1, [.int (nI sa), .int (nI sb), .ref sw])) (hsa : sa < 2 ^ 31) : Met l yX0_sizeOf (Cond.code yX0_sizeOf cX0_sizeOf 2 (some .int) :: lwU) ({ frames := 1, cells := 0, slots := 0, locals := 21 }) (pPc D cy S sz [.ref st, .int (nI 0)]) (pQi D cy S sz (fun r S' => r = (nI 0) ∧ S = S')) 0 0 (pA S sz) := by
  refine Met.ofW (cc := cX0_sizeOf) (maxL := 2) (ret := (some .int)) (by decide) rfl ?_
  intro p e s m args below meth c s₁ B hml hv
  obtain ⟨rfl, rfl, C, hw, hA, hr, hlocks⟩ := p_start B hml hv
  have hx := C.1
  have hb := C.2.1
  have hl := lv_entry ([.ref st, .int (nI 0)]) (n := 2) (Nat.le_of_ble_eq_true rfl)
  rw [lg_entry_eq]
  generalize (lg_sl ([.ref st, .int (nI 0)]) ++ List.replicate (2 - (lg_sl ([.ref st, .int (nI 0)])).length) Slot.unset).toArray = ls at hl ⊢
  have hl : lv_has ls 2 [(0, .ref st), (1, .int (nI 0))] := hl
  have hin_RX0 : ∀ w ∈ u_ws RX0 TX0 3, w ∈ (Cond.code yX0_sizeOf cX0_sizeOf 2 (some .int) :: lwU) := fun w h => mU (sub_RX0 w h)
  refine lv_iload_n hx hb dX0_sizeOf_0 rfl (lv_at hl 1 rfl) ?_
  refine lv_aload_n hx hb dX0_sizeOf_1 rfl (lv_at hl 0 rfl) ?_
  refine p_get C hw (ci := 1) (Cn := RX0) (T := TX0) (N := 3) hL_st hf_st rfl hin_RX0 0 (by decide) (mU mw_148) rfl rfl dX0_sizeOf_2 ?_
  refine p_calli (va_runSN (As := [.int (nI 0), .int (nI sa)]) (rest := []) C.fix (e_X11_blocksOf0 l D cy S s.heap.size sa  (by first | assumption | decide | omega)) ⟨va_cnB 2 C.2.2.2.2.1 (gU_sub (subU mw_151)) rfl rfl rfl (show va_Nw (.methodLinkNest RX0 32 yX11_blocksOf "SoundingLine") s from C.nst 3 (RX0, 32, yX11_blocksOf) rfl) (C.2.2.2.2.1 (.initialized RX11) (mU mw_2)) hde_X0_sizeOf0_S_0 ⟨Nat.le_of_ble_eq_true rfl, Nat.le_of_ble_eq_true rfl⟩, C.2.2.2.2.1 (.static yX11_blocksOf) (mU mw_150), trivial⟩ (p_preS C hw) rfl rfl hl.1 rfl (lv_room (Nat.le_of_ble_eq_true rfl)) dX0_sizeOf_5 ⟨Nat.le_of_ble_eq_true rfl, Nat.le_of_ble_eq_true rfl⟩) hw hA (fun r2 S1 H locs hpost hw => ?_)
  obtain ⟨hr_, hS_⟩ := hpost
  subst hr_
  subst hS_
  refine lv_aload_n hx hb dX0_sizeOf_8 rfl (lv_at hl 0 rfl) ?_
  refine p_get C hw (ci := 1) (Cn := RX0) (T := TX0) (N := 3) hL_st hf_st rfl hin_RX0 1 (by decide) (mU mw_149) rfl rfl dX0_sizeOf_9 ?_
  refine n_imul hx hb dX0_sizeOf_12 ?_
  refine n_ren (b := 0) (by first | rfl | omega | simp) ?_
  exact (p_iret C hw (⟨rfl, rfl⟩) hr hlocks dX0_sizeOf_13)

theorem hde_X0_code0_V_0 : yX7_size.cls = RX7 ∧ yX7_size.cls ≠ "java/lang/invoke/MethodHandle" ∧ yX7_size.cls ≠ "java/lang/invoke/VarHandle" ∧ (parseMethodDescriptor yX7_size.desc).map (fun d => d.parameters.length) = some 0 := by decide +kernel
theorem hde_X0_code0_S_1 : yX11_blocksOf.cls ≠ "java/lang/invoke/MethodHandle" ∧ yX11_blocksOf.cls ≠ "java/lang/invoke/VarHandle" ∧ (parseMethodDescriptor yX11_blocksOf.desc).map (fun d => d.parameters.length) = some 2 := by decide +kernel
set_option maxHeartbeats 4000000 in
set_option maxRecDepth 100000 in
theorem e_X0_code0 (l : Launch) (D : va_G) (cy : Nat → ClassId) (S : pS) (sz : Nat) (st : Nat) (f : Nat) (o : Nat) (sw : Nat) (fb : Nat) (sa : Nat) (sb : Nat) (hL_st : st ∈ S.1) (hf_st : S.2 st = .inr (1, [.int (nI sa), .int (nI sb), .ref sw])) (hL_f : f ∈ S.1) (hf_f : S.2 f = .inr (8, [.ref fb, .int (nI 0)])) (hsa : sa < 2 ^ 31) : Met l yX0_code (Cond.code yX0_code cX0_code 6 none :: lwU) ({ frames := 1, cells := 0, slots := 0, locals := 21 }) (pPc D cy S sz [.ref st, .ref f, .ref o]) (pQv D cy S sz (fun S' => S = S')) 0 0 (pA S sz) := by
  refine Met.ofW (cc := cX0_code) (maxL := 6) (ret := none) (by decide) rfl ?_
  intro p e s m args below meth c s₁ B hml hv
  obtain ⟨rfl, rfl, C, hw, hA, hr, hlocks⟩ := p_start B hml hv
  have hx := C.1
  have hb := C.2.1
  have hl := lv_entry ([.ref st, .ref f, .ref o]) (n := 6) (Nat.le_of_ble_eq_true rfl)
  rw [lg_entry_eq]
  generalize (lg_sl ([.ref st, .ref f, .ref o]) ++ List.replicate (6 - (lg_sl ([.ref st, .ref f, .ref o])).length) Slot.unset).toArray = ls at hl ⊢
  have hl : lv_has ls 6 [(0, .ref st), (1, .ref f), (2, .ref o)] := hl
  have hin_RX0 : ∀ w ∈ u_ws RX0 TX0 3, w ∈ (Cond.code yX0_code cX0_code 6 none :: lwU) := fun w h => mU (sub_RX0 w h)
  refine lv_aload_n hx hb dX0_code_0 rfl (lv_at hl 1 rfl) ?_
  refine p_calli (va_runV (As := []) (rest := []) C.fix (c_X7_size l D cy S s.heap.size f fb 0 hL_f hf_f) (cwV 0 C.2.2.2.2.1 (gU_V mw_204 mw_131 mw_132 mw_25 sub_X7_size) rfl rfl rfl hde_X0_code0_V_0 ⟨Nat.le_of_ble_eq_true rfl, Nat.le_of_ble_eq_true rfl⟩) (p_preV C hw hL_f hf_f rfl) rfl rfl hl.1 rfl (lv_room (Nat.le_of_ble_eq_true rfl)) dX0_code_1 ⟨Nat.le_of_ble_eq_true rfl, Nat.le_of_ble_eq_true rfl⟩) hw hA (fun r2 S1 H locs hpost hw => ?_)
  obtain ⟨hr_, hS_⟩ := hpost
  subst hr_
  subst hS_
  refine lv_aload_n hx hb dX0_code_4 rfl (lv_at hl 0 rfl) ?_
  refine p_get C hw (ci := 1) (Cn := RX0) (T := TX0) (N := 3) hL_st hf_st rfl hin_RX0 0 (by decide) (mU mw_148) rfl rfl dX0_code_5 ?_
  refine p_calli (va_runSN (As := [.int (nI 0), .int (nI sa)]) (rest := []) C.fix (e_X11_blocksOf0 l D cy S H.size sa  (by first | assumption | decide | omega)) ⟨va_cnB 2 C.2.2.2.2.1 (gU_sub (subU mw_151)) rfl rfl rfl (show va_Nw (.methodLinkNest RX0 32 yX11_blocksOf "SoundingLine") s from C.nst 3 (RX0, 32, yX11_blocksOf) rfl) (C.2.2.2.2.1 (.initialized RX11) (mU mw_2)) hde_X0_code0_S_1 ⟨Nat.le_of_ble_eq_true rfl, Nat.le_of_ble_eq_true rfl⟩, C.2.2.2.2.1 (.static yX11_blocksOf) (mU mw_150), trivial⟩ (p_preS C hw) rfl rfl hl.1 rfl (lv_room (Nat.le_of_ble_eq_true rfl)) dX0_code_8 ⟨Nat.le_of_ble_eq_true rfl, Nat.le_of_ble_eq_true rfl⟩) hw hA (fun r4 S3 H locs hpost hw => ?_)
  obtain ⟨hr_, hS_⟩ := hpost
  subst hr_
  subst hS_
  refine lv_istore_n (lv' := [(3, .int (nI 0)), (0, .ref st), (1, .ref f), (2, .ref o)]) hx hb dX0_code_11 rfl hl (by decide) rfl (fun ls hl => ?_)
  refine lv_iconst (v := nI 0) hx hb dX0_code_12 (by decide) ?_
  refine lv_istore (lv' := [(4, .int (nI 0)), (3, .int (nI 0)), (0, .ref st), (1, .ref f), (2, .ref o)]) hx hb dX0_code_13 hl (by decide) rfl (fun ls hl => ?_)
  refine lv_iload hx hb dX0_code_15 (lv_at hl 0 rfl) ?_
  refine lv_iload_n hx hb dX0_code_17 rfl (lv_at hl 1 rfl) ?_
  refine n_icmp_ge (tgt := 68) hx hb (by first | decide | omega) (by first | decide | omega) dX0_code_18 (by decide) (fun h_18 => ?_) (fun h_18 => ?_)
  · skip
    exact (p_vret C hw (rfl) hr hlocks dX0_code_68)
  · exact absurd h_18 (by first | decide | omega)

theorem hde_X0_decode0_V_0 : yX7_size.cls = RX7 ∧ yX7_size.cls ≠ "java/lang/invoke/MethodHandle" ∧ yX7_size.cls ≠ "java/lang/invoke/VarHandle" ∧ (parseMethodDescriptor yX7_size.desc).map (fun d => d.parameters.length) = some 0 := by decide +kernel
theorem hde_X0_decode0_S_1 : yX11_blocksOf.cls ≠ "java/lang/invoke/MethodHandle" ∧ yX11_blocksOf.cls ≠ "java/lang/invoke/VarHandle" ∧ (parseMethodDescriptor yX11_blocksOf.desc).map (fun d => d.parameters.length) = some 2 := by decide +kernel
set_option maxHeartbeats 4000000 in
set_option maxRecDepth 100000 in
theorem e_X0_decode0 (l : Launch) (D : va_G) (cy : Nat → ClassId) (S : pS) (sz : Nat) (st : Nat) (f : Nat) (o : Nat) (sw : Nat) (obb : Nat) (sa : Nat) (sb : Nat) (hL_st : st ∈ S.1) (hf_st : S.2 st = .inr (1, [.int (nI sa), .int (nI sb), .ref sw])) (hL_o : o ∈ S.1) (hf_o : S.2 o = .inr (8, [.ref obb, .int (nI 0)])) (hsa : sa < 2 ^ 31) : Met l yX0_decode (Cond.code yX0_decode cX0_decode 7 none :: lwU) ({ frames := 1, cells := 0, slots := 0, locals := 21 }) (pPc D cy S sz [.ref st, .ref f, .ref o]) (pQv D cy S sz (fun S' => S = S')) 0 0 (pA S sz) := by
  refine Met.ofW (cc := cX0_decode) (maxL := 7) (ret := none) (by decide) rfl ?_
  intro p e s m args below meth c s₁ B hml hv
  obtain ⟨rfl, rfl, C, hw, hA, hr, hlocks⟩ := p_start B hml hv
  have hx := C.1
  have hb := C.2.1
  have hl := lv_entry ([.ref st, .ref f, .ref o]) (n := 7) (Nat.le_of_ble_eq_true rfl)
  rw [lg_entry_eq]
  generalize (lg_sl ([.ref st, .ref f, .ref o]) ++ List.replicate (7 - (lg_sl ([.ref st, .ref f, .ref o])).length) Slot.unset).toArray = ls at hl ⊢
  have hl : lv_has ls 7 [(0, .ref st), (1, .ref f), (2, .ref o)] := hl
  have hin_RX0 : ∀ w ∈ u_ws RX0 TX0 3, w ∈ (Cond.code yX0_decode cX0_decode 7 none :: lwU) := fun w h => mU (sub_RX0 w h)
  refine lv_aload_n hx hb dX0_decode_0 rfl (lv_at hl 2 rfl) ?_
  refine p_calli (va_runV (As := []) (rest := []) C.fix (c_X7_size l D cy S s.heap.size o obb 0 hL_o hf_o) (cwV 0 C.2.2.2.2.1 (gU_V mw_204 mw_131 mw_132 mw_25 sub_X7_size) rfl rfl rfl hde_X0_decode0_V_0 ⟨Nat.le_of_ble_eq_true rfl, Nat.le_of_ble_eq_true rfl⟩) (p_preV C hw hL_o hf_o rfl) rfl rfl hl.1 rfl (lv_room (Nat.le_of_ble_eq_true rfl)) dX0_decode_1 ⟨Nat.le_of_ble_eq_true rfl, Nat.le_of_ble_eq_true rfl⟩) hw hA (fun r2 S1 H locs hpost hw => ?_)
  obtain ⟨hr_, hS_⟩ := hpost
  subst hr_
  subst hS_
  refine lv_aload_n hx hb dX0_decode_4 rfl (lv_at hl 0 rfl) ?_
  refine p_get C hw (ci := 1) (Cn := RX0) (T := TX0) (N := 3) hL_st hf_st rfl hin_RX0 0 (by decide) (mU mw_148) rfl rfl dX0_decode_5 ?_
  refine p_calli (va_runSN (As := [.int (nI 0), .int (nI sa)]) (rest := []) C.fix (e_X11_blocksOf0 l D cy S H.size sa  (by first | assumption | decide | omega)) ⟨va_cnB 2 C.2.2.2.2.1 (gU_sub (subU mw_151)) rfl rfl rfl (show va_Nw (.methodLinkNest RX0 32 yX11_blocksOf "SoundingLine") s from C.nst 3 (RX0, 32, yX11_blocksOf) rfl) (C.2.2.2.2.1 (.initialized RX11) (mU mw_2)) hde_X0_decode0_S_1 ⟨Nat.le_of_ble_eq_true rfl, Nat.le_of_ble_eq_true rfl⟩, C.2.2.2.2.1 (.static yX11_blocksOf) (mU mw_150), trivial⟩ (p_preS C hw) rfl rfl hl.1 rfl (lv_room (Nat.le_of_ble_eq_true rfl)) dX0_decode_8 ⟨Nat.le_of_ble_eq_true rfl, Nat.le_of_ble_eq_true rfl⟩) hw hA (fun r4 S3 H locs hpost hw => ?_)
  obtain ⟨hr_, hS_⟩ := hpost
  subst hr_
  subst hS_
  refine lv_istore_n (lv' := [(3, .int (nI 0)), (0, .ref st), (1, .ref f), (2, .ref o)]) hx hb dX0_decode_11 rfl hl (by decide) rfl (fun ls hl => ?_)
  refine lv_iconst (v := nI 0) hx hb dX0_decode_12 (by decide) ?_
  refine lv_istore (lv' := [(4, .int (nI 0)), (3, .int (nI 0)), (0, .ref st), (1, .ref f), (2, .ref o)]) hx hb dX0_decode_13 hl (by decide) rfl (fun ls hl => ?_)
  refine lv_iload hx hb dX0_decode_15 (lv_at hl 0 rfl) ?_
  refine lv_iload_n hx hb dX0_decode_17 rfl (lv_at hl 1 rfl) ?_
  refine n_icmp_ge (tgt := 84) hx hb (by first | decide | omega) (by first | decide | omega) dX0_decode_18 (by decide) (fun h_18 => ?_) (fun h_18 => ?_)
  · skip
    exact (p_vret C hw (rfl) hr hlocks dX0_decode_84)
  · exact absurd h_18 (by first | decide | omega)

theorem hde_X1_code1blk_V_0 : yX1_stageAt.cls = RX1 ∧ yX1_stageAt.cls ≠ "java/lang/invoke/MethodHandle" ∧ yX1_stageAt.cls ≠ "java/lang/invoke/VarHandle" ∧ (parseMethodDescriptor yX1_stageAt.desc).map (fun d => d.parameters.length) = some 1 := by decide +kernel
theorem hde_X1_code1blk_V_1 : yX4_at.cls = RX4 ∧ yX4_at.cls ≠ "java/lang/invoke/MethodHandle" ∧ yX4_at.cls ≠ "java/lang/invoke/VarHandle" ∧ (parseMethodDescriptor yX4_at.desc).map (fun d => d.parameters.length) = some 1 := by decide +kernel
theorem hde_X1_code1blk_V_2 : yX7_size.cls = RX7 ∧ yX7_size.cls ≠ "java/lang/invoke/MethodHandle" ∧ yX7_size.cls ≠ "java/lang/invoke/VarHandle" ∧ (parseMethodDescriptor yX7_size.desc).map (fun d => d.parameters.length) = some 0 := by decide +kernel
theorem hdue_X1_code1blk_3 : "SoundingLine$Stage" ≠ "java/lang/invoke/MethodHandle" ∧ "SoundingLine$Stage" ≠ "java/lang/invoke/VarHandle" ∧ (parseMethodDescriptor "(I)I").map (fun d => d.parameters.length) = some 1 := by decide +kernel
theorem hde_X1_code1blk_V_4 : yX7_resize.cls = RX7 ∧ yX7_resize.cls ≠ "java/lang/invoke/MethodHandle" ∧ yX7_resize.cls ≠ "java/lang/invoke/VarHandle" ∧ (parseMethodDescriptor yX7_resize.desc).map (fun d => d.parameters.length) = some 1 := by decide +kernel
theorem hdue_X1_code1blk_5 : "SoundingLine$Stage" ≠ "java/lang/invoke/MethodHandle" ∧ "SoundingLine$Stage" ≠ "java/lang/invoke/VarHandle" ∧ (parseMethodDescriptor "(LSoundingLine$Row;LSoundingLine$Row;)V").map (fun d => d.parameters.length) = some 2 := by decide +kernel
set_option maxHeartbeats 4000000 in
set_option maxRecDepth 100000 in
theorem e_X1_code1blk (l : Launch) (D : va_G) (cy : Nat → ClassId) (S : pS) (sz : Nat) (ch : Nat) (co : Nat) (lk : Nat) (st : Nat) (sw : Nat) (col : Nat) (con : Nat) (c0 : Nat) (c0b : Nat) (c1 : Nat) (c1b : Nat) (lq : Nat → Option Nat) (cq : Nat → Option Nat) (n1 : Nat) (g1 : Nat → Nat) (sa : Nat) (sb : Nat) (hL_ch : ch ∈ S.1) (hf_ch : S.2 ch = .inr (2, [.ref lk, .int (nI 1)])) (hL_lk : lk ∈ S.1) (hf_lk : S.2 lk = aQ (cy 3) 4 lq) (hL_st : st ∈ S.1) (hf_st : S.2 st = .inr (1, [.int (nI sa), .int (nI sb), .ref sw])) (hL_co : co ∈ S.1) (hf_co : S.2 co = .inr (5, [.ref col, .ref con])) (hL_col : col ∈ S.1) (hf_col : S.2 col = aQ (cy 2) 5 cq) (hL_c0 : c0 ∈ S.1) (hf_c0 : S.2 c0 = .inr (8, [.ref c0b, .int (nI 0)])) (hL_c1 : c1 ∈ S.1) (hf_c1 : S.2 c1 = .inr (8, [.ref c1b, .int (nI n1)])) (hL_c1b : c1b ∈ S.1) (hf_c1b : S.2 c1b = aN (cy 0) 320 g1) (hne_c0_c1 : c0 ≠ c1) (hlq : lq 0 = some st) (hcq : cq 0 = some c0) (hcq1 : cq 1 = some c1) (hsa : sa < 2 ^ 31) : Met l yX1_code (Cond.code yX1_code cX1_code 6 none :: lwU) ({ frames := 2, cells := 0, slots := 0, locals := 46 }) (pPc D cy S sz [.ref ch, .ref co]) (pQv D cy S sz (fun S' => S'.1 = S.1 ++ [] ∧ (∀ a_, a_ ∈ S.1 → a_ ≠ c1 → S'.2 a_ = S.2 a_) ∧ S'.2 c1 = .inr (8, [.ref c1b, .int (nI 0)]))) 0 0 (pA S sz) := by
  refine Met.ofW (cc := cX1_code) (maxL := 6) (ret := none) (by decide) rfl ?_
  intro p e s m args below meth c s₁ B hml hv
  obtain ⟨rfl, rfl, C, hw, hA, hr, hlocks⟩ := p_start B hml hv
  have hx := C.1
  have hb := C.2.1
  have hl := lv_entry ([.ref ch, .ref co]) (n := 6) (Nat.le_of_ble_eq_true rfl)
  rw [lg_entry_eq]
  generalize (lg_sl ([.ref ch, .ref co]) ++ List.replicate (6 - (lg_sl ([.ref ch, .ref co])).length) Slot.unset).toArray = ls at hl ⊢
  have hl : lv_has ls 6 [(0, .ref ch), (1, .ref co)] := hl
  have hin_RX1 : ∀ w ∈ u_ws RX1 TX1 2, w ∈ (Cond.code yX1_code cX1_code 6 none :: lwU) := fun w h => mU (sub_RX1 w h)
  refine lv_iconst (v := nI 0) hx hb dX1_code_0 (by decide) ?_
  refine lv_istore_n (lv' := [(2, .int (nI 0)), (0, .ref ch), (1, .ref co)]) hx hb dX1_code_1 rfl hl (by decide) rfl (fun ls hl => ?_)
  refine lv_iload_n hx hb dX1_code_2 rfl (lv_at hl 0 rfl) ?_
  refine lv_aload_n hx hb dX1_code_3 rfl (lv_at hl 1 rfl) ?_
  refine p_get C hw (ci := 2) (Cn := RX1) (T := TX1) (N := 2) hL_ch hf_ch rfl hin_RX1 1 (by decide) (mU mw_42) rfl rfl dX1_code_4 ?_
  refine n_icmp_ge (tgt := 64) hx hb (by first | decide | omega) (by first | decide | omega) dX1_code_7 (by decide) (fun h_7 => ?_) (fun h_7 => ?_)
  · exact absurd h_7 (by first | decide | omega)
  · skip
    refine lv_aload_n hx hb dX1_code_10 rfl (lv_at hl 1 rfl) ?_
    refine lv_iload_n hx hb dX1_code_11 rfl (lv_at hl 0 rfl) ?_
    refine p_callq (va_runV (As := [.int (nI 0)]) (rest := []) C.fix (e_X1_stageAt1 l D cy S s.heap.size ch lk lq st hL_ch hf_ch hL_lk hf_lk (by first | assumption | rfl | simp [va_up])) (cwV 1 C.2.2.2.2.1 (gU_V mw_138 mw_139 mw_140 mw_16 (subU mw_141)) rfl rfl rfl hde_X1_code1blk_V_0 ⟨Nat.le_of_ble_eq_true rfl, Nat.le_of_ble_eq_true rfl⟩) (p_preV C hw hL_ch hf_ch rfl) rfl rfl hl.1 rfl (lv_room (Nat.le_of_ble_eq_true rfl)) dX1_code_12 ⟨Nat.le_of_ble_eq_true rfl, Nat.le_of_ble_eq_true rfl⟩) hw hA (fun r2 S1 H locs hpost hw => ?_)
    obtain ⟨hr_, hS_⟩ := hpost
    subst hr_
    subst hS_
    refine lv_astore_n (lv' := [(3, .ref st), (2, .int (nI 0)), (0, .ref ch), (1, .ref co)]) hx hb dX1_code_15 rfl hl (by decide) rfl (fun ls hl => ?_)
    refine lv_aload_n hx hb dX1_code_16 rfl (lv_at hl 0 rfl) ?_
    refine lv_ifnull hx hb dX1_code_17 ?_
    refine lv_aload_n hx hb dX1_code_20 rfl (lv_at hl 3 rfl) ?_
    refine lv_iload_n hx hb dX1_code_21 rfl (lv_at hl 1 rfl) ?_
    refine p_callq (va_runV (As := [.int (nI 0)]) (rest := []) C.fix (c_X4_at l D cy S H.size co col con 0 c0 cq hL_co hf_co hL_col hf_col (by first | assumption | decide | omega) (by first | assumption | rfl | simp [va_up])) (cwV 1 C.2.2.2.2.1 (gU_V mw_195 mw_127 mw_128 mw_29 sub_X4_at) rfl rfl rfl hde_X1_code1blk_V_1 ⟨Nat.le_of_ble_eq_true rfl, Nat.le_of_ble_eq_true rfl⟩) (p_preV C hw hL_co hf_co rfl) rfl rfl hl.1 rfl (lv_room (Nat.le_of_ble_eq_true rfl)) dX1_code_22 ⟨Nat.le_of_ble_eq_true rfl, Nat.le_of_ble_eq_true rfl⟩) hw hA (fun r4 S3 H locs hpost hw => ?_)
    obtain ⟨hr_, hS_⟩ := hpost
    subst hr_
    subst hS_
    refine lv_astore (lv' := [(4, .ref c0), (3, .ref st), (2, .int (nI 0)), (0, .ref ch), (1, .ref co)]) hx hb dX1_code_25 hl (by decide) rfl (fun ls hl => ?_)
    refine lv_aload_n hx hb dX1_code_27 rfl (lv_at hl 4 rfl) ?_
    refine lv_iload_n hx hb dX1_code_28 rfl (lv_at hl 2 rfl) ?_
    refine lv_iconst (v := nI 1) hx hb dX1_code_29 (by decide) ?_
    refine n_iadd hx hb dX1_code_30 ?_
    refine n_ren (b := 1) (by first | rfl | omega | simp) ?_
    refine p_callq (va_runV (As := [.int (nI 1)]) (rest := []) C.fix (c_X4_at l D cy S H.size co col con 1 c1 cq hL_co hf_co hL_col hf_col (by first | assumption | decide | omega) (by first | assumption | rfl | simp [va_up])) (cwV 1 C.2.2.2.2.1 (gU_V mw_195 mw_127 mw_128 mw_29 sub_X4_at) rfl rfl rfl hde_X1_code1blk_V_1 ⟨Nat.le_of_ble_eq_true rfl, Nat.le_of_ble_eq_true rfl⟩) (p_preV C hw hL_co hf_co rfl) rfl rfl hl.1 rfl (lv_room (Nat.le_of_ble_eq_true rfl)) dX1_code_31 ⟨Nat.le_of_ble_eq_true rfl, Nat.le_of_ble_eq_true rfl⟩) hw hA (fun r6 S5 H locs hpost hw => ?_)
    obtain ⟨hr_, hS_⟩ := hpost
    subst hr_
    subst hS_
    refine lv_astore (lv' := [(5, .ref c1), (4, .ref c0), (3, .ref st), (2, .int (nI 0)), (0, .ref ch), (1, .ref co)]) hx hb dX1_code_34 hl (by decide) rfl (fun ls hl => ?_)
    refine lv_aload hx hb dX1_code_36 (lv_at hl 0 rfl) ?_
    refine lv_aload_n hx hb dX1_code_38 rfl (lv_at hl 2 rfl) ?_
    refine lv_aload hx hb dX1_code_39 (lv_at hl 1 rfl) ?_
    refine p_calli (va_runV (As := []) (rest := [.ref st, .ref c1]) C.fix (c_X7_size l D cy S H.size c0 c0b 0 hL_c0 hf_c0) (cwV 0 C.2.2.2.2.1 (gU_V mw_196 mw_131 mw_132 mw_25 sub_X7_size) rfl rfl rfl hde_X1_code1blk_V_2 ⟨Nat.le_of_ble_eq_true rfl, Nat.le_of_ble_eq_true rfl⟩) (p_preV C hw hL_c0 hf_c0 rfl) rfl rfl hl.1 rfl (lv_room (Nat.le_of_ble_eq_true rfl)) dX1_code_41 ⟨Nat.le_of_ble_eq_true rfl, Nat.le_of_ble_eq_true rfl⟩) hw hA (fun r8 S7 H locs hpost hw => ?_)
    obtain ⟨hr_, hS_⟩ := hpost
    subst hr_
    subst hS_
    refine p_calli (va_runU (x := ⟨"SoundingLine$Stage", "sizeOf", "(I)I"⟩) (As := [.int (nI 0)]) (rest := [.ref c1]) C.fix (e_X0_sizeOf0 l D cy S H.size st sw sa sb hL_st hf_st (by first | assumption | decide | omega)) (va_cwA 1 C.2.2.2.2.1 (gU_U mw_142 mw_143 mw_144 mw_145 mw_146 (subU mw_147)) rfl rfl rfl (C.dcl 0 _ rfl) hdue_X1_code1blk_3 ⟨Nat.le_of_ble_eq_true rfl, Nat.le_of_ble_eq_true rfl⟩) (p_preV C hw hL_st hf_st rfl) rfl rfl hl.1 rfl (lv_room (Nat.le_of_ble_eq_true rfl)) dX1_code_44 ⟨Nat.le_of_ble_eq_true rfl, Nat.le_of_ble_eq_true rfl⟩) hw hA (fun r10 S9 H locs hpost hw => ?_)
    obtain ⟨hr_, hS_⟩ := hpost
    subst hr_
    subst hS_
    refine p_callv (va_runV (As := [.int (nI 0)]) (rest := []) C.fix (c_X7_resize l D cy S H.size c1 c1b 320 n1 0 g1 hL_c1 hf_c1 hL_c1b hf_c1b (by first | assumption | decide | omega) (by first | assumption | decide | omega)) (cwV 1 C.2.2.2.2.1 (gU_V mw_197 mw_62 mw_63 mw_25 sub_X7_resize) rfl rfl rfl hde_X1_code1blk_V_4 ⟨Nat.le_of_ble_eq_true rfl, Nat.le_of_ble_eq_true rfl⟩) (p_preV C hw hL_c1 hf_c1 rfl) rfl rfl hl.1 rfl (lv_room (Nat.le_of_ble_eq_true rfl)) dX1_code_47 ⟨Nat.le_of_ble_eq_true rfl, Nat.le_of_ble_eq_true rfl⟩) hw hA (fun S11 H locs hpost hw => ?_)
    have hS_ := hpost
    try rw [show min 0 320 = 0 from rfl] at hS_
    have hS13 := hS_
    have hL14 : c1 ∈ S11.1 := by rw [hS13]; exact hL_c1
    have hf15 : S11.2 c1 = .inr (8, [.ref c1b, .int (nI 0)]) := by rw [hS13]; exact pup_s
    refine lv_aload_n hx hb dX1_code_50 rfl (lv_at hl 2 rfl) ?_
    refine lv_aload hx hb dX1_code_51 (lv_at hl 1 rfl) ?_
    refine lv_aload hx hb dX1_code_53 (lv_at hl 0 rfl) ?_
    have hL16 : st ∈ S11.1 := by rw [hS13]; exact hL_st
    have hf17 : S11.2 st = .inr (1, [.int (nI sa), .int (nI sb), .ref sw]) := by rw [hS13]; exact (pup_n (ne_cells hf_st hf_c1 (by nofun))).trans hf_st
    have hL18 : c0 ∈ S11.1 := by rw [hS13]; exact hL_c0
    have hf19 : S11.2 c0 = .inr (8, [.ref c0b, .int (nI 0)]) := by rw [hS13]; exact (pup_n hne_c0_c1).trans hf_c0
    refine p_callv (va_runU (x := ⟨"SoundingLine$Stage", "code", "(LSoundingLine$Row;LSoundingLine$Row;)V"⟩) (As := [.ref c0, .ref c1]) (rest := []) C.fix (e_X0_code0 l D cy S11 H.size st c0 c1 sw c0b sa sb hL16 hf17 hL18 hf19 (by first | assumption | decide | omega)) (va_cwA 2 C.2.2.2.2.1 (gU_U mw_198 mw_199 mw_200 mw_201 mw_146 (subU mw_202)) rfl rfl rfl (C.dcl 1 _ rfl) hdue_X1_code1blk_5 ⟨Nat.le_of_ble_eq_true rfl, Nat.le_of_ble_eq_true rfl⟩) (p_preV C hw hL16 hf17 rfl) rfl rfl hl.1 rfl (lv_room (Nat.le_of_ble_eq_true rfl)) dX1_code_55 ⟨Nat.le_of_ble_eq_true rfl, Nat.le_of_ble_eq_true rfl⟩) hw hA (fun S20 H locs hpost hw => ?_)
    have hS_ := hpost
    subst hS_
    refine lv_iinc (v := (nI 1)) (lv' := [(2, .int (nI 1)), (5, .ref c1), (4, .ref c0), (3, .ref st), (0, .ref ch), (1, .ref co)]) hx hb dX1_code_58 hl (k := 3) rfl (by decide) (by decide) rfl (fun ls hl => ?_)
    refine lv_goto (tgt := 2) hx hb dX1_code_61 (by decide) ?_
    refine lv_iload_n hx hb dX1_code_2 rfl (lv_at hl 0 rfl) ?_
    refine lv_aload_n hx hb dX1_code_3 rfl (lv_at hl 4 rfl) ?_
    have hL22 : ch ∈ S11.1 := by rw [hS13]; exact hL_ch
    have hf23 : S11.2 ch = .inr (2, [.ref lk, .int (nI 1)]) := by rw [hS13]; exact (pup_n (ne_cells hf_ch hf_c1 (by nofun))).trans hf_ch
    refine p_get C hw (ci := 2) (Cn := RX1) (T := TX1) (N := 2) hL22 hf23 rfl hin_RX1 1 (by decide) (mU mw_42) rfl rfl dX1_code_4 ?_
    refine n_icmp_ge (tgt := 64) hx hb (by first | decide | omega) (by first | decide | omega) dX1_code_7 (by decide) (fun h_7 => ?_) (fun h_7 => ?_)
    · skip
      exact (p_vret C hw (⟨(by simp only [hS13, pup, pnew, List.append_nil, List.append_assoc, List.cons_append, List.nil_append]), (fun a_ ha_ hn_0 => (show S11.2 a_ = S.2 a_ from by rw [hS13]; exact pup_n hn_0)), hf15⟩) hr hlocks dX1_code_64)
    · exact absurd h_7 (by first | decide | omega)

theorem hde_X1_decode1blk_V_0 : yX1_stageAt.cls = RX1 ∧ yX1_stageAt.cls ≠ "java/lang/invoke/MethodHandle" ∧ yX1_stageAt.cls ≠ "java/lang/invoke/VarHandle" ∧ (parseMethodDescriptor yX1_stageAt.desc).map (fun d => d.parameters.length) = some 1 := by decide +kernel
theorem hde_X1_decode1blk_V_1 : yX4_at.cls = RX4 ∧ yX4_at.cls ≠ "java/lang/invoke/MethodHandle" ∧ yX4_at.cls ≠ "java/lang/invoke/VarHandle" ∧ (parseMethodDescriptor yX4_at.desc).map (fun d => d.parameters.length) = some 1 := by decide +kernel
theorem hde_X1_decode1blk_V_2 : yX7_size.cls = RX7 ∧ yX7_size.cls ≠ "java/lang/invoke/MethodHandle" ∧ yX7_size.cls ≠ "java/lang/invoke/VarHandle" ∧ (parseMethodDescriptor yX7_size.desc).map (fun d => d.parameters.length) = some 0 := by decide +kernel
theorem hde_X1_decode1blk_V_3 : yX7_resize.cls = RX7 ∧ yX7_resize.cls ≠ "java/lang/invoke/MethodHandle" ∧ yX7_resize.cls ≠ "java/lang/invoke/VarHandle" ∧ (parseMethodDescriptor yX7_resize.desc).map (fun d => d.parameters.length) = some 1 := by decide +kernel
theorem hdue_X1_decode1blk_4 : "SoundingLine$Stage" ≠ "java/lang/invoke/MethodHandle" ∧ "SoundingLine$Stage" ≠ "java/lang/invoke/VarHandle" ∧ (parseMethodDescriptor "(LSoundingLine$Row;LSoundingLine$Row;)V").map (fun d => d.parameters.length) = some 2 := by decide +kernel
set_option maxHeartbeats 4000000 in
set_option maxRecDepth 100000 in
theorem e_X1_decode1blk (l : Launch) (D : va_G) (cy : Nat → ClassId) (S : pS) (sz : Nat) (ch : Nat) (v : Nat) (co : Nat) (lk : Nat) (st : Nat) (sw : Nat) (col : Nat) (con : Nat) (vl : Nat) (vn : Nat) (c0 : Nat) (c0b : Nat) (v0 : Nat) (v0b : Nat) (v1 : Nat) (lq : Nat → Option Nat) (cq : Nat → Option Nat) (vq : Nat → Option Nat) (n0 : Nat) (g0 : Nat → Nat) (sa : Nat) (sb : Nat) (hL_ch : ch ∈ S.1) (hf_ch : S.2 ch = .inr (2, [.ref lk, .int (nI 1)])) (hL_lk : lk ∈ S.1) (hf_lk : S.2 lk = aQ (cy 3) 4 lq) (hL_st : st ∈ S.1) (hf_st : S.2 st = .inr (1, [.int (nI sa), .int (nI sb), .ref sw])) (hL_co : co ∈ S.1) (hf_co : S.2 co = .inr (5, [.ref col, .ref con])) (hL_col : col ∈ S.1) (hf_col : S.2 col = aQ (cy 2) 5 cq) (hL_v : v ∈ S.1) (hf_v : S.2 v = .inr (5, [.ref vl, .ref vn])) (hL_vl : vl ∈ S.1) (hf_vl : S.2 vl = aQ (cy 2) 5 vq) (hL_c0 : c0 ∈ S.1) (hf_c0 : S.2 c0 = .inr (8, [.ref c0b, .int (nI 0)])) (hL_v0 : v0 ∈ S.1) (hf_v0 : S.2 v0 = .inr (8, [.ref v0b, .int (nI n0)])) (hL_v0b : v0b ∈ S.1) (hf_v0b : S.2 v0b = aN (cy 0) 32 g0) (hlq : lq 0 = some st) (hcq : cq 0 = some c0) (hvq : vq 0 = some v0) (hvq1 : vq 1 = some v1) (hsa : sa < 2 ^ 31) : Met l yX1_decode (Cond.code yX1_decode cX1_decode 6 none :: lwU) ({ frames := 2, cells := 0, slots := 0, locals := 47 }) (pPc D cy S sz [.ref ch, .ref v, .ref co]) (pQv D cy S sz (fun S' => S'.1 = S.1 ++ [] ∧ (∀ a_, a_ ∈ S.1 → a_ ≠ v0 → S'.2 a_ = S.2 a_))) 0 0 (pA S sz) := by
  refine Met.ofW (cc := cX1_decode) (maxL := 6) (ret := none) (by decide) rfl ?_
  intro p e s m args below meth c s₁ B hml hv
  obtain ⟨rfl, rfl, C, hw, hA, hr, hlocks⟩ := p_start B hml hv
  have hx := C.1
  have hb := C.2.1
  have hl := lv_entry ([.ref ch, .ref v, .ref co]) (n := 6) (Nat.le_of_ble_eq_true rfl)
  rw [lg_entry_eq]
  generalize (lg_sl ([.ref ch, .ref v, .ref co]) ++ List.replicate (6 - (lg_sl ([.ref ch, .ref v, .ref co])).length) Slot.unset).toArray = ls at hl ⊢
  have hl : lv_has ls 6 [(0, .ref ch), (1, .ref v), (2, .ref co)] := hl
  have hin_RX1 : ∀ w ∈ u_ws RX1 TX1 2, w ∈ (Cond.code yX1_decode cX1_decode 6 none :: lwU) := fun w h => mU (sub_RX1 w h)
  refine lv_aload_n hx hb dX1_decode_0 rfl (lv_at hl 0 rfl) ?_
  refine p_get C hw (ci := 2) (Cn := RX1) (T := TX1) (N := 2) hL_ch hf_ch rfl hin_RX1 1 (by decide) (mU mw_42) rfl rfl dX1_decode_1 ?_
  refine lv_iconst (v := nI 1) hx hb dX1_decode_4 (by decide) ?_
  refine n_isub hx hb (by first | decide | omega) dX1_decode_5 ?_
  refine n_ren (b := 0) (by first | rfl | omega | simp) ?_
  refine lv_istore_n (lv' := [(3, .int (nI 0)), (0, .ref ch), (1, .ref v), (2, .ref co)]) hx hb dX1_decode_6 rfl hl (by decide) rfl (fun ls hl => ?_)
  refine lv_iload_n hx hb dX1_decode_7 rfl (lv_at hl 0 rfl) ?_
  refine n_if_lt (tgt := 63) hx hb (by first | decide | omega) dX1_decode_8 (by decide) ?_
  refine lv_aload_n hx hb dX1_decode_11 rfl (lv_at hl 1 rfl) ?_
  refine lv_iload_n hx hb dX1_decode_12 rfl (lv_at hl 0 rfl) ?_
  refine p_callq (va_runV (As := [.int (nI 0)]) (rest := []) C.fix (e_X1_stageAt1 l D cy S s.heap.size ch lk lq st hL_ch hf_ch hL_lk hf_lk (by first | assumption | rfl | simp [va_up])) (cwV 1 C.2.2.2.2.1 (gU_V mw_138 mw_139 mw_140 mw_16 (subU mw_141)) rfl rfl rfl hde_X1_decode1blk_V_0 ⟨Nat.le_of_ble_eq_true rfl, Nat.le_of_ble_eq_true rfl⟩) (p_preV C hw hL_ch hf_ch rfl) rfl rfl hl.1 rfl (lv_room (Nat.le_of_ble_eq_true rfl)) dX1_decode_13 ⟨Nat.le_of_ble_eq_true rfl, Nat.le_of_ble_eq_true rfl⟩) hw hA (fun r2 S1 H locs hpost hw => ?_)
  obtain ⟨hr_, hS_⟩ := hpost
  subst hr_
  subst hS_
  refine lv_astore (lv' := [(4, .ref st), (3, .int (nI 0)), (0, .ref ch), (1, .ref v), (2, .ref co)]) hx hb dX1_decode_16 hl (by decide) rfl (fun ls hl => ?_)
  refine lv_aload hx hb dX1_decode_18 (lv_at hl 0 rfl) ?_
  refine lv_ifnull hx hb dX1_decode_20 ?_
  refine lv_aload_n hx hb dX1_decode_23 rfl (lv_at hl 3 rfl) ?_
  refine lv_iload_n hx hb dX1_decode_24 rfl (lv_at hl 1 rfl) ?_
  refine p_callq (va_runV (As := [.int (nI 0)]) (rest := []) C.fix (c_X4_at l D cy S H.size v vl vn 0 v0 vq hL_v hf_v hL_vl hf_vl (by first | assumption | decide | omega) (by first | assumption | rfl | simp [va_up])) (cwV 1 C.2.2.2.2.1 (gU_V mw_195 mw_127 mw_128 mw_29 sub_X4_at) rfl rfl rfl hde_X1_decode1blk_V_1 ⟨Nat.le_of_ble_eq_true rfl, Nat.le_of_ble_eq_true rfl⟩) (p_preV C hw hL_v hf_v rfl) rfl rfl hl.1 rfl (lv_room (Nat.le_of_ble_eq_true rfl)) dX1_decode_25 ⟨Nat.le_of_ble_eq_true rfl, Nat.le_of_ble_eq_true rfl⟩) hw hA (fun r4 S3 H locs hpost hw => ?_)
  obtain ⟨hr_, hS_⟩ := hpost
  subst hr_
  subst hS_
  refine lv_astore (lv' := [(5, .ref v0), (4, .ref st), (3, .int (nI 0)), (0, .ref ch), (1, .ref v), (2, .ref co)]) hx hb dX1_decode_28 hl (by decide) rfl (fun ls hl => ?_)
  refine lv_aload hx hb dX1_decode_30 (lv_at hl 0 rfl) ?_
  refine lv_aload_n hx hb dX1_decode_32 rfl (lv_at hl 5 rfl) ?_
  refine lv_iload_n hx hb dX1_decode_33 rfl (lv_at hl 2 rfl) ?_
  refine p_callq (va_runV (As := [.int (nI 0)]) (rest := [.ref v0]) C.fix (c_X4_at l D cy S H.size co col con 0 c0 cq hL_co hf_co hL_col hf_col (by first | assumption | decide | omega) (by first | assumption | rfl | simp [va_up])) (cwV 1 C.2.2.2.2.1 (gU_V mw_195 mw_127 mw_128 mw_29 sub_X4_at) rfl rfl rfl hde_X1_decode1blk_V_1 ⟨Nat.le_of_ble_eq_true rfl, Nat.le_of_ble_eq_true rfl⟩) (p_preV C hw hL_co hf_co rfl) rfl rfl hl.1 rfl (lv_room (Nat.le_of_ble_eq_true rfl)) dX1_decode_34 ⟨Nat.le_of_ble_eq_true rfl, Nat.le_of_ble_eq_true rfl⟩) hw hA (fun r6 S5 H locs hpost hw => ?_)
  obtain ⟨hr_, hS_⟩ := hpost
  subst hr_
  subst hS_
  refine p_calli (va_runV (As := []) (rest := [.ref v0]) C.fix (c_X7_size l D cy S H.size c0 c0b 0 hL_c0 hf_c0) (cwV 0 C.2.2.2.2.1 (gU_V mw_196 mw_131 mw_132 mw_25 sub_X7_size) rfl rfl rfl hde_X1_decode1blk_V_2 ⟨Nat.le_of_ble_eq_true rfl, Nat.le_of_ble_eq_true rfl⟩) (p_preV C hw hL_c0 hf_c0 rfl) rfl rfl hl.1 rfl (lv_room (Nat.le_of_ble_eq_true rfl)) dX1_decode_37 ⟨Nat.le_of_ble_eq_true rfl, Nat.le_of_ble_eq_true rfl⟩) hw hA (fun r8 S7 H locs hpost hw => ?_)
  obtain ⟨hr_, hS_⟩ := hpost
  subst hr_
  subst hS_
  refine p_callv (va_runV (As := [.int (nI 0)]) (rest := []) C.fix (c_X7_resize l D cy S H.size v0 v0b 32 n0 0 g0 hL_v0 hf_v0 hL_v0b hf_v0b (by first | assumption | decide | omega) (by first | assumption | decide | omega)) (cwV 1 C.2.2.2.2.1 (gU_V mw_197 mw_62 mw_63 mw_25 sub_X7_resize) rfl rfl rfl hde_X1_decode1blk_V_3 ⟨Nat.le_of_ble_eq_true rfl, Nat.le_of_ble_eq_true rfl⟩) (p_preV C hw hL_v0 hf_v0 rfl) rfl rfl hl.1 rfl (lv_room (Nat.le_of_ble_eq_true rfl)) dX1_decode_40 ⟨Nat.le_of_ble_eq_true rfl, Nat.le_of_ble_eq_true rfl⟩) hw hA (fun S9 H locs hpost hw => ?_)
  have hS_ := hpost
  try rw [show min 0 32 = 0 from rfl] at hS_
  have hS11 := hS_
  have hL12 : v0 ∈ S9.1 := by rw [hS11]; exact hL_v0
  have hf13 : S9.2 v0 = .inr (8, [.ref v0b, .int (nI 0)]) := by rw [hS11]; exact pup_s
  refine lv_aload hx hb dX1_decode_43 (lv_at hl 1 rfl) ?_
  refine lv_aload_n hx hb dX1_decode_45 rfl (lv_at hl 4 rfl) ?_
  refine lv_iload_n hx hb dX1_decode_46 rfl (lv_at hl 2 rfl) ?_
  refine lv_iconst (v := nI 1) hx hb dX1_decode_47 (by decide) ?_
  refine n_iadd hx hb dX1_decode_48 ?_
  refine n_ren (b := 1) (by first | rfl | omega | simp) ?_
  have hL14 : v ∈ S9.1 := by rw [hS11]; exact hL_v
  have hf15 : S9.2 v = .inr (5, [.ref vl, .ref vn]) := by rw [hS11]; exact (pup_n (ne_cells hf_v hf_v0 (by nofun))).trans hf_v
  have hL16 : vl ∈ S9.1 := by rw [hS11]; exact hL_vl
  have hf17 : S9.2 vl = aQ (cy 2) 5 vq := by rw [hS11]; exact (pup_n (ne_cells hf_vl hf_v0 (by nofun))).trans hf_vl
  refine p_callq (va_runV (As := [.int (nI 1)]) (rest := [.ref st]) C.fix (c_X4_at l D cy S9 H.size v vl vn 1 v1 vq hL14 hf15 hL16 hf17 (by first | assumption | decide | omega) (by first | assumption | rfl | simp [va_up])) (cwV 1 C.2.2.2.2.1 (gU_V mw_195 mw_127 mw_128 mw_29 sub_X4_at) rfl rfl rfl hde_X1_decode1blk_V_1 ⟨Nat.le_of_ble_eq_true rfl, Nat.le_of_ble_eq_true rfl⟩) (p_preV C hw hL14 hf15 rfl) rfl rfl hl.1 rfl (lv_room (Nat.le_of_ble_eq_true rfl)) dX1_decode_49 ⟨Nat.le_of_ble_eq_true rfl, Nat.le_of_ble_eq_true rfl⟩) hw hA (fun r19 S18 H locs hpost hw => ?_)
  obtain ⟨hr_, hS_⟩ := hpost
  subst hr_
  subst hS_
  refine lv_aload hx hb dX1_decode_52 (lv_at hl 0 rfl) ?_
  have hL20 : st ∈ S9.1 := by rw [hS11]; exact hL_st
  have hf21 : S9.2 st = .inr (1, [.int (nI sa), .int (nI sb), .ref sw]) := by rw [hS11]; exact (pup_n (ne_cells hf_st hf_v0 (by nofun))).trans hf_st
  refine p_callv (va_runU (x := ⟨"SoundingLine$Stage", "decode", "(LSoundingLine$Row;LSoundingLine$Row;)V"⟩) (As := [.ref v1, .ref v0]) (rest := []) C.fix (e_X0_decode0 l D cy S9 H.size st v1 v0 sw v0b sa sb hL20 hf21 hL12 hf13 (by first | assumption | decide | omega)) (va_cwA 2 C.2.2.2.2.1 (gU_U mw_303 mw_304 mw_305 mw_306 mw_146 (subU mw_307)) rfl rfl rfl (C.dcl 2 _ rfl) hdue_X1_decode1blk_4 ⟨Nat.le_of_ble_eq_true rfl, Nat.le_of_ble_eq_true rfl⟩) (p_preV C hw hL20 hf21 rfl) rfl rfl hl.1 rfl (lv_room (Nat.le_of_ble_eq_true rfl)) dX1_decode_54 ⟨Nat.le_of_ble_eq_true rfl, Nat.le_of_ble_eq_true rfl⟩) hw hA (fun S22 H locs hpost hw => ?_)
  have hS_ := hpost
  subst hS_
  refine lv_iinc (v := (-1)) (lv' := [(3, .int (-1)), (5, .ref v0), (4, .ref st), (0, .ref ch), (1, .ref v), (2, .ref co)]) hx hb dX1_decode_57 hl (k := 2) rfl (by decide) (by decide) rfl (fun ls hl => ?_)
  refine lv_goto (tgt := 7) hx hb dX1_decode_60 (by decide) ?_
  refine lv_iload_n hx hb dX1_decode_7 rfl (lv_at hl 0 rfl) ?_
  refine z_if_lt (tgt := 63) hx hb (show (-1 : Int32).toInt = -1 from by decide) dX1_decode_8 (by decide) (fun h_8 => ?_) (fun h_8 => ?_)
  · skip
    exact (p_vret C hw (⟨(by simp only [hS11, pup, pnew, List.append_nil, List.append_assoc, List.cons_append, List.nil_append]), (fun a_ ha_ hn_0 => (show S9.2 a_ = S.2 a_ from by rw [hS11]; exact pup_n hn_0))⟩) hr hlocks dX1_decode_63)
  · exact absurd h_8 (by first | decide | omega)

theorem hde_X11_settle1blk_V_0 : yX1_code.cls = RX1 ∧ yX1_code.cls ≠ "java/lang/invoke/MethodHandle" ∧ yX1_code.cls ≠ "java/lang/invoke/VarHandle" ∧ (parseMethodDescriptor yX1_code.desc).map (fun d => d.parameters.length) = some 1 := by decide +kernel
theorem hde_X11_settle1blk_V_1 : yX11_send.cls = RX11 ∧ yX11_send.cls ≠ "java/lang/invoke/MethodHandle" ∧ yX11_send.cls ≠ "java/lang/invoke/VarHandle" ∧ (parseMethodDescriptor yX11_send.desc).map (fun d => d.parameters.length) = some 2 := by decide +kernel
theorem hde_X11_settle1blk_V_2 : yX1_decode.cls = RX1 ∧ yX1_decode.cls ≠ "java/lang/invoke/MethodHandle" ∧ yX1_decode.cls ≠ "java/lang/invoke/VarHandle" ∧ (parseMethodDescriptor yX1_decode.desc).map (fun d => d.parameters.length) = some 2 := by decide +kernel
set_option maxHeartbeats 4000000 in
set_option maxRecDepth 100000 in
theorem e_X11_settle1blk (l : Launch) (D : va_G) (cy : Nat → ClassId) (S : pS) (sz : Nat) (x : Nat) (ch : Nat) (ln : Nat) (sl : Nat) (mk : Nat) (co : Nat) (ca : Nat) (su : Nat) (lt : Nat) (lk : Nat) (mb : Nat) (col : Nat) (con : Nat) (cor0 : Nat) (cor1 : Nat) (cor2 : Nat) (cor3 : Nat) (cor4 : Nat) (cob0 : Nat) (cob1 : Nat) (cal : Nat) (can : Nat) (car0 : Nat) (car1 : Nat) (car2 : Nat) (car3 : Nat) (car4 : Nat) (cab0 : Nat) (cab1 : Nat) (st : Nat) (sw : Nat) (lq : Nat → Option Nat) (sa : Nat) (sb : Nat) (hL_x : x ∈ S.1) (hf_x : S.2 x = .inr (11, [.ref ch, .ref ln, .ref sl, .ref mk, .ref co, .ref ca, .ref su, .ref lt])) (hL_ch : ch ∈ S.1) (hf_ch : S.2 ch = .inr (2, [.ref lk, .int (nI 1)])) (hL_lk : lk ∈ S.1) (hf_lk : S.2 lk = aQ (cy 3) 4 lq) (hL_ln : ln ∈ S.1) (hf_ln : S.2 ln = .inr (6, [.int (nI 0), .int (nI 0), .int (nI 0), .int (nI 0)])) (hL_mk : mk ∈ S.1) (hf_mk : S.2 mk = .inr (8, [.ref mb, .int (nI 320)])) (hL_mb : mb ∈ S.1) (hf_mb : S.2 mb = aN (cy 0) 320 (fun _ => 0)) (hL_co : co ∈ S.1) (hf_co : S.2 co = .inr (5, [.ref col, .ref con])) (hL_col : col ∈ S.1) (hf_col : S.2 col = aQ (cy 2) 5 (va_up (va_up (va_up (va_up (va_up (fun _ => none) 0 (some cor0)) 1 (some cor1)) 2 (some cor2)) 3 (some cor3)) 4 (some cor4))) (hL_cor0 : cor0 ∈ S.1) (hf_cor0 : S.2 cor0 = .inr (8, [.ref cob0, .int (nI 0)])) (hL_cor1 : cor1 ∈ S.1) (hf_cor1 : S.2 cor1 = .inr (8, [.ref cob1, .int (nI 0)])) (hL_cob1 : cob1 ∈ S.1) (hf_cob1 : S.2 cob1 = aN (cy 0) 320 (fun _ => 0)) (hL_ca : ca ∈ S.1) (hf_ca : S.2 ca = .inr (5, [.ref cal, .ref can])) (hL_cal : cal ∈ S.1) (hf_cal : S.2 cal = aQ (cy 2) 5 (va_up (va_up (va_up (va_up (va_up (fun _ => none) 0 (some car0)) 1 (some car1)) 2 (some car2)) 3 (some car3)) 4 (some car4))) (hL_car0 : car0 ∈ S.1) (hf_car0 : S.2 car0 = .inr (8, [.ref cab0, .int (nI 0)])) (hL_cab0 : cab0 ∈ S.1) (hf_cab0 : S.2 cab0 = aN (cy 0) 32 (fun _ => 0)) (hL_car1 : car1 ∈ S.1) (hf_car1 : S.2 car1 = .inr (8, [.ref cab1, .int (nI 0)])) (hL_cab1 : cab1 ∈ S.1) (hf_cab1 : S.2 cab1 = aN (cy 0) 320 (fun _ => 0)) (hL_st : st ∈ S.1) (hf_st : S.2 st = .inr (1, [.int (nI sa), .int (nI sb), .ref sw])) (hne_cor0_cor1 : cor0 ≠ cor1) (hne_mk_cor1 : mk ≠ cor1) (hne_car1_cor1 : car1 ≠ cor1) (hne_cob1_cab1 : cob1 ≠ cab1) (hne_mk_car1 : mk ≠ car1) (hne_mb_cab1 : mb ≠ cab1) (hne_cor0_car1 : cor0 ≠ car1) (hne_car0_cor1 : car0 ≠ cor1) (hne_car0_car1 : car0 ≠ car1) (hne_cab0_cab1 : cab0 ≠ cab1) (hlq : lq 0 = some st) (hsa : sa < 2 ^ 31) : Met l yX11_settle (Cond.code yX11_settle cX11_settle 1 none :: lwU) ({ frames := 5, cells := 0, slots := 0, locals := 111 }) (pPc D cy S sz [.ref x]) (pQv D cy S sz (fun S' => S'.1 = S.1 ++ [] ∧ (∀ a_, a_ ∈ S.1 → a_ ≠ cor1 → a_ ≠ car1 → a_ ≠ cab1 → a_ ≠ car0 → S'.2 a_ = S.2 a_) ∧ S'.2 cor1 = .inr (8, [.ref cob1, .int (nI 0)]))) 0 0 (pA S sz) := by
  refine Met.ofW (cc := cX11_settle) (maxL := 1) (ret := none) (by decide) rfl ?_
  intro p e s m args below meth c s₁ B hml hv
  obtain ⟨rfl, rfl, C, hw, hA, hr, hlocks⟩ := p_start B hml hv
  have hx := C.1
  have hb := C.2.1
  have hl := lv_entry ([.ref x]) (n := 1) (Nat.le_of_ble_eq_true rfl)
  rw [lg_entry_eq]
  generalize (lg_sl ([.ref x]) ++ List.replicate (1 - (lg_sl ([.ref x])).length) Slot.unset).toArray = ls at hl ⊢
  have hl : lv_has ls 1 [(0, .ref x)] := hl
  have hin_RX11 : ∀ w ∈ u_ws RX11 TX11 8, w ∈ (Cond.code yX11_settle cX11_settle 1 none :: lwU) := fun w h => mU (sub_RX11 w h)
  refine lv_aload_n hx hb dX11_settle_0 rfl (lv_at hl 0 rfl) ?_
  refine p_get C hw (ci := 11) (Cn := RX11) (T := TX11) (N := 8) hL_x hf_x rfl hin_RX11 0 (by decide) (mU mw_17) rfl rfl dX11_settle_1 ?_
  refine lv_aload_n hx hb dX11_settle_4 rfl (lv_at hl 0 rfl) ?_
  refine p_get C hw (ci := 11) (Cn := RX11) (T := TX11) (N := 8) hL_x hf_x rfl hin_RX11 4 (by decide) (mU mw_30) rfl rfl dX11_settle_5 ?_
  refine p_callv (va_runV (As := [.ref co]) (rest := []) C.fix (e_X1_code1blk l D cy S s.heap.size ch co lk st sw col con cor0 cob0 cor1 cob1 lq (va_up (va_up (va_up (va_up (va_up (fun _ => none) 0 (some cor0)) 1 (some cor1)) 2 (some cor2)) 3 (some cor3)) 4 (some cor4)) 0 (fun _ => 0) sa sb hL_ch hf_ch hL_lk hf_lk hL_st hf_st hL_co hf_co hL_col hf_col hL_cor0 hf_cor0 hL_cor1 hf_cor1 hL_cob1 hf_cob1 hne_cor0_cor1 (by first | assumption | rfl | simp [va_up]) (by first | assumption | rfl | simp [va_up]) (by first | assumption | rfl | simp [va_up]) (by first | assumption | decide | omega)) (cwV 1 C.2.2.2.2.1 (gU_V mw_191 mw_192 mw_193 mw_16 (subU mw_194)) rfl rfl rfl hde_X11_settle1blk_V_0 ⟨Nat.le_of_ble_eq_true rfl, Nat.le_of_ble_eq_true rfl⟩) (p_preV C hw hL_ch hf_ch rfl) rfl rfl hl.1 rfl (lv_room (Nat.le_of_ble_eq_true rfl)) dX11_settle_8 ⟨Nat.le_of_ble_eq_true rfl, Nat.le_of_ble_eq_true rfl⟩) hw hA (fun S1 H locs hpost hw => ?_)
  obtain ⟨hS3, hfr4, hf5⟩ := hpost
  have hL6 : cor1 ∈ S1.1 := by rw [hS3]; exact List.mem_append_left _ hL_cor1
  refine lv_aload_n hx hb dX11_settle_11 rfl (lv_at hl 0 rfl) ?_
  refine lv_aload_n hx hb dX11_settle_12 rfl (lv_at hl 0 rfl) ?_
  have hL7 : x ∈ S1.1 := by rw [hS3]; exact List.mem_append_left _ hL_x
  have hf8 : S1.2 x = .inr (11, [.ref ch, .ref ln, .ref sl, .ref mk, .ref co, .ref ca, .ref su, .ref lt]) := (hfr4 x hL_x (ne_cells hf_x hf_cor1 (by nofun))).trans hf_x
  refine p_get C hw (ci := 11) (Cn := RX11) (T := TX11) (N := 8) hL7 hf8 rfl hin_RX11 1 (by decide) (mU mw_21) rfl rfl dX11_settle_13 ?_
  refine lv_aload_n hx hb dX11_settle_16 rfl (lv_at hl 0 rfl) ?_
  refine p_get C hw (ci := 11) (Cn := RX11) (T := TX11) (N := 8) hL7 hf8 rfl hin_RX11 5 (by decide) (mU mw_31) rfl rfl dX11_settle_17 ?_
  have hL9 : ch ∈ S1.1 := by rw [hS3]; exact List.mem_append_left _ hL_ch
  have hf10 : S1.2 ch = .inr (2, [.ref lk, .int (nI 1)]) := (hfr4 ch hL_ch (ne_cells hf_ch hf_cor1 (by nofun))).trans hf_ch
  have hL11 : mk ∈ S1.1 := by rw [hS3]; exact List.mem_append_left _ hL_mk
  have hf12 : S1.2 mk = .inr (8, [.ref mb, .int (nI 320)]) := (hfr4 mk hL_mk hne_mk_cor1).trans hf_mk
  have hL13 : mb ∈ S1.1 := by rw [hS3]; exact List.mem_append_left _ hL_mb
  have hf14 : S1.2 mb = aN (cy 0) 320 (fun _ => 0) := (hfr4 mb hL_mb (ne_cells hf_mb hf_cor1 (by nofun))).trans hf_mb
  have hL15 : ln ∈ S1.1 := by rw [hS3]; exact List.mem_append_left _ hL_ln
  have hf16 : S1.2 ln = .inr (6, [.int (nI 0), .int (nI 0), .int (nI 0), .int (nI 0)]) := (hfr4 ln hL_ln (ne_cells hf_ln hf_cor1 (by nofun))).trans hf_ln
  have hL17 : co ∈ S1.1 := by rw [hS3]; exact List.mem_append_left _ hL_co
  have hf18 : S1.2 co = .inr (5, [.ref col, .ref con]) := (hfr4 co hL_co (ne_cells hf_co hf_cor1 (by nofun))).trans hf_co
  have hL19 : col ∈ S1.1 := by rw [hS3]; exact List.mem_append_left _ hL_col
  have hf20 : S1.2 col = aQ (cy 2) 5 (va_up (va_up (va_up (va_up (va_up (fun _ => none) 0 (some cor0)) 1 (some cor1)) 2 (some cor2)) 3 (some cor3)) 4 (some cor4)) := (hfr4 col hL_col (ne_cells hf_col hf_cor1 (by nofun))).trans hf_col
  have hL21 : ca ∈ S1.1 := by rw [hS3]; exact List.mem_append_left _ hL_ca
  have hf22 : S1.2 ca = .inr (5, [.ref cal, .ref can]) := (hfr4 ca hL_ca (ne_cells hf_ca hf_cor1 (by nofun))).trans hf_ca
  have hL23 : cal ∈ S1.1 := by rw [hS3]; exact List.mem_append_left _ hL_cal
  have hf24 : S1.2 cal = aQ (cy 2) 5 (va_up (va_up (va_up (va_up (va_up (fun _ => none) 0 (some car0)) 1 (some car1)) 2 (some car2)) 3 (some car3)) 4 (some car4)) := (hfr4 cal hL_cal (ne_cells hf_cal hf_cor1 (by nofun))).trans hf_cal
  have hL25 : cob1 ∈ S1.1 := by rw [hS3]; exact List.mem_append_left _ hL_cob1
  have hf26 : S1.2 cob1 = aN (cy 0) 320 (fun _ => 0) := (hfr4 cob1 hL_cob1 (ne_cells hf_cob1 hf_cor1 (by nofun))).trans hf_cob1
  have hL27 : car1 ∈ S1.1 := by rw [hS3]; exact List.mem_append_left _ hL_car1
  have hf28 : S1.2 car1 = .inr (8, [.ref cab1, .int (nI 0)]) := (hfr4 car1 hL_car1 hne_car1_cor1).trans hf_car1
  have hL29 : cab1 ∈ S1.1 := by rw [hS3]; exact List.mem_append_left _ hL_cab1
  have hf30 : S1.2 cab1 = aN (cy 0) 320 (fun _ => 0) := (hfr4 cab1 hL_cab1 (ne_cells hf_cab1 hf_cor1 (by nofun))).trans hf_cab1
  refine p_callv (va_runV (As := [.ref ln, .ref ca]) (rest := []) C.fix (e_X11_send1 l D cy S1 H.size x ln ca ch ln sl mk co ca su lt lk mb col con cal can cor1 cob1 car1 cab1 (va_up (va_up (va_up (va_up (va_up (fun _ => none) 0 (some cor0)) 1 (some cor1)) 2 (some cor2)) 3 (some cor3)) 4 (some cor4)) (va_up (va_up (va_up (va_up (va_up (fun _ => none) 0 (some car0)) 1 (some car1)) 2 (some car2)) 3 (some car3)) 4 (some car4)) (fun _ => 0) (fun _ => 0) (fun _ => 0) 0 0 (nI 0) (nI 0) (nI 0) 0 0 0 hL7 hf8 hL9 hf10 hL11 hf12 hL13 hf14 hL15 hf16 hL17 hf18 hL19 hf20 hL21 hf22 hL23 hf24 hL6 hf5 hL25 hf26 hL27 hf28 hL29 hf30 hne_cob1_cab1 (Ne.symm hne_car1_cor1) hne_mk_car1 hne_mb_cab1 (by first | assumption | rfl | simp [va_up]) (by first | assumption | rfl | simp [va_up]) (by first | assumption | exact (fun _ => Nat.zero_le 2) | exact rnum_le (fun _ => Nat.zero_le 2) | exact rcop_le (by first | assumption | exact (fun _ => Nat.zero_le 2)) (by first | assumption | exact (fun _ => Nat.zero_le 2)) | exact rharm_le (rcop_le (by first | assumption | exact (fun _ => Nat.zero_le 2)) (by first | assumption | exact (fun _ => Nat.zero_le 2))) | exact rturn_le (fun _ => Nat.zero_le 2)) (by first | assumption | exact (fun _ => Nat.zero_le 2) | exact rnum_le (fun _ => Nat.zero_le 2) | exact rcop_le (by first | assumption | exact (fun _ => Nat.zero_le 2)) (by first | assumption | exact (fun _ => Nat.zero_le 2)) | exact rharm_le (rcop_le (by first | assumption | exact (fun _ => Nat.zero_le 2)) (by first | assumption | exact (fun _ => Nat.zero_le 2))) | exact rturn_le (fun _ => Nat.zero_le 2)) (by first | assumption | exact (fun _ => Nat.zero_le 2) | exact rnum_le (fun _ => Nat.zero_le 2) | exact rcop_le (by first | assumption | exact (fun _ => Nat.zero_le 2)) (by first | assumption | exact (fun _ => Nat.zero_le 2)) | exact rharm_le (rcop_le (by first | assumption | exact (fun _ => Nat.zero_le 2)) (by first | assumption | exact (fun _ => Nat.zero_le 2))) | exact rturn_le (fun _ => Nat.zero_le 2)) (by first | assumption | decide | omega) (by first | assumption | decide | omega) (by first | assumption | decide | omega) (by first | assumption | decide | omega) (by first | assumption | decide | omega) (by first | assumption | (intro h; exact absurd h (by decide)) | (intro h; exact absurd h (by omega))) (by first | assumption | (intro h; exact absurd h (by decide)) | (intro h; exact absurd h (by omega)))) (cwV 2 C.2.2.2.2.1 (gU_V mw_252 mw_253 mw_254 mw_2 (subU mw_255)) rfl rfl rfl hde_X11_settle1blk_V_1 ⟨Nat.le_of_ble_eq_true rfl, Nat.le_of_ble_eq_true rfl⟩) (p_preV C hw hL7 hf8 rfl) rfl rfl hl.1 rfl (lv_room (Nat.le_of_ble_eq_true rfl)) dX11_settle_20 ⟨Nat.le_of_ble_eq_true rfl, Nat.le_of_ble_eq_true rfl⟩) hw hA (fun S31 H locs hpost hw => ?_)
  obtain ⟨wg33, hc34, hS35, hfr36, hf37, hf38⟩ := hpost
  have hL39 : car1 ∈ S31.1 := by rw [hS35]; exact List.mem_append_left _ hL27
  have hL40 : cab1 ∈ S31.1 := by rw [hS35]; exact List.mem_append_left _ hL29
  refine lv_aload_n hx hb dX11_settle_23 rfl (lv_at hl 0 rfl) ?_
  have hL41 : x ∈ S31.1 := by rw [hS35]; exact List.mem_append_left _ hL7
  have hf42 : S31.2 x = .inr (11, [.ref ch, .ref ln, .ref sl, .ref mk, .ref co, .ref ca, .ref su, .ref lt]) := (hfr36 x hL7 (ne_cells hf8 hf28 (by nofun)) (ne_cells hf8 hf30 (by nofun))).trans hf8
  refine p_get C hw (ci := 11) (Cn := RX11) (T := TX11) (N := 8) hL41 hf42 rfl hin_RX11 0 (by decide) (mU mw_17) rfl rfl dX11_settle_24 ?_
  refine lv_aload_n hx hb dX11_settle_27 rfl (lv_at hl 0 rfl) ?_
  refine p_get C hw (ci := 11) (Cn := RX11) (T := TX11) (N := 8) hL41 hf42 rfl hin_RX11 5 (by decide) (mU mw_31) rfl rfl dX11_settle_28 ?_
  refine lv_aload_n hx hb dX11_settle_31 rfl (lv_at hl 0 rfl) ?_
  refine p_get C hw (ci := 11) (Cn := RX11) (T := TX11) (N := 8) hL41 hf42 rfl hin_RX11 4 (by decide) (mU mw_30) rfl rfl dX11_settle_32 ?_
  have hL43 : ch ∈ S31.1 := by rw [hS35]; exact List.mem_append_left _ hL9
  have hf44 : S31.2 ch = .inr (2, [.ref lk, .int (nI 1)]) := (hfr36 ch hL9 (ne_cells hf10 hf28 (by nofun)) (ne_cells hf10 hf30 (by nofun))).trans hf10
  have hL45 : lk ∈ S1.1 := by rw [hS3]; exact List.mem_append_left _ hL_lk
  have hf46 : S1.2 lk = aQ (cy 3) 4 lq := (hfr4 lk hL_lk (ne_cells hf_lk hf_cor1 (by nofun))).trans hf_lk
  have hL47 : lk ∈ S31.1 := by rw [hS35]; exact List.mem_append_left _ hL45
  have hf48 : S31.2 lk = aQ (cy 3) 4 lq := (hfr36 lk hL45 (ne_cells hf46 hf28 (by nofun)) (ne_cells hf46 hf30 ne_QN)).trans hf46
  have hL49 : st ∈ S1.1 := by rw [hS3]; exact List.mem_append_left _ hL_st
  have hf50 : S1.2 st = .inr (1, [.int (nI sa), .int (nI sb), .ref sw]) := (hfr4 st hL_st (ne_cells hf_st hf_cor1 (by nofun))).trans hf_st
  have hL51 : st ∈ S31.1 := by rw [hS35]; exact List.mem_append_left _ hL49
  have hf52 : S31.2 st = .inr (1, [.int (nI sa), .int (nI sb), .ref sw]) := (hfr36 st hL49 (ne_cells hf50 hf28 (by nofun)) (ne_cells hf50 hf30 (by nofun))).trans hf50
  have hL53 : co ∈ S31.1 := by rw [hS35]; exact List.mem_append_left _ hL17
  have hf54 : S31.2 co = .inr (5, [.ref col, .ref con]) := (hfr36 co hL17 (ne_cells hf18 hf28 (by nofun)) (ne_cells hf18 hf30 (by nofun))).trans hf18
  have hL55 : col ∈ S31.1 := by rw [hS35]; exact List.mem_append_left _ hL19
  have hf56 : S31.2 col = aQ (cy 2) 5 (va_up (va_up (va_up (va_up (va_up (fun _ => none) 0 (some cor0)) 1 (some cor1)) 2 (some cor2)) 3 (some cor3)) 4 (some cor4)) := (hfr36 col hL19 (ne_cells hf20 hf28 (by nofun)) (ne_cells hf20 hf30 ne_QN)).trans hf20
  have hL57 : ca ∈ S31.1 := by rw [hS35]; exact List.mem_append_left _ hL21
  have hf58 : S31.2 ca = .inr (5, [.ref cal, .ref can]) := (hfr36 ca hL21 (ne_cells hf22 hf28 (by nofun)) (ne_cells hf22 hf30 (by nofun))).trans hf22
  have hL59 : cal ∈ S31.1 := by rw [hS35]; exact List.mem_append_left _ hL23
  have hf60 : S31.2 cal = aQ (cy 2) 5 (va_up (va_up (va_up (va_up (va_up (fun _ => none) 0 (some car0)) 1 (some car1)) 2 (some car2)) 3 (some car3)) 4 (some car4)) := (hfr36 cal hL23 (ne_cells hf24 hf28 (by nofun)) (ne_cells hf24 hf30 ne_QN)).trans hf24
  have hL61 : cor0 ∈ S1.1 := by rw [hS3]; exact List.mem_append_left _ hL_cor0
  have hf62 : S1.2 cor0 = .inr (8, [.ref cob0, .int (nI 0)]) := (hfr4 cor0 hL_cor0 hne_cor0_cor1).trans hf_cor0
  have hL63 : cor0 ∈ S31.1 := by rw [hS35]; exact List.mem_append_left _ hL61
  have hf64 : S31.2 cor0 = .inr (8, [.ref cob0, .int (nI 0)]) := (hfr36 cor0 hL61 hne_cor0_car1 (ne_cells hf62 hf30 (by nofun))).trans hf62
  have hL65 : car0 ∈ S1.1 := by rw [hS3]; exact List.mem_append_left _ hL_car0
  have hf66 : S1.2 car0 = .inr (8, [.ref cab0, .int (nI 0)]) := (hfr4 car0 hL_car0 hne_car0_cor1).trans hf_car0
  have hL67 : car0 ∈ S31.1 := by rw [hS35]; exact List.mem_append_left _ hL65
  have hf68 : S31.2 car0 = .inr (8, [.ref cab0, .int (nI 0)]) := (hfr36 car0 hL65 hne_car0_car1 (ne_cells hf66 hf30 (by nofun))).trans hf66
  have hL69 : cab0 ∈ S1.1 := by rw [hS3]; exact List.mem_append_left _ hL_cab0
  have hf70 : S1.2 cab0 = aN (cy 0) 32 (fun _ => 0) := (hfr4 cab0 hL_cab0 (ne_cells hf_cab0 hf_cor1 (by nofun))).trans hf_cab0
  have hL71 : cab0 ∈ S31.1 := by rw [hS35]; exact List.mem_append_left _ hL69
  have hf72 : S31.2 cab0 = aN (cy 0) 32 (fun _ => 0) := (hfr36 cab0 hL69 (ne_cells hf70 hf28 (by nofun)) hne_cab0_cab1).trans hf70
  refine p_callv (va_runV (As := [.ref ca, .ref co]) (rest := []) C.fix (e_X1_decode1blk l D cy S31 H.size ch ca co lk st sw col con cal can cor0 cob0 car0 cab0 car1 lq (va_up (va_up (va_up (va_up (va_up (fun _ => none) 0 (some cor0)) 1 (some cor1)) 2 (some cor2)) 3 (some cor3)) 4 (some cor4)) (va_up (va_up (va_up (va_up (va_up (fun _ => none) 0 (some car0)) 1 (some car1)) 2 (some car2)) 3 (some car3)) 4 (some car4)) 0 (fun _ => 0) sa sb hL43 hf44 hL47 hf48 hL51 hf52 hL53 hf54 hL55 hf56 hL57 hf58 hL59 hf60 hL63 hf64 hL67 hf68 hL71 hf72 (by first | assumption | rfl | simp [va_up]) (by first | assumption | rfl | simp [va_up]) (by first | assumption | rfl | simp [va_up]) (by first | assumption | rfl | simp [va_up]) (by first | assumption | decide | omega)) (cwV 2 C.2.2.2.2.1 (gU_V mw_299 mw_300 mw_301 mw_16 (subU mw_302)) rfl rfl rfl hde_X11_settle1blk_V_2 ⟨Nat.le_of_ble_eq_true rfl, Nat.le_of_ble_eq_true rfl⟩) (p_preV C hw hL43 hf44 rfl) rfl rfl hl.1 rfl (lv_room (Nat.le_of_ble_eq_true rfl)) dX11_settle_35 ⟨Nat.le_of_ble_eq_true rfl, Nat.le_of_ble_eq_true rfl⟩) hw hA (fun S73 H locs hpost hw => ?_)
  obtain ⟨hS75, hfr76⟩ := hpost
  have hL77 : cor1 ∈ S31.1 := by rw [hS35]; exact List.mem_append_left _ hL6
  have hf78 : S31.2 cor1 = .inr (8, [.ref cob1, .int (nI 0)]) := (hfr36 cor1 hL6 (Ne.symm hne_car1_cor1) (ne_cells hf5 hf30 (by nofun))).trans hf5
  have hL79 : cor1 ∈ S73.1 := by rw [hS75]; exact List.mem_append_left _ hL77
  have hf80 : S73.2 cor1 = .inr (8, [.ref cob1, .int (nI 0)]) := (hfr76 cor1 hL77 (Ne.symm hne_car0_cor1)).trans hf78
  exact (p_vret C hw (⟨(by simp only [hS75, hS35, hS3, pup, pnew, List.append_nil, List.append_assoc, List.cons_append, List.nil_append]), (fun a_ ha_ hn_0 hn_1 hn_2 hn_3 => ((hfr76 a_ (show a_ ∈ S31.1 from by rw [hS35]; exact List.mem_append_left _ (show a_ ∈ S1.1 from by rw [hS3]; exact List.mem_append_left _ ha_)) hn_3).trans ((hfr36 a_ (show a_ ∈ S1.1 from by rw [hS3]; exact List.mem_append_left _ ha_) hn_1 hn_2).trans (hfr4 a_ ha_ hn_0)))), hf80⟩) hr hlocks dX11_settle_38)

theorem hde_X11_putBehindblk_V_0 : yX1_count.cls = RX1 ∧ yX1_count.cls ≠ "java/lang/invoke/MethodHandle" ∧ yX1_count.cls ≠ "java/lang/invoke/VarHandle" ∧ (parseMethodDescriptor yX1_count.desc).map (fun d => d.parameters.length) = some 0 := by decide +kernel
theorem hde_X11_putBehindblk_V_1 : yX11_last.cls = RX11 ∧ yX11_last.cls ≠ "java/lang/invoke/MethodHandle" ∧ yX11_last.cls ≠ "java/lang/invoke/VarHandle" ∧ (parseMethodDescriptor yX11_last.desc).map (fun d => d.parameters.length) = some 1 := by decide +kernel
theorem hde_X11_putBehindblk_V_2 : yX7_size.cls = RX7 ∧ yX7_size.cls ≠ "java/lang/invoke/MethodHandle" ∧ yX7_size.cls ≠ "java/lang/invoke/VarHandle" ∧ (parseMethodDescriptor yX7_size.desc).map (fun d => d.parameters.length) = some 0 := by decide +kernel
theorem hdue_X11_putBehindblk_3 : "SoundingLine$Stage" ≠ "java/lang/invoke/MethodHandle" ∧ "SoundingLine$Stage" ≠ "java/lang/invoke/VarHandle" ∧ (parseMethodDescriptor "(I)I").map (fun d => d.parameters.length) = some 1 := by decide +kernel
theorem hde_X11_putBehindblk_V_4 : yX1_append.cls = RX1 ∧ yX1_append.cls ≠ "java/lang/invoke/MethodHandle" ∧ yX1_append.cls ≠ "java/lang/invoke/VarHandle" ∧ (parseMethodDescriptor yX1_append.desc).map (fun d => d.parameters.length) = some 1 := by decide +kernel
theorem hde_X11_putBehindblk_V_5 : yX11_settle.cls = RX11 ∧ yX11_settle.cls ≠ "java/lang/invoke/MethodHandle" ∧ yX11_settle.cls ≠ "java/lang/invoke/VarHandle" ∧ (parseMethodDescriptor yX11_settle.desc).map (fun d => d.parameters.length) = some 0 := by decide +kernel
set_option maxHeartbeats 4000000 in
set_option maxRecDepth 100000 in
theorem e_X11_putBehindblk (l : Launch) (D : va_G) (cy : Nat → ClassId) (S : pS) (sz : Nat) (x : Nat) (st : Nat) (ch : Nat) (ln : Nat) (sl : Nat) (mk : Nat) (co : Nat) (ca : Nat) (su : Nat) (lt : Nat) (lk : Nat) (mb : Nat) (col : Nat) (con : Nat) (cor0 : Nat) (cor1 : Nat) (cor2 : Nat) (cor3 : Nat) (cor4 : Nat) (cob0 : Nat) (cob1 : Nat) (cal : Nat) (can : Nat) (car0 : Nat) (car1 : Nat) (car2 : Nat) (car3 : Nat) (car4 : Nat) (cab0 : Nat) (cab1 : Nat) (sw : Nat) (sa : Nat) (sb : Nat) (hL_x : x ∈ S.1) (hf_x : S.2 x = .inr (11, [.ref ch, .ref ln, .ref sl, .ref mk, .ref co, .ref ca, .ref su, .ref lt])) (hL_ch : ch ∈ S.1) (hf_ch : S.2 ch = .inr (2, [.ref lk, .int (nI 0)])) (hL_lk : lk ∈ S.1) (hf_lk : S.2 lk = aQ (cy 3) 4 (fun _ => none)) (hL_ln : ln ∈ S.1) (hf_ln : S.2 ln = .inr (6, [.int (nI 0), .int (nI 0), .int (nI 0), .int (nI 0)])) (hL_mk : mk ∈ S.1) (hf_mk : S.2 mk = .inr (8, [.ref mb, .int (nI 320)])) (hL_mb : mb ∈ S.1) (hf_mb : S.2 mb = aN (cy 0) 320 (fun _ => 0)) (hL_co : co ∈ S.1) (hf_co : S.2 co = .inr (5, [.ref col, .ref con])) (hL_col : col ∈ S.1) (hf_col : S.2 col = aQ (cy 2) 5 (va_up (va_up (va_up (va_up (va_up (fun _ => none) 0 (some cor0)) 1 (some cor1)) 2 (some cor2)) 3 (some cor3)) 4 (some cor4))) (hL_cor0 : cor0 ∈ S.1) (hf_cor0 : S.2 cor0 = .inr (8, [.ref cob0, .int (nI 0)])) (hL_cor1 : cor1 ∈ S.1) (hf_cor1 : S.2 cor1 = .inr (8, [.ref cob1, .int (nI 0)])) (hL_cob1 : cob1 ∈ S.1) (hf_cob1 : S.2 cob1 = aN (cy 0) 320 (fun _ => 0)) (hL_ca : ca ∈ S.1) (hf_ca : S.2 ca = .inr (5, [.ref cal, .ref can])) (hL_cal : cal ∈ S.1) (hf_cal : S.2 cal = aQ (cy 2) 5 (va_up (va_up (va_up (va_up (va_up (fun _ => none) 0 (some car0)) 1 (some car1)) 2 (some car2)) 3 (some car3)) 4 (some car4))) (hL_car0 : car0 ∈ S.1) (hf_car0 : S.2 car0 = .inr (8, [.ref cab0, .int (nI 0)])) (hL_cab0 : cab0 ∈ S.1) (hf_cab0 : S.2 cab0 = aN (cy 0) 32 (fun _ => 0)) (hL_car1 : car1 ∈ S.1) (hf_car1 : S.2 car1 = .inr (8, [.ref cab1, .int (nI 0)])) (hL_cab1 : cab1 ∈ S.1) (hf_cab1 : S.2 cab1 = aN (cy 0) 320 (fun _ => 0)) (hL_st : st ∈ S.1) (hf_st : S.2 st = .inr (1, [.int (nI sa), .int (nI sb), .ref sw])) (hne_col_lk : col ≠ lk) (hne_cal_lk : cal ≠ lk) (hne_cor0_cor1 : cor0 ≠ cor1) (hne_mk_cor1 : mk ≠ cor1) (hne_car1_cor1 : car1 ≠ cor1) (hne_cob1_cab1 : cob1 ≠ cab1) (hne_mk_car1 : mk ≠ car1) (hne_mb_cab1 : mb ≠ cab1) (hne_cor0_car1 : cor0 ≠ car1) (hne_car0_cor1 : car0 ≠ cor1) (hne_car0_car1 : car0 ≠ car1) (hne_cab0_cab1 : cab0 ≠ cab1) (hsa : sa < 2 ^ 31) : Met l yX11_putBehind (Cond.code yX11_putBehind cX11_putBehind 2 (some .int) :: lwU) ({ frames := 6, cells := 0, slots := 0, locals := 131 }) (pPc D cy S sz [.ref x, .ref st]) (pQi D cy S sz (fun r S' => r = (nI 0) ∧ S'.1 = S.1 ++ [] ∧ (∀ a_, a_ ∈ S.1 → a_ ≠ lk → a_ ≠ ch → a_ ≠ cor1 → a_ ≠ car1 → a_ ≠ cab1 → a_ ≠ car0 → S'.2 a_ = S.2 a_))) 0 0 (pA S sz) := by
  refine Met.ofW (cc := cX11_putBehind) (maxL := 2) (ret := (some .int)) (by decide) rfl ?_
  intro p e s m args below meth c s₁ B hml hv
  obtain ⟨rfl, rfl, C, hw, hA, hr, hlocks⟩ := p_start B hml hv
  have hx := C.1
  have hb := C.2.1
  have hl := lv_entry ([.ref x, .ref st]) (n := 2) (Nat.le_of_ble_eq_true rfl)
  rw [lg_entry_eq]
  generalize (lg_sl ([.ref x, .ref st]) ++ List.replicate (2 - (lg_sl ([.ref x, .ref st])).length) Slot.unset).toArray = ls at hl ⊢
  have hl : lv_has ls 2 [(0, .ref x), (1, .ref st)] := hl
  have hin_RX11 : ∀ w ∈ u_ws RX11 TX11 8, w ∈ (Cond.code yX11_putBehind cX11_putBehind 2 (some .int) :: lwU) := fun w h => mU (sub_RX11 w h)
  refine lv_aload_n hx hb dX11_putBehind_0 rfl (lv_at hl 0 rfl) ?_
  refine p_get C hw (ci := 11) (Cn := RX11) (T := TX11) (N := 8) hL_x hf_x rfl hin_RX11 0 (by decide) (mU mw_17) rfl rfl dX11_putBehind_1 ?_
  refine p_calli (va_runV (As := []) (rest := []) C.fix (c_X1_count l D cy S s.heap.size ch lk 0 hL_ch hf_ch) (cwV 0 C.2.2.2.2.1 (gU_V mw_260 mw_261 mw_262 mw_16 sub_X1_count) rfl rfl rfl hde_X11_putBehindblk_V_0 ⟨Nat.le_of_ble_eq_true rfl, Nat.le_of_ble_eq_true rfl⟩) (p_preV C hw hL_ch hf_ch rfl) rfl rfl hl.1 rfl (lv_room (Nat.le_of_ble_eq_true rfl)) dX11_putBehind_4 ⟨Nat.le_of_ble_eq_true rfl, Nat.le_of_ble_eq_true rfl⟩) hw hA (fun r2 S1 H locs hpost hw => ?_)
  obtain ⟨hr_, hS_⟩ := hpost
  subst hr_
  subst hS_
  refine lv_iconst (v := nI 4) hx hb dX11_putBehind_7 (by decide) ?_
  refine n_icmp_lt (tgt := 22) hx hb (by first | decide | omega) (by first | decide | omega) dX11_putBehind_8 (by decide) (fun h_8 => ?_) (fun h_8 => ?_)
  · skip
    refine lv_aload_n hx hb dX11_putBehind_22 rfl (lv_at hl 1 rfl) ?_
    refine lv_aload_n hx hb dX11_putBehind_23 rfl (lv_at hl 0 rfl) ?_
    refine lv_aload_n hx hb dX11_putBehind_24 rfl (lv_at hl 0 rfl) ?_
    refine p_get C hw (ci := 11) (Cn := RX11) (T := TX11) (N := 8) hL_x hf_x rfl hin_RX11 4 (by decide) (mU mw_30) rfl rfl dX11_putBehind_25 ?_
    refine p_callq (va_runV (As := [.ref co]) (rest := [.ref st]) C.fix (e_X11_last0 l D cy S H.size x co ch ln sl mk co ca su lt lk col con (va_up (va_up (va_up (va_up (va_up (fun _ => none) 0 (some cor0)) 1 (some cor1)) 2 (some cor2)) 3 (some cor3)) 4 (some cor4)) cor0 hL_x hf_x hL_ch hf_ch hL_co hf_co hL_col hf_col (by first | assumption | rfl | simp [va_up])) (cwV 1 C.2.2.2.2.1 (gU_V mw_256 mw_257 mw_258 mw_2 (subU mw_259)) rfl rfl rfl hde_X11_putBehindblk_V_1 ⟨Nat.le_of_ble_eq_true rfl, Nat.le_of_ble_eq_true rfl⟩) (p_preV C hw hL_x hf_x rfl) rfl rfl hl.1 rfl (lv_room (Nat.le_of_ble_eq_true rfl)) dX11_putBehind_28 ⟨Nat.le_of_ble_eq_true rfl, Nat.le_of_ble_eq_true rfl⟩) hw hA (fun r4 S3 H locs hpost hw => ?_)
    obtain ⟨hr_, hS_⟩ := hpost
    subst hr_
    subst hS_
    refine p_calli (va_runV (As := []) (rest := [.ref st]) C.fix (c_X7_size l D cy S H.size cor0 cob0 0 hL_cor0 hf_cor0) (cwV 0 C.2.2.2.2.1 (gU_V mw_130 mw_131 mw_132 mw_25 sub_X7_size) rfl rfl rfl hde_X11_putBehindblk_V_2 ⟨Nat.le_of_ble_eq_true rfl, Nat.le_of_ble_eq_true rfl⟩) (p_preV C hw hL_cor0 hf_cor0 rfl) rfl rfl hl.1 rfl (lv_room (Nat.le_of_ble_eq_true rfl)) dX11_putBehind_31 ⟨Nat.le_of_ble_eq_true rfl, Nat.le_of_ble_eq_true rfl⟩) hw hA (fun r6 S5 H locs hpost hw => ?_)
    obtain ⟨hr_, hS_⟩ := hpost
    subst hr_
    subst hS_
    refine p_calli (va_runU (x := ⟨"SoundingLine$Stage", "sizeOf", "(I)I"⟩) (As := [.int (nI 0)]) (rest := []) C.fix (e_X0_sizeOf0 l D cy S H.size st sw sa sb hL_st hf_st (by first | assumption | decide | omega)) (va_cwA 1 C.2.2.2.2.1 (gU_U mw_580 mw_143 mw_144 mw_145 mw_146 (subU mw_147)) rfl rfl rfl (C.dcl 0 _ rfl) hdue_X11_putBehindblk_3 ⟨Nat.le_of_ble_eq_true rfl, Nat.le_of_ble_eq_true rfl⟩) (p_preV C hw hL_st hf_st rfl) rfl rfl hl.1 rfl (lv_room (Nat.le_of_ble_eq_true rfl)) dX11_putBehind_34 ⟨Nat.le_of_ble_eq_true rfl, Nat.le_of_ble_eq_true rfl⟩) hw hA (fun r8 S7 H locs hpost hw => ?_)
    obtain ⟨hr_, hS_⟩ := hpost
    subst hr_
    subst hS_
    refine lv_sipush (v := nI 320) hx hb dX11_putBehind_37 (by decide) ?_
    refine n_icmp_le (tgt := 53) hx hb (by first | decide | omega) (by first | decide | omega) dX11_putBehind_40 (by decide) (fun h_40 => ?_) (fun h_40 => ?_)
    · skip
      refine lv_aload_n hx hb dX11_putBehind_53 rfl (lv_at hl 0 rfl) ?_
      refine p_get C hw (ci := 11) (Cn := RX11) (T := TX11) (N := 8) hL_x hf_x rfl hin_RX11 0 (by decide) (mU mw_17) rfl rfl dX11_putBehind_54 ?_
      refine lv_aload_n hx hb dX11_putBehind_57 rfl (lv_at hl 1 rfl) ?_
      refine p_callv (va_runV (As := [.ref st]) (rest := []) C.fix (c_X1_append l D cy S H.size ch lk 0 st 1 0 3 (fun _ => none) RX0 TX0 ([.int (nI sa), .int (nI sb), .ref sw]) hL_ch hf_ch hL_lk hf_lk (by first | assumption | decide | omega) hL_st hf_st rfl rfl) (cwV 1 C.2.2.2.2.1 (gU_V mw_581 mw_582 mw_583 mw_16 sub_X1_append) rfl rfl rfl hde_X11_putBehindblk_V_4 ⟨Nat.le_of_ble_eq_true rfl, Nat.le_of_ble_eq_true rfl⟩) (p_preV C hw hL_ch hf_ch rfl) rfl rfl hl.1 rfl (lv_room (Nat.le_of_ble_eq_true rfl)) dX11_putBehind_58 ⟨Nat.le_of_ble_eq_true rfl, Nat.le_of_ble_eq_true rfl⟩) hw hA (fun S9 H locs hpost hw => ?_)
      have hS_ := hpost
      obtain ⟨S11, hS11⟩ : ∃ z, z = pup S lk (aQ (cy 3) 4 (va_up (fun _ => none) 0 (some st))) := ⟨_, rfl⟩
      rw [← hS11] at hS_
      have hL12 : lk ∈ S11.1 := by rw [hS11]; exact hL_lk
      have hf13 : S11.2 lk = aQ (cy 3) 4 (va_up (fun _ => none) 0 (some st)) := by rw [hS11]; exact pup_s
      try rw [show 0 + 1 = 1 from rfl] at hS_
      have hL14 : ch ∈ S11.1 := by rw [hS11]; exact hL_ch
      have hf15 : S11.2 ch = .inr (2, [.ref lk, .int (nI 0)]) := by rw [hS11]; exact (pup_n (ne_cells hf_ch hf_lk (by nofun))).trans hf_ch
      have hS16 := hS_
      have hL17 : ch ∈ S9.1 := by rw [hS16]; exact hL14
      have hf18 : S9.2 ch = .inr (2, [.ref lk, .int (nI 1)]) := by rw [hS16]; exact pup_s
      refine lv_aload_n hx hb dX11_putBehind_61 rfl (lv_at hl 0 rfl) ?_
      have hL19 : x ∈ S11.1 := by rw [hS11]; exact hL_x
      have hf20 : S11.2 x = .inr (11, [.ref ch, .ref ln, .ref sl, .ref mk, .ref co, .ref ca, .ref su, .ref lt]) := by rw [hS11]; exact (pup_n (ne_cells hf_x hf_lk (by nofun))).trans hf_x
      have hL21 : x ∈ S9.1 := by rw [hS16]; exact hL19
      have hf22 : S9.2 x = .inr (11, [.ref ch, .ref ln, .ref sl, .ref mk, .ref co, .ref ca, .ref su, .ref lt]) := by rw [hS16]; exact (pup_n (ne_cells hf20 hf15 (by nofun))).trans hf20
      have hL23 : lk ∈ S9.1 := by rw [hS16]; exact hL12
      have hf24 : S9.2 lk = aQ (cy 3) 4 (va_up (fun _ => none) 0 (some st)) := by rw [hS16]; exact (pup_n (ne_cells hf13 hf15 (by nofun))).trans hf13
      have hL25 : ln ∈ S11.1 := by rw [hS11]; exact hL_ln
      have hf26 : S11.2 ln = .inr (6, [.int (nI 0), .int (nI 0), .int (nI 0), .int (nI 0)]) := by rw [hS11]; exact (pup_n (ne_cells hf_ln hf_lk (by nofun))).trans hf_ln
      have hL27 : ln ∈ S9.1 := by rw [hS16]; exact hL25
      have hf28 : S9.2 ln = .inr (6, [.int (nI 0), .int (nI 0), .int (nI 0), .int (nI 0)]) := by rw [hS16]; exact (pup_n (ne_cells hf26 hf15 (by nofun))).trans hf26
      have hL29 : mk ∈ S11.1 := by rw [hS11]; exact hL_mk
      have hf30 : S11.2 mk = .inr (8, [.ref mb, .int (nI 320)]) := by rw [hS11]; exact (pup_n (ne_cells hf_mk hf_lk (by nofun))).trans hf_mk
      have hL31 : mk ∈ S9.1 := by rw [hS16]; exact hL29
      have hf32 : S9.2 mk = .inr (8, [.ref mb, .int (nI 320)]) := by rw [hS16]; exact (pup_n (ne_cells hf30 hf15 (by nofun))).trans hf30
      have hL33 : mb ∈ S11.1 := by rw [hS11]; exact hL_mb
      have hf34 : S11.2 mb = aN (cy 0) 320 (fun _ => 0) := by rw [hS11]; exact (pup_n (ne_cells hf_mb hf_lk ne_NQ)).trans hf_mb
      have hL35 : mb ∈ S9.1 := by rw [hS16]; exact hL33
      have hf36 : S9.2 mb = aN (cy 0) 320 (fun _ => 0) := by rw [hS16]; exact (pup_n (ne_cells hf34 hf15 (by nofun))).trans hf34
      have hL37 : co ∈ S11.1 := by rw [hS11]; exact hL_co
      have hf38 : S11.2 co = .inr (5, [.ref col, .ref con]) := by rw [hS11]; exact (pup_n (ne_cells hf_co hf_lk (by nofun))).trans hf_co
      have hL39 : co ∈ S9.1 := by rw [hS16]; exact hL37
      have hf40 : S9.2 co = .inr (5, [.ref col, .ref con]) := by rw [hS16]; exact (pup_n (ne_cells hf38 hf15 (by nofun))).trans hf38
      have hL41 : col ∈ S11.1 := by rw [hS11]; exact hL_col
      have hf42 : S11.2 col = aQ (cy 2) 5 (va_up (va_up (va_up (va_up (va_up (fun _ => none) 0 (some cor0)) 1 (some cor1)) 2 (some cor2)) 3 (some cor3)) 4 (some cor4)) := by rw [hS11]; exact (pup_n hne_col_lk).trans hf_col
      have hL43 : col ∈ S9.1 := by rw [hS16]; exact hL41
      have hf44 : S9.2 col = aQ (cy 2) 5 (va_up (va_up (va_up (va_up (va_up (fun _ => none) 0 (some cor0)) 1 (some cor1)) 2 (some cor2)) 3 (some cor3)) 4 (some cor4)) := by rw [hS16]; exact (pup_n (ne_cells hf42 hf15 (by nofun))).trans hf42
      have hL45 : cor0 ∈ S11.1 := by rw [hS11]; exact hL_cor0
      have hf46 : S11.2 cor0 = .inr (8, [.ref cob0, .int (nI 0)]) := by rw [hS11]; exact (pup_n (ne_cells hf_cor0 hf_lk (by nofun))).trans hf_cor0
      have hL47 : cor0 ∈ S9.1 := by rw [hS16]; exact hL45
      have hf48 : S9.2 cor0 = .inr (8, [.ref cob0, .int (nI 0)]) := by rw [hS16]; exact (pup_n (ne_cells hf46 hf15 (by nofun))).trans hf46
      have hL49 : cor1 ∈ S11.1 := by rw [hS11]; exact hL_cor1
      have hf50 : S11.2 cor1 = .inr (8, [.ref cob1, .int (nI 0)]) := by rw [hS11]; exact (pup_n (ne_cells hf_cor1 hf_lk (by nofun))).trans hf_cor1
      have hL51 : cor1 ∈ S9.1 := by rw [hS16]; exact hL49
      have hf52 : S9.2 cor1 = .inr (8, [.ref cob1, .int (nI 0)]) := by rw [hS16]; exact (pup_n (ne_cells hf50 hf15 (by nofun))).trans hf50
      have hL53 : cob1 ∈ S11.1 := by rw [hS11]; exact hL_cob1
      have hf54 : S11.2 cob1 = aN (cy 0) 320 (fun _ => 0) := by rw [hS11]; exact (pup_n (ne_cells hf_cob1 hf_lk ne_NQ)).trans hf_cob1
      have hL55 : cob1 ∈ S9.1 := by rw [hS16]; exact hL53
      have hf56 : S9.2 cob1 = aN (cy 0) 320 (fun _ => 0) := by rw [hS16]; exact (pup_n (ne_cells hf54 hf15 (by nofun))).trans hf54
      have hL57 : ca ∈ S11.1 := by rw [hS11]; exact hL_ca
      have hf58 : S11.2 ca = .inr (5, [.ref cal, .ref can]) := by rw [hS11]; exact (pup_n (ne_cells hf_ca hf_lk (by nofun))).trans hf_ca
      have hL59 : ca ∈ S9.1 := by rw [hS16]; exact hL57
      have hf60 : S9.2 ca = .inr (5, [.ref cal, .ref can]) := by rw [hS16]; exact (pup_n (ne_cells hf58 hf15 (by nofun))).trans hf58
      have hL61 : cal ∈ S11.1 := by rw [hS11]; exact hL_cal
      have hf62 : S11.2 cal = aQ (cy 2) 5 (va_up (va_up (va_up (va_up (va_up (fun _ => none) 0 (some car0)) 1 (some car1)) 2 (some car2)) 3 (some car3)) 4 (some car4)) := by rw [hS11]; exact (pup_n hne_cal_lk).trans hf_cal
      have hL63 : cal ∈ S9.1 := by rw [hS16]; exact hL61
      have hf64 : S9.2 cal = aQ (cy 2) 5 (va_up (va_up (va_up (va_up (va_up (fun _ => none) 0 (some car0)) 1 (some car1)) 2 (some car2)) 3 (some car3)) 4 (some car4)) := by rw [hS16]; exact (pup_n (ne_cells hf62 hf15 (by nofun))).trans hf62
      have hL65 : car0 ∈ S11.1 := by rw [hS11]; exact hL_car0
      have hf66 : S11.2 car0 = .inr (8, [.ref cab0, .int (nI 0)]) := by rw [hS11]; exact (pup_n (ne_cells hf_car0 hf_lk (by nofun))).trans hf_car0
      have hL67 : car0 ∈ S9.1 := by rw [hS16]; exact hL65
      have hf68 : S9.2 car0 = .inr (8, [.ref cab0, .int (nI 0)]) := by rw [hS16]; exact (pup_n (ne_cells hf66 hf15 (by nofun))).trans hf66
      have hL69 : cab0 ∈ S11.1 := by rw [hS11]; exact hL_cab0
      have hf70 : S11.2 cab0 = aN (cy 0) 32 (fun _ => 0) := by rw [hS11]; exact (pup_n (ne_cells hf_cab0 hf_lk ne_NQ)).trans hf_cab0
      have hL71 : cab0 ∈ S9.1 := by rw [hS16]; exact hL69
      have hf72 : S9.2 cab0 = aN (cy 0) 32 (fun _ => 0) := by rw [hS16]; exact (pup_n (ne_cells hf70 hf15 (by nofun))).trans hf70
      have hL73 : car1 ∈ S11.1 := by rw [hS11]; exact hL_car1
      have hf74 : S11.2 car1 = .inr (8, [.ref cab1, .int (nI 0)]) := by rw [hS11]; exact (pup_n (ne_cells hf_car1 hf_lk (by nofun))).trans hf_car1
      have hL75 : car1 ∈ S9.1 := by rw [hS16]; exact hL73
      have hf76 : S9.2 car1 = .inr (8, [.ref cab1, .int (nI 0)]) := by rw [hS16]; exact (pup_n (ne_cells hf74 hf15 (by nofun))).trans hf74
      have hL77 : cab1 ∈ S11.1 := by rw [hS11]; exact hL_cab1
      have hf78 : S11.2 cab1 = aN (cy 0) 320 (fun _ => 0) := by rw [hS11]; exact (pup_n (ne_cells hf_cab1 hf_lk ne_NQ)).trans hf_cab1
      have hL79 : cab1 ∈ S9.1 := by rw [hS16]; exact hL77
      have hf80 : S9.2 cab1 = aN (cy 0) 320 (fun _ => 0) := by rw [hS16]; exact (pup_n (ne_cells hf78 hf15 (by nofun))).trans hf78
      have hL81 : st ∈ S11.1 := by rw [hS11]; exact hL_st
      have hf82 : S11.2 st = .inr (1, [.int (nI sa), .int (nI sb), .ref sw]) := by rw [hS11]; exact (pup_n (ne_cells hf_st hf_lk (by nofun))).trans hf_st
      have hL83 : st ∈ S9.1 := by rw [hS16]; exact hL81
      have hf84 : S9.2 st = .inr (1, [.int (nI sa), .int (nI sb), .ref sw]) := by rw [hS16]; exact (pup_n (ne_cells hf82 hf15 (by nofun))).trans hf82
      refine p_callv (va_runV (As := []) (rest := []) C.fix (e_X11_settle1blk l D cy S9 H.size x ch ln sl mk co ca su lt lk mb col con cor0 cor1 cor2 cor3 cor4 cob0 cob1 cal can car0 car1 car2 car3 car4 cab0 cab1 st sw (va_up (fun _ => none) 0 (some st)) sa sb hL21 hf22 hL17 hf18 hL23 hf24 hL27 hf28 hL31 hf32 hL35 hf36 hL39 hf40 hL43 hf44 hL47 hf48 hL51 hf52 hL55 hf56 hL59 hf60 hL63 hf64 hL67 hf68 hL71 hf72 hL75 hf76 hL79 hf80 hL83 hf84 hne_cor0_cor1 hne_mk_cor1 hne_car1_cor1 hne_cob1_cab1 hne_mk_car1 hne_mb_cab1 hne_cor0_car1 hne_car0_cor1 hne_car0_car1 hne_cab0_cab1 (by first | assumption | rfl | simp [va_up]) (by first | assumption | decide | omega)) (cwV 0 C.2.2.2.2.1 (gU_V mw_187 mw_188 mw_189 mw_2 (subU mw_190)) rfl rfl rfl hde_X11_putBehindblk_V_5 ⟨Nat.le_of_ble_eq_true rfl, Nat.le_of_ble_eq_true rfl⟩) (p_preV C hw hL21 hf22 rfl) rfl rfl hl.1 rfl (lv_room (Nat.le_of_ble_eq_true rfl)) dX11_putBehind_62 ⟨Nat.le_of_ble_eq_true rfl, Nat.le_of_ble_eq_true rfl⟩) hw hA (fun S85 H locs hpost hw => ?_)
      obtain ⟨hS87, hfr88, hf89⟩ := hpost
      have hL90 : cor1 ∈ S85.1 := by rw [hS87]; exact List.mem_append_left _ hL51
      refine lv_aload_n hx hb dX11_putBehind_65 rfl (lv_at hl 0 rfl) ?_
      refine lv_aload_n hx hb dX11_putBehind_66 rfl (lv_at hl 0 rfl) ?_
      have hL91 : x ∈ S85.1 := by rw [hS87]; exact List.mem_append_left _ hL21
      have hf92 : S85.2 x = .inr (11, [.ref ch, .ref ln, .ref sl, .ref mk, .ref co, .ref ca, .ref su, .ref lt]) := (hfr88 x hL21 (ne_cells hf22 hf52 (by nofun)) (ne_cells hf22 hf76 (by nofun)) (ne_cells hf22 hf80 (by nofun)) (ne_cells hf22 hf68 (by nofun))).trans hf22
      refine p_get C hw (ci := 11) (Cn := RX11) (T := TX11) (N := 8) hL91 hf92 rfl hin_RX11 4 (by decide) (mU mw_30) rfl rfl dX11_putBehind_67 ?_
      have hL93 : ch ∈ S85.1 := by rw [hS87]; exact List.mem_append_left _ hL17
      have hf94 : S85.2 ch = .inr (2, [.ref lk, .int (nI 1)]) := (hfr88 ch hL17 (ne_cells hf18 hf52 (by nofun)) (ne_cells hf18 hf76 (by nofun)) (ne_cells hf18 hf80 (by nofun)) (ne_cells hf18 hf68 (by nofun))).trans hf18
      have hL95 : co ∈ S85.1 := by rw [hS87]; exact List.mem_append_left _ hL39
      have hf96 : S85.2 co = .inr (5, [.ref col, .ref con]) := (hfr88 co hL39 (ne_cells hf40 hf52 (by nofun)) (ne_cells hf40 hf76 (by nofun)) (ne_cells hf40 hf80 (by nofun)) (ne_cells hf40 hf68 (by nofun))).trans hf40
      have hL97 : col ∈ S85.1 := by rw [hS87]; exact List.mem_append_left _ hL43
      have hf98 : S85.2 col = aQ (cy 2) 5 (va_up (va_up (va_up (va_up (va_up (fun _ => none) 0 (some cor0)) 1 (some cor1)) 2 (some cor2)) 3 (some cor3)) 4 (some cor4)) := (hfr88 col hL43 (ne_cells hf44 hf52 (by nofun)) (ne_cells hf44 hf76 (by nofun)) (ne_cells hf44 hf80 ne_QN) (ne_cells hf44 hf68 (by nofun))).trans hf44
      refine p_callq (va_runV (As := [.ref co]) (rest := []) C.fix (e_X11_last1 l D cy S85 H.size x co ch ln sl mk co ca su lt lk col con (va_up (va_up (va_up (va_up (va_up (fun _ => none) 0 (some cor0)) 1 (some cor1)) 2 (some cor2)) 3 (some cor3)) 4 (some cor4)) cor1 hL91 hf92 hL93 hf94 hL95 hf96 hL97 hf98 (by first | assumption | rfl | simp [va_up])) (cwV 1 C.2.2.2.2.1 (gU_V mw_256 mw_257 mw_258 mw_2 (subU mw_259)) rfl rfl rfl hde_X11_putBehindblk_V_1 ⟨Nat.le_of_ble_eq_true rfl, Nat.le_of_ble_eq_true rfl⟩) (p_preV C hw hL91 hf92 rfl) rfl rfl hl.1 rfl (lv_room (Nat.le_of_ble_eq_true rfl)) dX11_putBehind_70 ⟨Nat.le_of_ble_eq_true rfl, Nat.le_of_ble_eq_true rfl⟩) hw hA (fun r100 S99 H locs hpost hw => ?_)
      obtain ⟨hr_, hS_⟩ := hpost
      subst hr_
      subst hS_
      refine p_calli (va_runV (As := []) (rest := []) C.fix (c_X7_size l D cy S85 H.size cor1 cob1 0 hL90 hf89) (cwV 0 C.2.2.2.2.1 (gU_V mw_130 mw_131 mw_132 mw_25 sub_X7_size) rfl rfl rfl hde_X11_putBehindblk_V_2 ⟨Nat.le_of_ble_eq_true rfl, Nat.le_of_ble_eq_true rfl⟩) (p_preV C hw hL90 hf89 rfl) rfl rfl hl.1 rfl (lv_room (Nat.le_of_ble_eq_true rfl)) dX11_putBehind_73 ⟨Nat.le_of_ble_eq_true rfl, Nat.le_of_ble_eq_true rfl⟩) hw hA (fun r102 S101 H locs hpost hw => ?_)
      obtain ⟨hr_, hS_⟩ := hpost
      subst hr_
      subst hS_
      exact (p_iret C hw (⟨rfl, (by simp only [hS87, hS16, hS11, pup, pnew, List.append_nil, List.append_assoc, List.cons_append, List.nil_append]), (fun a_ ha_ hn_0 hn_1 hn_2 hn_3 hn_4 hn_5 => ((hfr88 a_ (show a_ ∈ S9.1 from by rw [hS16]; exact (show a_ ∈ S11.1 from by rw [hS11]; exact ha_)) hn_2 hn_3 hn_4 hn_5).trans ((show S9.2 a_ = S11.2 a_ from by rw [hS16]; exact pup_n hn_1).trans (show S11.2 a_ = S.2 a_ from by rw [hS11]; exact pup_n hn_0))))⟩) hr hlocks dX11_putBehind_76)
    · exact absurd h_40 (by first | decide | omega)
  · exact absurd h_8 (by first | decide | omega)

theorem hde_X2_sizeOf0_S_0 : yX11_blocksOf.cls ≠ "java/lang/invoke/MethodHandle" ∧ yX11_blocksOf.cls ≠ "java/lang/invoke/VarHandle" ∧ (parseMethodDescriptor yX11_blocksOf.desc).map (fun d => d.parameters.length) = some 2 := by decide +kernel
set_option maxHeartbeats 4000000 in
set_option maxRecDepth 100000 in
theorem e_X2_sizeOf0 (l : Launch) (D : va_G) (cy : Nat → ClassId) (S : pS) (sz : Nat) (st : Nat) (sa : Nat) (sb : Nat) (sc : Nat) (hL_st : st ∈ S.1) (hf_st : S.2 st = .inr (3, [.int (nI sa), .int (nI sb), .int (nI sc)])) (hsb : sb < 2 ^ 31) : Met l yX2_sizeOf (Cond.code yX2_sizeOf cX2_sizeOf 2 (some .int) :: lwU) ({ frames := 1, cells := 0, slots := 0, locals := 21 }) (pPc D cy S sz [.ref st, .int (nI 0)]) (pQi D cy S sz (fun r S' => r = (nI 0) ∧ S = S')) 0 0 (pA S sz) := by
  refine Met.ofW (cc := cX2_sizeOf) (maxL := 2) (ret := (some .int)) (by decide) rfl ?_
  intro p e s m args below meth c s₁ B hml hv
  obtain ⟨rfl, rfl, C, hw, hA, hr, hlocks⟩ := p_start B hml hv
  have hx := C.1
  have hb := C.2.1
  have hl := lv_entry ([.ref st, .int (nI 0)]) (n := 2) (Nat.le_of_ble_eq_true rfl)
  rw [lg_entry_eq]
  generalize (lg_sl ([.ref st, .int (nI 0)]) ++ List.replicate (2 - (lg_sl ([.ref st, .int (nI 0)])).length) Slot.unset).toArray = ls at hl ⊢
  have hl : lv_has ls 2 [(0, .ref st), (1, .int (nI 0))] := hl
  have hin_RX2 : ∀ w ∈ u_ws RX2 TX2 3, w ∈ (Cond.code yX2_sizeOf cX2_sizeOf 2 (some .int) :: lwU) := fun w h => mU (sub_RX2 w h)
  refine lv_iload_n hx hb dX2_sizeOf_0 rfl (lv_at hl 1 rfl) ?_
  refine lv_aload_n hx hb dX2_sizeOf_1 rfl (lv_at hl 0 rfl) ?_
  refine p_get C hw (ci := 3) (Cn := RX2) (T := TX2) (N := 3) hL_st hf_st rfl hin_RX2 1 (by decide) (mU mw_156) rfl rfl dX2_sizeOf_2 ?_
  refine p_calli (va_runSN (As := [.int (nI 0), .int (nI sb)]) (rest := []) C.fix (e_X11_blocksOf0 l D cy S s.heap.size sb  (by first | assumption | decide | omega)) ⟨va_cnB 2 C.2.2.2.2.1 (gU_sub (subU mw_151)) rfl rfl rfl (show va_Nw (.methodLinkNest RX2 25 yX11_blocksOf "SoundingLine") s from C.nst 4 (RX2, 25, yX11_blocksOf) rfl) (C.2.2.2.2.1 (.initialized RX11) (mU mw_2)) hde_X2_sizeOf0_S_0 ⟨Nat.le_of_ble_eq_true rfl, Nat.le_of_ble_eq_true rfl⟩, C.2.2.2.2.1 (.static yX11_blocksOf) (mU mw_150), trivial⟩ (p_preS C hw) rfl rfl hl.1 rfl (lv_room (Nat.le_of_ble_eq_true rfl)) dX2_sizeOf_5 ⟨Nat.le_of_ble_eq_true rfl, Nat.le_of_ble_eq_true rfl⟩) hw hA (fun r2 S1 H locs hpost hw => ?_)
  obtain ⟨hr_, hS_⟩ := hpost
  subst hr_
  subst hS_
  refine lv_aload_n hx hb dX2_sizeOf_8 rfl (lv_at hl 0 rfl) ?_
  refine p_get C hw (ci := 3) (Cn := RX2) (T := TX2) (N := 3) hL_st hf_st rfl hin_RX2 1 (by decide) (mU mw_156) rfl rfl dX2_sizeOf_9 ?_
  refine lv_aload_n hx hb dX2_sizeOf_12 rfl (lv_at hl 0 rfl) ?_
  refine p_get C hw (ci := 3) (Cn := RX2) (T := TX2) (N := 3) hL_st hf_st rfl hin_RX2 2 (by decide) (mU mw_157) rfl rfl dX2_sizeOf_13 ?_
  refine n_iadd hx hb dX2_sizeOf_16 ?_
  refine n_imul hx hb dX2_sizeOf_17 ?_
  refine n_ren (b := 0) (by first | rfl | omega | simp) ?_
  exact (p_iret C hw (⟨rfl, rfl⟩) hr hlocks dX2_sizeOf_18)

theorem hde_X2_code0_V_0 : yX7_size.cls = RX7 ∧ yX7_size.cls ≠ "java/lang/invoke/MethodHandle" ∧ yX7_size.cls ≠ "java/lang/invoke/VarHandle" ∧ (parseMethodDescriptor yX7_size.desc).map (fun d => d.parameters.length) = some 0 := by decide +kernel
theorem hde_X2_code0_S_1 : yX11_blocksOf.cls ≠ "java/lang/invoke/MethodHandle" ∧ yX11_blocksOf.cls ≠ "java/lang/invoke/VarHandle" ∧ (parseMethodDescriptor yX11_blocksOf.desc).map (fun d => d.parameters.length) = some 2 := by decide +kernel
set_option maxHeartbeats 4000000 in
set_option maxRecDepth 100000 in
theorem e_X2_code0 (l : Launch) (D : va_G) (cy : Nat → ClassId) (S : pS) (sz : Nat) (st : Nat) (f : Nat) (o : Nat) (fb : Nat) (sa : Nat) (sb : Nat) (sc : Nat) (hL_st : st ∈ S.1) (hf_st : S.2 st = .inr (3, [.int (nI sa), .int (nI sb), .int (nI sc)])) (hL_f : f ∈ S.1) (hf_f : S.2 f = .inr (8, [.ref fb, .int (nI 0)])) (hsb : sb < 2 ^ 31) : Met l yX2_code (Cond.code yX2_code cX2_code 7 none :: lwU) ({ frames := 1, cells := 0, slots := 0, locals := 21 }) (pPc D cy S sz [.ref st, .ref f, .ref o]) (pQv D cy S sz (fun S' => S = S')) 0 0 (pA S sz) := by
  refine Met.ofW (cc := cX2_code) (maxL := 7) (ret := none) (by decide) rfl ?_
  intro p e s m args below meth c s₁ B hml hv
  obtain ⟨rfl, rfl, C, hw, hA, hr, hlocks⟩ := p_start B hml hv
  have hx := C.1
  have hb := C.2.1
  have hl := lv_entry ([.ref st, .ref f, .ref o]) (n := 7) (Nat.le_of_ble_eq_true rfl)
  rw [lg_entry_eq]
  generalize (lg_sl ([.ref st, .ref f, .ref o]) ++ List.replicate (7 - (lg_sl ([.ref st, .ref f, .ref o])).length) Slot.unset).toArray = ls at hl ⊢
  have hl : lv_has ls 7 [(0, .ref st), (1, .ref f), (2, .ref o)] := hl
  have hin_RX2 : ∀ w ∈ u_ws RX2 TX2 3, w ∈ (Cond.code yX2_code cX2_code 7 none :: lwU) := fun w h => mU (sub_RX2 w h)
  refine lv_aload_n hx hb dX2_code_0 rfl (lv_at hl 1 rfl) ?_
  refine p_calli (va_runV (As := []) (rest := []) C.fix (c_X7_size l D cy S s.heap.size f fb 0 hL_f hf_f) (cwV 0 C.2.2.2.2.1 (gU_V mw_219 mw_131 mw_132 mw_25 sub_X7_size) rfl rfl rfl hde_X2_code0_V_0 ⟨Nat.le_of_ble_eq_true rfl, Nat.le_of_ble_eq_true rfl⟩) (p_preV C hw hL_f hf_f rfl) rfl rfl hl.1 rfl (lv_room (Nat.le_of_ble_eq_true rfl)) dX2_code_1 ⟨Nat.le_of_ble_eq_true rfl, Nat.le_of_ble_eq_true rfl⟩) hw hA (fun r2 S1 H locs hpost hw => ?_)
  obtain ⟨hr_, hS_⟩ := hpost
  subst hr_
  subst hS_
  refine lv_aload_n hx hb dX2_code_4 rfl (lv_at hl 0 rfl) ?_
  refine p_get C hw (ci := 3) (Cn := RX2) (T := TX2) (N := 3) hL_st hf_st rfl hin_RX2 1 (by decide) (mU mw_156) rfl rfl dX2_code_5 ?_
  refine p_calli (va_runSN (As := [.int (nI 0), .int (nI sb)]) (rest := []) C.fix (e_X11_blocksOf0 l D cy S H.size sb  (by first | assumption | decide | omega)) ⟨va_cnB 2 C.2.2.2.2.1 (gU_sub (subU mw_151)) rfl rfl rfl (show va_Nw (.methodLinkNest RX2 25 yX11_blocksOf "SoundingLine") s from C.nst 4 (RX2, 25, yX11_blocksOf) rfl) (C.2.2.2.2.1 (.initialized RX11) (mU mw_2)) hde_X2_code0_S_1 ⟨Nat.le_of_ble_eq_true rfl, Nat.le_of_ble_eq_true rfl⟩, C.2.2.2.2.1 (.static yX11_blocksOf) (mU mw_150), trivial⟩ (p_preS C hw) rfl rfl hl.1 rfl (lv_room (Nat.le_of_ble_eq_true rfl)) dX2_code_8 ⟨Nat.le_of_ble_eq_true rfl, Nat.le_of_ble_eq_true rfl⟩) hw hA (fun r4 S3 H locs hpost hw => ?_)
  obtain ⟨hr_, hS_⟩ := hpost
  subst hr_
  subst hS_
  refine lv_istore_n (lv' := [(3, .int (nI 0)), (0, .ref st), (1, .ref f), (2, .ref o)]) hx hb dX2_code_11 rfl hl (by decide) rfl (fun ls hl => ?_)
  refine lv_aload_n hx hb dX2_code_12 rfl (lv_at hl 1 rfl) ?_
  refine p_get C hw (ci := 3) (Cn := RX2) (T := TX2) (N := 3) hL_st hf_st rfl hin_RX2 1 (by decide) (mU mw_156) rfl rfl dX2_code_13 ?_
  refine lv_aload_n hx hb dX2_code_16 rfl (lv_at hl 1 rfl) ?_
  refine p_get C hw (ci := 3) (Cn := RX2) (T := TX2) (N := 3) hL_st hf_st rfl hin_RX2 2 (by decide) (mU mw_157) rfl rfl dX2_code_17 ?_
  refine n_iadd hx hb dX2_code_20 ?_
  refine lv_istore (lv' := [(4, .int (nI (sb + sc))), (3, .int (nI 0)), (0, .ref st), (1, .ref f), (2, .ref o)]) hx hb dX2_code_21 hl (by decide) rfl (fun ls hl => ?_)
  refine lv_iconst (v := nI 0) hx hb dX2_code_23 (by decide) ?_
  refine lv_istore (lv' := [(5, .int (nI 0)), (4, .int (nI (sb + sc))), (3, .int (nI 0)), (0, .ref st), (1, .ref f), (2, .ref o)]) hx hb dX2_code_24 hl (by decide) rfl (fun ls hl => ?_)
  refine lv_iload hx hb dX2_code_26 (lv_at hl 0 rfl) ?_
  refine lv_iload_n hx hb dX2_code_28 rfl (lv_at hl 2 rfl) ?_
  refine n_icmp_ge (tgt := 113) hx hb (by first | decide | omega) (by first | decide | omega) dX2_code_29 (by decide) (fun h_29 => ?_) (fun h_29 => ?_)
  · skip
    exact (p_vret C hw (rfl) hr hlocks dX2_code_113)
  · exact absurd h_29 (by first | decide | omega)

theorem hde_X2_decode0_V_0 : yX7_size.cls = RX7 ∧ yX7_size.cls ≠ "java/lang/invoke/MethodHandle" ∧ yX7_size.cls ≠ "java/lang/invoke/VarHandle" ∧ (parseMethodDescriptor yX7_size.desc).map (fun d => d.parameters.length) = some 0 := by decide +kernel
theorem hde_X2_decode0_S_1 : yX11_blocksOf.cls ≠ "java/lang/invoke/MethodHandle" ∧ yX11_blocksOf.cls ≠ "java/lang/invoke/VarHandle" ∧ (parseMethodDescriptor yX11_blocksOf.desc).map (fun d => d.parameters.length) = some 2 := by decide +kernel
set_option maxHeartbeats 4000000 in
set_option maxRecDepth 100000 in
theorem e_X2_decode0 (l : Launch) (D : va_G) (cy : Nat → ClassId) (S : pS) (sz : Nat) (st : Nat) (f : Nat) (o : Nat) (obb : Nat) (sa : Nat) (sb : Nat) (sc : Nat) (hL_st : st ∈ S.1) (hf_st : S.2 st = .inr (3, [.int (nI sa), .int (nI sb), .int (nI sc)])) (hL_o : o ∈ S.1) (hf_o : S.2 o = .inr (8, [.ref obb, .int (nI 0)])) (hsb : sb < 2 ^ 31) : Met l yX2_decode (Cond.code yX2_decode cX2_decode 6 none :: lwU) ({ frames := 1, cells := 0, slots := 0, locals := 21 }) (pPc D cy S sz [.ref st, .ref f, .ref o]) (pQv D cy S sz (fun S' => S = S')) 0 0 (pA S sz) := by
  refine Met.ofW (cc := cX2_decode) (maxL := 6) (ret := none) (by decide) rfl ?_
  intro p e s m args below meth c s₁ B hml hv
  obtain ⟨rfl, rfl, C, hw, hA, hr, hlocks⟩ := p_start B hml hv
  have hx := C.1
  have hb := C.2.1
  have hl := lv_entry ([.ref st, .ref f, .ref o]) (n := 6) (Nat.le_of_ble_eq_true rfl)
  rw [lg_entry_eq]
  generalize (lg_sl ([.ref st, .ref f, .ref o]) ++ List.replicate (6 - (lg_sl ([.ref st, .ref f, .ref o])).length) Slot.unset).toArray = ls at hl ⊢
  have hl : lv_has ls 6 [(0, .ref st), (1, .ref f), (2, .ref o)] := hl
  have hin_RX2 : ∀ w ∈ u_ws RX2 TX2 3, w ∈ (Cond.code yX2_decode cX2_decode 6 none :: lwU) := fun w h => mU (sub_RX2 w h)
  refine lv_aload_n hx hb dX2_decode_0 rfl (lv_at hl 2 rfl) ?_
  refine p_calli (va_runV (As := []) (rest := []) C.fix (c_X7_size l D cy S s.heap.size o obb 0 hL_o hf_o) (cwV 0 C.2.2.2.2.1 (gU_V mw_219 mw_131 mw_132 mw_25 sub_X7_size) rfl rfl rfl hde_X2_decode0_V_0 ⟨Nat.le_of_ble_eq_true rfl, Nat.le_of_ble_eq_true rfl⟩) (p_preV C hw hL_o hf_o rfl) rfl rfl hl.1 rfl (lv_room (Nat.le_of_ble_eq_true rfl)) dX2_decode_1 ⟨Nat.le_of_ble_eq_true rfl, Nat.le_of_ble_eq_true rfl⟩) hw hA (fun r2 S1 H locs hpost hw => ?_)
  obtain ⟨hr_, hS_⟩ := hpost
  subst hr_
  subst hS_
  refine lv_aload_n hx hb dX2_decode_4 rfl (lv_at hl 0 rfl) ?_
  refine p_get C hw (ci := 3) (Cn := RX2) (T := TX2) (N := 3) hL_st hf_st rfl hin_RX2 1 (by decide) (mU mw_156) rfl rfl dX2_decode_5 ?_
  refine p_calli (va_runSN (As := [.int (nI 0), .int (nI sb)]) (rest := []) C.fix (e_X11_blocksOf0 l D cy S H.size sb  (by first | assumption | decide | omega)) ⟨va_cnB 2 C.2.2.2.2.1 (gU_sub (subU mw_151)) rfl rfl rfl (show va_Nw (.methodLinkNest RX2 25 yX11_blocksOf "SoundingLine") s from C.nst 4 (RX2, 25, yX11_blocksOf) rfl) (C.2.2.2.2.1 (.initialized RX11) (mU mw_2)) hde_X2_decode0_S_1 ⟨Nat.le_of_ble_eq_true rfl, Nat.le_of_ble_eq_true rfl⟩, C.2.2.2.2.1 (.static yX11_blocksOf) (mU mw_150), trivial⟩ (p_preS C hw) rfl rfl hl.1 rfl (lv_room (Nat.le_of_ble_eq_true rfl)) dX2_decode_8 ⟨Nat.le_of_ble_eq_true rfl, Nat.le_of_ble_eq_true rfl⟩) hw hA (fun r4 S3 H locs hpost hw => ?_)
  obtain ⟨hr_, hS_⟩ := hpost
  subst hr_
  subst hS_
  refine lv_istore_n (lv' := [(3, .int (nI 0)), (0, .ref st), (1, .ref f), (2, .ref o)]) hx hb dX2_decode_11 rfl hl (by decide) rfl (fun ls hl => ?_)
  refine lv_iconst (v := nI 0) hx hb dX2_decode_12 (by decide) ?_
  refine lv_istore (lv' := [(4, .int (nI 0)), (3, .int (nI 0)), (0, .ref st), (1, .ref f), (2, .ref o)]) hx hb dX2_decode_13 hl (by decide) rfl (fun ls hl => ?_)
  refine lv_iload hx hb dX2_decode_15 (lv_at hl 0 rfl) ?_
  refine lv_iload_n hx hb dX2_decode_17 rfl (lv_at hl 1 rfl) ?_
  refine n_icmp_ge (tgt := 78) hx hb (by first | decide | omega) (by first | decide | omega) dX2_decode_18 (by decide) (fun h_18 => ?_) (fun h_18 => ?_)
  · skip
    exact (p_vret C hw (rfl) hr hlocks dX2_decode_78)
  · exact absurd h_18 (by first | decide | omega)

theorem hde_X1_code1chk_V_0 : yX1_stageAt.cls = RX1 ∧ yX1_stageAt.cls ≠ "java/lang/invoke/MethodHandle" ∧ yX1_stageAt.cls ≠ "java/lang/invoke/VarHandle" ∧ (parseMethodDescriptor yX1_stageAt.desc).map (fun d => d.parameters.length) = some 1 := by decide +kernel
theorem hde_X1_code1chk_V_1 : yX4_at.cls = RX4 ∧ yX4_at.cls ≠ "java/lang/invoke/MethodHandle" ∧ yX4_at.cls ≠ "java/lang/invoke/VarHandle" ∧ (parseMethodDescriptor yX4_at.desc).map (fun d => d.parameters.length) = some 1 := by decide +kernel
theorem hde_X1_code1chk_V_2 : yX7_size.cls = RX7 ∧ yX7_size.cls ≠ "java/lang/invoke/MethodHandle" ∧ yX7_size.cls ≠ "java/lang/invoke/VarHandle" ∧ (parseMethodDescriptor yX7_size.desc).map (fun d => d.parameters.length) = some 0 := by decide +kernel
theorem hdue_X1_code1chk_3 : "SoundingLine$Stage" ≠ "java/lang/invoke/MethodHandle" ∧ "SoundingLine$Stage" ≠ "java/lang/invoke/VarHandle" ∧ (parseMethodDescriptor "(I)I").map (fun d => d.parameters.length) = some 1 := by decide +kernel
theorem hde_X1_code1chk_V_4 : yX7_resize.cls = RX7 ∧ yX7_resize.cls ≠ "java/lang/invoke/MethodHandle" ∧ yX7_resize.cls ≠ "java/lang/invoke/VarHandle" ∧ (parseMethodDescriptor yX7_resize.desc).map (fun d => d.parameters.length) = some 1 := by decide +kernel
theorem hdue_X1_code1chk_5 : "SoundingLine$Stage" ≠ "java/lang/invoke/MethodHandle" ∧ "SoundingLine$Stage" ≠ "java/lang/invoke/VarHandle" ∧ (parseMethodDescriptor "(LSoundingLine$Row;LSoundingLine$Row;)V").map (fun d => d.parameters.length) = some 2 := by decide +kernel
set_option maxHeartbeats 4000000 in
set_option maxRecDepth 100000 in
theorem e_X1_code1chk (l : Launch) (D : va_G) (cy : Nat → ClassId) (S : pS) (sz : Nat) (ch : Nat) (co : Nat) (lk : Nat) (st : Nat) (col : Nat) (con : Nat) (c0 : Nat) (c0b : Nat) (c1 : Nat) (c1b : Nat) (lq : Nat → Option Nat) (cq : Nat → Option Nat) (n1 : Nat) (g1 : Nat → Nat) (sa : Nat) (sb : Nat) (sc : Nat) (hL_ch : ch ∈ S.1) (hf_ch : S.2 ch = .inr (2, [.ref lk, .int (nI 1)])) (hL_lk : lk ∈ S.1) (hf_lk : S.2 lk = aQ (cy 3) 4 lq) (hL_st : st ∈ S.1) (hf_st : S.2 st = .inr (3, [.int (nI sa), .int (nI sb), .int (nI sc)])) (hL_co : co ∈ S.1) (hf_co : S.2 co = .inr (5, [.ref col, .ref con])) (hL_col : col ∈ S.1) (hf_col : S.2 col = aQ (cy 2) 5 cq) (hL_c0 : c0 ∈ S.1) (hf_c0 : S.2 c0 = .inr (8, [.ref c0b, .int (nI 0)])) (hL_c1 : c1 ∈ S.1) (hf_c1 : S.2 c1 = .inr (8, [.ref c1b, .int (nI n1)])) (hL_c1b : c1b ∈ S.1) (hf_c1b : S.2 c1b = aN (cy 0) 320 g1) (hne_c0_c1 : c0 ≠ c1) (hlq : lq 0 = some st) (hcq : cq 0 = some c0) (hcq1 : cq 1 = some c1) (hsb : sb < 2 ^ 31) : Met l yX1_code (Cond.code yX1_code cX1_code 6 none :: lwU) ({ frames := 2, cells := 0, slots := 0, locals := 47 }) (pPc D cy S sz [.ref ch, .ref co]) (pQv D cy S sz (fun S' => S'.1 = S.1 ++ [] ∧ (∀ a_, a_ ∈ S.1 → a_ ≠ c1 → S'.2 a_ = S.2 a_) ∧ S'.2 c1 = .inr (8, [.ref c1b, .int (nI 0)]))) 0 0 (pA S sz) := by
  refine Met.ofW (cc := cX1_code) (maxL := 6) (ret := none) (by decide) rfl ?_
  intro p e s m args below meth c s₁ B hml hv
  obtain ⟨rfl, rfl, C, hw, hA, hr, hlocks⟩ := p_start B hml hv
  have hx := C.1
  have hb := C.2.1
  have hl := lv_entry ([.ref ch, .ref co]) (n := 6) (Nat.le_of_ble_eq_true rfl)
  rw [lg_entry_eq]
  generalize (lg_sl ([.ref ch, .ref co]) ++ List.replicate (6 - (lg_sl ([.ref ch, .ref co])).length) Slot.unset).toArray = ls at hl ⊢
  have hl : lv_has ls 6 [(0, .ref ch), (1, .ref co)] := hl
  have hin_RX1 : ∀ w ∈ u_ws RX1 TX1 2, w ∈ (Cond.code yX1_code cX1_code 6 none :: lwU) := fun w h => mU (sub_RX1 w h)
  refine lv_iconst (v := nI 0) hx hb dX1_code_0 (by decide) ?_
  refine lv_istore_n (lv' := [(2, .int (nI 0)), (0, .ref ch), (1, .ref co)]) hx hb dX1_code_1 rfl hl (by decide) rfl (fun ls hl => ?_)
  refine lv_iload_n hx hb dX1_code_2 rfl (lv_at hl 0 rfl) ?_
  refine lv_aload_n hx hb dX1_code_3 rfl (lv_at hl 1 rfl) ?_
  refine p_get C hw (ci := 2) (Cn := RX1) (T := TX1) (N := 2) hL_ch hf_ch rfl hin_RX1 1 (by decide) (mU mw_42) rfl rfl dX1_code_4 ?_
  refine n_icmp_ge (tgt := 64) hx hb (by first | decide | omega) (by first | decide | omega) dX1_code_7 (by decide) (fun h_7 => ?_) (fun h_7 => ?_)
  · exact absurd h_7 (by first | decide | omega)
  · skip
    refine lv_aload_n hx hb dX1_code_10 rfl (lv_at hl 1 rfl) ?_
    refine lv_iload_n hx hb dX1_code_11 rfl (lv_at hl 0 rfl) ?_
    refine p_callq (va_runV (As := [.int (nI 0)]) (rest := []) C.fix (e_X1_stageAt1 l D cy S s.heap.size ch lk lq st hL_ch hf_ch hL_lk hf_lk (by first | assumption | rfl | simp [va_up])) (cwV 1 C.2.2.2.2.1 (gU_V mw_138 mw_139 mw_140 mw_16 (subU mw_141)) rfl rfl rfl hde_X1_code1chk_V_0 ⟨Nat.le_of_ble_eq_true rfl, Nat.le_of_ble_eq_true rfl⟩) (p_preV C hw hL_ch hf_ch rfl) rfl rfl hl.1 rfl (lv_room (Nat.le_of_ble_eq_true rfl)) dX1_code_12 ⟨Nat.le_of_ble_eq_true rfl, Nat.le_of_ble_eq_true rfl⟩) hw hA (fun r2 S1 H locs hpost hw => ?_)
    obtain ⟨hr_, hS_⟩ := hpost
    subst hr_
    subst hS_
    refine lv_astore_n (lv' := [(3, .ref st), (2, .int (nI 0)), (0, .ref ch), (1, .ref co)]) hx hb dX1_code_15 rfl hl (by decide) rfl (fun ls hl => ?_)
    refine lv_aload_n hx hb dX1_code_16 rfl (lv_at hl 0 rfl) ?_
    refine lv_ifnull hx hb dX1_code_17 ?_
    refine lv_aload_n hx hb dX1_code_20 rfl (lv_at hl 3 rfl) ?_
    refine lv_iload_n hx hb dX1_code_21 rfl (lv_at hl 1 rfl) ?_
    refine p_callq (va_runV (As := [.int (nI 0)]) (rest := []) C.fix (c_X4_at l D cy S H.size co col con 0 c0 cq hL_co hf_co hL_col hf_col (by first | assumption | decide | omega) (by first | assumption | rfl | simp [va_up])) (cwV 1 C.2.2.2.2.1 (gU_V mw_195 mw_127 mw_128 mw_29 sub_X4_at) rfl rfl rfl hde_X1_code1chk_V_1 ⟨Nat.le_of_ble_eq_true rfl, Nat.le_of_ble_eq_true rfl⟩) (p_preV C hw hL_co hf_co rfl) rfl rfl hl.1 rfl (lv_room (Nat.le_of_ble_eq_true rfl)) dX1_code_22 ⟨Nat.le_of_ble_eq_true rfl, Nat.le_of_ble_eq_true rfl⟩) hw hA (fun r4 S3 H locs hpost hw => ?_)
    obtain ⟨hr_, hS_⟩ := hpost
    subst hr_
    subst hS_
    refine lv_astore (lv' := [(4, .ref c0), (3, .ref st), (2, .int (nI 0)), (0, .ref ch), (1, .ref co)]) hx hb dX1_code_25 hl (by decide) rfl (fun ls hl => ?_)
    refine lv_aload_n hx hb dX1_code_27 rfl (lv_at hl 4 rfl) ?_
    refine lv_iload_n hx hb dX1_code_28 rfl (lv_at hl 2 rfl) ?_
    refine lv_iconst (v := nI 1) hx hb dX1_code_29 (by decide) ?_
    refine n_iadd hx hb dX1_code_30 ?_
    refine n_ren (b := 1) (by first | rfl | omega | simp) ?_
    refine p_callq (va_runV (As := [.int (nI 1)]) (rest := []) C.fix (c_X4_at l D cy S H.size co col con 1 c1 cq hL_co hf_co hL_col hf_col (by first | assumption | decide | omega) (by first | assumption | rfl | simp [va_up])) (cwV 1 C.2.2.2.2.1 (gU_V mw_195 mw_127 mw_128 mw_29 sub_X4_at) rfl rfl rfl hde_X1_code1chk_V_1 ⟨Nat.le_of_ble_eq_true rfl, Nat.le_of_ble_eq_true rfl⟩) (p_preV C hw hL_co hf_co rfl) rfl rfl hl.1 rfl (lv_room (Nat.le_of_ble_eq_true rfl)) dX1_code_31 ⟨Nat.le_of_ble_eq_true rfl, Nat.le_of_ble_eq_true rfl⟩) hw hA (fun r6 S5 H locs hpost hw => ?_)
    obtain ⟨hr_, hS_⟩ := hpost
    subst hr_
    subst hS_
    refine lv_astore (lv' := [(5, .ref c1), (4, .ref c0), (3, .ref st), (2, .int (nI 0)), (0, .ref ch), (1, .ref co)]) hx hb dX1_code_34 hl (by decide) rfl (fun ls hl => ?_)
    refine lv_aload hx hb dX1_code_36 (lv_at hl 0 rfl) ?_
    refine lv_aload_n hx hb dX1_code_38 rfl (lv_at hl 2 rfl) ?_
    refine lv_aload hx hb dX1_code_39 (lv_at hl 1 rfl) ?_
    refine p_calli (va_runV (As := []) (rest := [.ref st, .ref c1]) C.fix (c_X7_size l D cy S H.size c0 c0b 0 hL_c0 hf_c0) (cwV 0 C.2.2.2.2.1 (gU_V mw_196 mw_131 mw_132 mw_25 sub_X7_size) rfl rfl rfl hde_X1_code1chk_V_2 ⟨Nat.le_of_ble_eq_true rfl, Nat.le_of_ble_eq_true rfl⟩) (p_preV C hw hL_c0 hf_c0 rfl) rfl rfl hl.1 rfl (lv_room (Nat.le_of_ble_eq_true rfl)) dX1_code_41 ⟨Nat.le_of_ble_eq_true rfl, Nat.le_of_ble_eq_true rfl⟩) hw hA (fun r8 S7 H locs hpost hw => ?_)
    obtain ⟨hr_, hS_⟩ := hpost
    subst hr_
    subst hS_
    refine p_calli (va_runU (x := ⟨"SoundingLine$Stage", "sizeOf", "(I)I"⟩) (As := [.int (nI 0)]) (rest := [.ref c1]) C.fix (e_X2_sizeOf0 l D cy S H.size st sa sb sc hL_st hf_st (by first | assumption | decide | omega)) (va_cwA 1 C.2.2.2.2.1 (gU_U mw_142 mw_143 mw_152 mw_153 mw_154 (subU mw_155)) rfl rfl rfl (C.dcl 0 _ rfl) hdue_X1_code1chk_3 ⟨Nat.le_of_ble_eq_true rfl, Nat.le_of_ble_eq_true rfl⟩) (p_preV C hw hL_st hf_st rfl) rfl rfl hl.1 rfl (lv_room (Nat.le_of_ble_eq_true rfl)) dX1_code_44 ⟨Nat.le_of_ble_eq_true rfl, Nat.le_of_ble_eq_true rfl⟩) hw hA (fun r10 S9 H locs hpost hw => ?_)
    obtain ⟨hr_, hS_⟩ := hpost
    subst hr_
    subst hS_
    refine p_callv (va_runV (As := [.int (nI 0)]) (rest := []) C.fix (c_X7_resize l D cy S H.size c1 c1b 320 n1 0 g1 hL_c1 hf_c1 hL_c1b hf_c1b (by first | assumption | decide | omega) (by first | assumption | decide | omega)) (cwV 1 C.2.2.2.2.1 (gU_V mw_197 mw_62 mw_63 mw_25 sub_X7_resize) rfl rfl rfl hde_X1_code1chk_V_4 ⟨Nat.le_of_ble_eq_true rfl, Nat.le_of_ble_eq_true rfl⟩) (p_preV C hw hL_c1 hf_c1 rfl) rfl rfl hl.1 rfl (lv_room (Nat.le_of_ble_eq_true rfl)) dX1_code_47 ⟨Nat.le_of_ble_eq_true rfl, Nat.le_of_ble_eq_true rfl⟩) hw hA (fun S11 H locs hpost hw => ?_)
    have hS_ := hpost
    try rw [show min 0 320 = 0 from rfl] at hS_
    have hS13 := hS_
    have hL14 : c1 ∈ S11.1 := by rw [hS13]; exact hL_c1
    have hf15 : S11.2 c1 = .inr (8, [.ref c1b, .int (nI 0)]) := by rw [hS13]; exact pup_s
    refine lv_aload_n hx hb dX1_code_50 rfl (lv_at hl 2 rfl) ?_
    refine lv_aload hx hb dX1_code_51 (lv_at hl 1 rfl) ?_
    refine lv_aload hx hb dX1_code_53 (lv_at hl 0 rfl) ?_
    have hL16 : st ∈ S11.1 := by rw [hS13]; exact hL_st
    have hf17 : S11.2 st = .inr (3, [.int (nI sa), .int (nI sb), .int (nI sc)]) := by rw [hS13]; exact (pup_n (ne_cells hf_st hf_c1 (by nofun))).trans hf_st
    have hL18 : c0 ∈ S11.1 := by rw [hS13]; exact hL_c0
    have hf19 : S11.2 c0 = .inr (8, [.ref c0b, .int (nI 0)]) := by rw [hS13]; exact (pup_n hne_c0_c1).trans hf_c0
    refine p_callv (va_runU (x := ⟨"SoundingLine$Stage", "code", "(LSoundingLine$Row;LSoundingLine$Row;)V"⟩) (As := [.ref c0, .ref c1]) (rest := []) C.fix (e_X2_code0 l D cy S11 H.size st c0 c1 c0b sa sb sc hL16 hf17 hL18 hf19 (by first | assumption | decide | omega)) (va_cwA 2 C.2.2.2.2.1 (gU_U mw_198 mw_199 mw_216 mw_217 mw_154 (subU mw_218)) rfl rfl rfl (C.dcl 1 _ rfl) hdue_X1_code1chk_5 ⟨Nat.le_of_ble_eq_true rfl, Nat.le_of_ble_eq_true rfl⟩) (p_preV C hw hL16 hf17 rfl) rfl rfl hl.1 rfl (lv_room (Nat.le_of_ble_eq_true rfl)) dX1_code_55 ⟨Nat.le_of_ble_eq_true rfl, Nat.le_of_ble_eq_true rfl⟩) hw hA (fun S20 H locs hpost hw => ?_)
    have hS_ := hpost
    subst hS_
    refine lv_iinc (v := (nI 1)) (lv' := [(2, .int (nI 1)), (5, .ref c1), (4, .ref c0), (3, .ref st), (0, .ref ch), (1, .ref co)]) hx hb dX1_code_58 hl (k := 3) rfl (by decide) (by decide) rfl (fun ls hl => ?_)
    refine lv_goto (tgt := 2) hx hb dX1_code_61 (by decide) ?_
    refine lv_iload_n hx hb dX1_code_2 rfl (lv_at hl 0 rfl) ?_
    refine lv_aload_n hx hb dX1_code_3 rfl (lv_at hl 4 rfl) ?_
    have hL22 : ch ∈ S11.1 := by rw [hS13]; exact hL_ch
    have hf23 : S11.2 ch = .inr (2, [.ref lk, .int (nI 1)]) := by rw [hS13]; exact (pup_n (ne_cells hf_ch hf_c1 (by nofun))).trans hf_ch
    refine p_get C hw (ci := 2) (Cn := RX1) (T := TX1) (N := 2) hL22 hf23 rfl hin_RX1 1 (by decide) (mU mw_42) rfl rfl dX1_code_4 ?_
    refine n_icmp_ge (tgt := 64) hx hb (by first | decide | omega) (by first | decide | omega) dX1_code_7 (by decide) (fun h_7 => ?_) (fun h_7 => ?_)
    · skip
      exact (p_vret C hw (⟨(by simp only [hS13, pup, pnew, List.append_nil, List.append_assoc, List.cons_append, List.nil_append]), (fun a_ ha_ hn_0 => (show S11.2 a_ = S.2 a_ from by rw [hS13]; exact pup_n hn_0)), hf15⟩) hr hlocks dX1_code_64)
    · exact absurd h_7 (by first | decide | omega)

theorem hde_X1_decode1chk_V_0 : yX1_stageAt.cls = RX1 ∧ yX1_stageAt.cls ≠ "java/lang/invoke/MethodHandle" ∧ yX1_stageAt.cls ≠ "java/lang/invoke/VarHandle" ∧ (parseMethodDescriptor yX1_stageAt.desc).map (fun d => d.parameters.length) = some 1 := by decide +kernel
theorem hde_X1_decode1chk_V_1 : yX4_at.cls = RX4 ∧ yX4_at.cls ≠ "java/lang/invoke/MethodHandle" ∧ yX4_at.cls ≠ "java/lang/invoke/VarHandle" ∧ (parseMethodDescriptor yX4_at.desc).map (fun d => d.parameters.length) = some 1 := by decide +kernel
theorem hde_X1_decode1chk_V_2 : yX7_size.cls = RX7 ∧ yX7_size.cls ≠ "java/lang/invoke/MethodHandle" ∧ yX7_size.cls ≠ "java/lang/invoke/VarHandle" ∧ (parseMethodDescriptor yX7_size.desc).map (fun d => d.parameters.length) = some 0 := by decide +kernel
theorem hde_X1_decode1chk_V_3 : yX7_resize.cls = RX7 ∧ yX7_resize.cls ≠ "java/lang/invoke/MethodHandle" ∧ yX7_resize.cls ≠ "java/lang/invoke/VarHandle" ∧ (parseMethodDescriptor yX7_resize.desc).map (fun d => d.parameters.length) = some 1 := by decide +kernel
theorem hdue_X1_decode1chk_4 : "SoundingLine$Stage" ≠ "java/lang/invoke/MethodHandle" ∧ "SoundingLine$Stage" ≠ "java/lang/invoke/VarHandle" ∧ (parseMethodDescriptor "(LSoundingLine$Row;LSoundingLine$Row;)V").map (fun d => d.parameters.length) = some 2 := by decide +kernel
set_option maxHeartbeats 4000000 in
set_option maxRecDepth 100000 in
theorem e_X1_decode1chk (l : Launch) (D : va_G) (cy : Nat → ClassId) (S : pS) (sz : Nat) (ch : Nat) (v : Nat) (co : Nat) (lk : Nat) (st : Nat) (col : Nat) (con : Nat) (vl : Nat) (vn : Nat) (c0 : Nat) (c0b : Nat) (v0 : Nat) (v0b : Nat) (v1 : Nat) (lq : Nat → Option Nat) (cq : Nat → Option Nat) (vq : Nat → Option Nat) (n0 : Nat) (g0 : Nat → Nat) (sa : Nat) (sb : Nat) (sc : Nat) (hL_ch : ch ∈ S.1) (hf_ch : S.2 ch = .inr (2, [.ref lk, .int (nI 1)])) (hL_lk : lk ∈ S.1) (hf_lk : S.2 lk = aQ (cy 3) 4 lq) (hL_st : st ∈ S.1) (hf_st : S.2 st = .inr (3, [.int (nI sa), .int (nI sb), .int (nI sc)])) (hL_co : co ∈ S.1) (hf_co : S.2 co = .inr (5, [.ref col, .ref con])) (hL_col : col ∈ S.1) (hf_col : S.2 col = aQ (cy 2) 5 cq) (hL_v : v ∈ S.1) (hf_v : S.2 v = .inr (5, [.ref vl, .ref vn])) (hL_vl : vl ∈ S.1) (hf_vl : S.2 vl = aQ (cy 2) 5 vq) (hL_c0 : c0 ∈ S.1) (hf_c0 : S.2 c0 = .inr (8, [.ref c0b, .int (nI 0)])) (hL_v0 : v0 ∈ S.1) (hf_v0 : S.2 v0 = .inr (8, [.ref v0b, .int (nI n0)])) (hL_v0b : v0b ∈ S.1) (hf_v0b : S.2 v0b = aN (cy 0) 32 g0) (hlq : lq 0 = some st) (hcq : cq 0 = some c0) (hvq : vq 0 = some v0) (hvq1 : vq 1 = some v1) (hsb : sb < 2 ^ 31) : Met l yX1_decode (Cond.code yX1_decode cX1_decode 6 none :: lwU) ({ frames := 2, cells := 0, slots := 0, locals := 46 }) (pPc D cy S sz [.ref ch, .ref v, .ref co]) (pQv D cy S sz (fun S' => S'.1 = S.1 ++ [] ∧ (∀ a_, a_ ∈ S.1 → a_ ≠ v0 → S'.2 a_ = S.2 a_))) 0 0 (pA S sz) := by
  refine Met.ofW (cc := cX1_decode) (maxL := 6) (ret := none) (by decide) rfl ?_
  intro p e s m args below meth c s₁ B hml hv
  obtain ⟨rfl, rfl, C, hw, hA, hr, hlocks⟩ := p_start B hml hv
  have hx := C.1
  have hb := C.2.1
  have hl := lv_entry ([.ref ch, .ref v, .ref co]) (n := 6) (Nat.le_of_ble_eq_true rfl)
  rw [lg_entry_eq]
  generalize (lg_sl ([.ref ch, .ref v, .ref co]) ++ List.replicate (6 - (lg_sl ([.ref ch, .ref v, .ref co])).length) Slot.unset).toArray = ls at hl ⊢
  have hl : lv_has ls 6 [(0, .ref ch), (1, .ref v), (2, .ref co)] := hl
  have hin_RX1 : ∀ w ∈ u_ws RX1 TX1 2, w ∈ (Cond.code yX1_decode cX1_decode 6 none :: lwU) := fun w h => mU (sub_RX1 w h)
  refine lv_aload_n hx hb dX1_decode_0 rfl (lv_at hl 0 rfl) ?_
  refine p_get C hw (ci := 2) (Cn := RX1) (T := TX1) (N := 2) hL_ch hf_ch rfl hin_RX1 1 (by decide) (mU mw_42) rfl rfl dX1_decode_1 ?_
  refine lv_iconst (v := nI 1) hx hb dX1_decode_4 (by decide) ?_
  refine n_isub hx hb (by first | decide | omega) dX1_decode_5 ?_
  refine n_ren (b := 0) (by first | rfl | omega | simp) ?_
  refine lv_istore_n (lv' := [(3, .int (nI 0)), (0, .ref ch), (1, .ref v), (2, .ref co)]) hx hb dX1_decode_6 rfl hl (by decide) rfl (fun ls hl => ?_)
  refine lv_iload_n hx hb dX1_decode_7 rfl (lv_at hl 0 rfl) ?_
  refine n_if_lt (tgt := 63) hx hb (by first | decide | omega) dX1_decode_8 (by decide) ?_
  refine lv_aload_n hx hb dX1_decode_11 rfl (lv_at hl 1 rfl) ?_
  refine lv_iload_n hx hb dX1_decode_12 rfl (lv_at hl 0 rfl) ?_
  refine p_callq (va_runV (As := [.int (nI 0)]) (rest := []) C.fix (e_X1_stageAt1 l D cy S s.heap.size ch lk lq st hL_ch hf_ch hL_lk hf_lk (by first | assumption | rfl | simp [va_up])) (cwV 1 C.2.2.2.2.1 (gU_V mw_138 mw_139 mw_140 mw_16 (subU mw_141)) rfl rfl rfl hde_X1_decode1chk_V_0 ⟨Nat.le_of_ble_eq_true rfl, Nat.le_of_ble_eq_true rfl⟩) (p_preV C hw hL_ch hf_ch rfl) rfl rfl hl.1 rfl (lv_room (Nat.le_of_ble_eq_true rfl)) dX1_decode_13 ⟨Nat.le_of_ble_eq_true rfl, Nat.le_of_ble_eq_true rfl⟩) hw hA (fun r2 S1 H locs hpost hw => ?_)
  obtain ⟨hr_, hS_⟩ := hpost
  subst hr_
  subst hS_
  refine lv_astore (lv' := [(4, .ref st), (3, .int (nI 0)), (0, .ref ch), (1, .ref v), (2, .ref co)]) hx hb dX1_decode_16 hl (by decide) rfl (fun ls hl => ?_)
  refine lv_aload hx hb dX1_decode_18 (lv_at hl 0 rfl) ?_
  refine lv_ifnull hx hb dX1_decode_20 ?_
  refine lv_aload_n hx hb dX1_decode_23 rfl (lv_at hl 3 rfl) ?_
  refine lv_iload_n hx hb dX1_decode_24 rfl (lv_at hl 1 rfl) ?_
  refine p_callq (va_runV (As := [.int (nI 0)]) (rest := []) C.fix (c_X4_at l D cy S H.size v vl vn 0 v0 vq hL_v hf_v hL_vl hf_vl (by first | assumption | decide | omega) (by first | assumption | rfl | simp [va_up])) (cwV 1 C.2.2.2.2.1 (gU_V mw_195 mw_127 mw_128 mw_29 sub_X4_at) rfl rfl rfl hde_X1_decode1chk_V_1 ⟨Nat.le_of_ble_eq_true rfl, Nat.le_of_ble_eq_true rfl⟩) (p_preV C hw hL_v hf_v rfl) rfl rfl hl.1 rfl (lv_room (Nat.le_of_ble_eq_true rfl)) dX1_decode_25 ⟨Nat.le_of_ble_eq_true rfl, Nat.le_of_ble_eq_true rfl⟩) hw hA (fun r4 S3 H locs hpost hw => ?_)
  obtain ⟨hr_, hS_⟩ := hpost
  subst hr_
  subst hS_
  refine lv_astore (lv' := [(5, .ref v0), (4, .ref st), (3, .int (nI 0)), (0, .ref ch), (1, .ref v), (2, .ref co)]) hx hb dX1_decode_28 hl (by decide) rfl (fun ls hl => ?_)
  refine lv_aload hx hb dX1_decode_30 (lv_at hl 0 rfl) ?_
  refine lv_aload_n hx hb dX1_decode_32 rfl (lv_at hl 5 rfl) ?_
  refine lv_iload_n hx hb dX1_decode_33 rfl (lv_at hl 2 rfl) ?_
  refine p_callq (va_runV (As := [.int (nI 0)]) (rest := [.ref v0]) C.fix (c_X4_at l D cy S H.size co col con 0 c0 cq hL_co hf_co hL_col hf_col (by first | assumption | decide | omega) (by first | assumption | rfl | simp [va_up])) (cwV 1 C.2.2.2.2.1 (gU_V mw_195 mw_127 mw_128 mw_29 sub_X4_at) rfl rfl rfl hde_X1_decode1chk_V_1 ⟨Nat.le_of_ble_eq_true rfl, Nat.le_of_ble_eq_true rfl⟩) (p_preV C hw hL_co hf_co rfl) rfl rfl hl.1 rfl (lv_room (Nat.le_of_ble_eq_true rfl)) dX1_decode_34 ⟨Nat.le_of_ble_eq_true rfl, Nat.le_of_ble_eq_true rfl⟩) hw hA (fun r6 S5 H locs hpost hw => ?_)
  obtain ⟨hr_, hS_⟩ := hpost
  subst hr_
  subst hS_
  refine p_calli (va_runV (As := []) (rest := [.ref v0]) C.fix (c_X7_size l D cy S H.size c0 c0b 0 hL_c0 hf_c0) (cwV 0 C.2.2.2.2.1 (gU_V mw_196 mw_131 mw_132 mw_25 sub_X7_size) rfl rfl rfl hde_X1_decode1chk_V_2 ⟨Nat.le_of_ble_eq_true rfl, Nat.le_of_ble_eq_true rfl⟩) (p_preV C hw hL_c0 hf_c0 rfl) rfl rfl hl.1 rfl (lv_room (Nat.le_of_ble_eq_true rfl)) dX1_decode_37 ⟨Nat.le_of_ble_eq_true rfl, Nat.le_of_ble_eq_true rfl⟩) hw hA (fun r8 S7 H locs hpost hw => ?_)
  obtain ⟨hr_, hS_⟩ := hpost
  subst hr_
  subst hS_
  refine p_callv (va_runV (As := [.int (nI 0)]) (rest := []) C.fix (c_X7_resize l D cy S H.size v0 v0b 32 n0 0 g0 hL_v0 hf_v0 hL_v0b hf_v0b (by first | assumption | decide | omega) (by first | assumption | decide | omega)) (cwV 1 C.2.2.2.2.1 (gU_V mw_197 mw_62 mw_63 mw_25 sub_X7_resize) rfl rfl rfl hde_X1_decode1chk_V_3 ⟨Nat.le_of_ble_eq_true rfl, Nat.le_of_ble_eq_true rfl⟩) (p_preV C hw hL_v0 hf_v0 rfl) rfl rfl hl.1 rfl (lv_room (Nat.le_of_ble_eq_true rfl)) dX1_decode_40 ⟨Nat.le_of_ble_eq_true rfl, Nat.le_of_ble_eq_true rfl⟩) hw hA (fun S9 H locs hpost hw => ?_)
  have hS_ := hpost
  try rw [show min 0 32 = 0 from rfl] at hS_
  have hS11 := hS_
  have hL12 : v0 ∈ S9.1 := by rw [hS11]; exact hL_v0
  have hf13 : S9.2 v0 = .inr (8, [.ref v0b, .int (nI 0)]) := by rw [hS11]; exact pup_s
  refine lv_aload hx hb dX1_decode_43 (lv_at hl 1 rfl) ?_
  refine lv_aload_n hx hb dX1_decode_45 rfl (lv_at hl 4 rfl) ?_
  refine lv_iload_n hx hb dX1_decode_46 rfl (lv_at hl 2 rfl) ?_
  refine lv_iconst (v := nI 1) hx hb dX1_decode_47 (by decide) ?_
  refine n_iadd hx hb dX1_decode_48 ?_
  refine n_ren (b := 1) (by first | rfl | omega | simp) ?_
  have hL14 : v ∈ S9.1 := by rw [hS11]; exact hL_v
  have hf15 : S9.2 v = .inr (5, [.ref vl, .ref vn]) := by rw [hS11]; exact (pup_n (ne_cells hf_v hf_v0 (by nofun))).trans hf_v
  have hL16 : vl ∈ S9.1 := by rw [hS11]; exact hL_vl
  have hf17 : S9.2 vl = aQ (cy 2) 5 vq := by rw [hS11]; exact (pup_n (ne_cells hf_vl hf_v0 (by nofun))).trans hf_vl
  refine p_callq (va_runV (As := [.int (nI 1)]) (rest := [.ref st]) C.fix (c_X4_at l D cy S9 H.size v vl vn 1 v1 vq hL14 hf15 hL16 hf17 (by first | assumption | decide | omega) (by first | assumption | rfl | simp [va_up])) (cwV 1 C.2.2.2.2.1 (gU_V mw_195 mw_127 mw_128 mw_29 sub_X4_at) rfl rfl rfl hde_X1_decode1chk_V_1 ⟨Nat.le_of_ble_eq_true rfl, Nat.le_of_ble_eq_true rfl⟩) (p_preV C hw hL14 hf15 rfl) rfl rfl hl.1 rfl (lv_room (Nat.le_of_ble_eq_true rfl)) dX1_decode_49 ⟨Nat.le_of_ble_eq_true rfl, Nat.le_of_ble_eq_true rfl⟩) hw hA (fun r19 S18 H locs hpost hw => ?_)
  obtain ⟨hr_, hS_⟩ := hpost
  subst hr_
  subst hS_
  refine lv_aload hx hb dX1_decode_52 (lv_at hl 0 rfl) ?_
  have hL20 : st ∈ S9.1 := by rw [hS11]; exact hL_st
  have hf21 : S9.2 st = .inr (3, [.int (nI sa), .int (nI sb), .int (nI sc)]) := by rw [hS11]; exact (pup_n (ne_cells hf_st hf_v0 (by nofun))).trans hf_st
  refine p_callv (va_runU (x := ⟨"SoundingLine$Stage", "decode", "(LSoundingLine$Row;LSoundingLine$Row;)V"⟩) (As := [.ref v1, .ref v0]) (rest := []) C.fix (e_X2_decode0 l D cy S9 H.size st v1 v0 v0b sa sb sc hL20 hf21 hL12 hf13 (by first | assumption | decide | omega)) (va_cwA 2 C.2.2.2.2.1 (gU_U mw_303 mw_304 mw_329 mw_330 mw_154 (subU mw_331)) rfl rfl rfl (C.dcl 2 _ rfl) hdue_X1_decode1chk_4 ⟨Nat.le_of_ble_eq_true rfl, Nat.le_of_ble_eq_true rfl⟩) (p_preV C hw hL20 hf21 rfl) rfl rfl hl.1 rfl (lv_room (Nat.le_of_ble_eq_true rfl)) dX1_decode_54 ⟨Nat.le_of_ble_eq_true rfl, Nat.le_of_ble_eq_true rfl⟩) hw hA (fun S22 H locs hpost hw => ?_)
  have hS_ := hpost
  subst hS_
  refine lv_iinc (v := (-1)) (lv' := [(3, .int (-1)), (5, .ref v0), (4, .ref st), (0, .ref ch), (1, .ref v), (2, .ref co)]) hx hb dX1_decode_57 hl (k := 2) rfl (by decide) (by decide) rfl (fun ls hl => ?_)
  refine lv_goto (tgt := 7) hx hb dX1_decode_60 (by decide) ?_
  refine lv_iload_n hx hb dX1_decode_7 rfl (lv_at hl 0 rfl) ?_
  refine z_if_lt (tgt := 63) hx hb (show (-1 : Int32).toInt = -1 from by decide) dX1_decode_8 (by decide) (fun h_8 => ?_) (fun h_8 => ?_)
  · skip
    exact (p_vret C hw (⟨(by simp only [hS11, pup, pnew, List.append_nil, List.append_assoc, List.cons_append, List.nil_append]), (fun a_ ha_ hn_0 => (show S9.2 a_ = S.2 a_ from by rw [hS11]; exact pup_n hn_0))⟩) hr hlocks dX1_decode_63)
  · exact absurd h_8 (by first | decide | omega)

theorem hde_X11_settle1chk_V_0 : yX1_code.cls = RX1 ∧ yX1_code.cls ≠ "java/lang/invoke/MethodHandle" ∧ yX1_code.cls ≠ "java/lang/invoke/VarHandle" ∧ (parseMethodDescriptor yX1_code.desc).map (fun d => d.parameters.length) = some 1 := by decide +kernel
theorem hde_X11_settle1chk_V_1 : yX11_send.cls = RX11 ∧ yX11_send.cls ≠ "java/lang/invoke/MethodHandle" ∧ yX11_send.cls ≠ "java/lang/invoke/VarHandle" ∧ (parseMethodDescriptor yX11_send.desc).map (fun d => d.parameters.length) = some 2 := by decide +kernel
theorem hde_X11_settle1chk_V_2 : yX1_decode.cls = RX1 ∧ yX1_decode.cls ≠ "java/lang/invoke/MethodHandle" ∧ yX1_decode.cls ≠ "java/lang/invoke/VarHandle" ∧ (parseMethodDescriptor yX1_decode.desc).map (fun d => d.parameters.length) = some 2 := by decide +kernel
set_option maxHeartbeats 4000000 in
set_option maxRecDepth 100000 in
theorem e_X11_settle1chk (l : Launch) (D : va_G) (cy : Nat → ClassId) (S : pS) (sz : Nat) (x : Nat) (ch : Nat) (ln : Nat) (sl : Nat) (mk : Nat) (co : Nat) (ca : Nat) (su : Nat) (lt : Nat) (lk : Nat) (mb : Nat) (col : Nat) (con : Nat) (cor0 : Nat) (cor1 : Nat) (cor2 : Nat) (cor3 : Nat) (cor4 : Nat) (cob0 : Nat) (cob1 : Nat) (cal : Nat) (can : Nat) (car0 : Nat) (car1 : Nat) (car2 : Nat) (car3 : Nat) (car4 : Nat) (cab0 : Nat) (cab1 : Nat) (st : Nat) (lq : Nat → Option Nat) (sa : Nat) (sb : Nat) (sc : Nat) (hL_x : x ∈ S.1) (hf_x : S.2 x = .inr (11, [.ref ch, .ref ln, .ref sl, .ref mk, .ref co, .ref ca, .ref su, .ref lt])) (hL_ch : ch ∈ S.1) (hf_ch : S.2 ch = .inr (2, [.ref lk, .int (nI 1)])) (hL_lk : lk ∈ S.1) (hf_lk : S.2 lk = aQ (cy 3) 4 lq) (hL_ln : ln ∈ S.1) (hf_ln : S.2 ln = .inr (6, [.int (nI 0), .int (nI 0), .int (nI 0), .int (nI 0)])) (hL_mk : mk ∈ S.1) (hf_mk : S.2 mk = .inr (8, [.ref mb, .int (nI 320)])) (hL_mb : mb ∈ S.1) (hf_mb : S.2 mb = aN (cy 0) 320 (fun _ => 0)) (hL_co : co ∈ S.1) (hf_co : S.2 co = .inr (5, [.ref col, .ref con])) (hL_col : col ∈ S.1) (hf_col : S.2 col = aQ (cy 2) 5 (va_up (va_up (va_up (va_up (va_up (fun _ => none) 0 (some cor0)) 1 (some cor1)) 2 (some cor2)) 3 (some cor3)) 4 (some cor4))) (hL_cor0 : cor0 ∈ S.1) (hf_cor0 : S.2 cor0 = .inr (8, [.ref cob0, .int (nI 0)])) (hL_cor1 : cor1 ∈ S.1) (hf_cor1 : S.2 cor1 = .inr (8, [.ref cob1, .int (nI 0)])) (hL_cob1 : cob1 ∈ S.1) (hf_cob1 : S.2 cob1 = aN (cy 0) 320 (fun _ => 0)) (hL_ca : ca ∈ S.1) (hf_ca : S.2 ca = .inr (5, [.ref cal, .ref can])) (hL_cal : cal ∈ S.1) (hf_cal : S.2 cal = aQ (cy 2) 5 (va_up (va_up (va_up (va_up (va_up (fun _ => none) 0 (some car0)) 1 (some car1)) 2 (some car2)) 3 (some car3)) 4 (some car4))) (hL_car0 : car0 ∈ S.1) (hf_car0 : S.2 car0 = .inr (8, [.ref cab0, .int (nI 0)])) (hL_cab0 : cab0 ∈ S.1) (hf_cab0 : S.2 cab0 = aN (cy 0) 32 (fun _ => 0)) (hL_car1 : car1 ∈ S.1) (hf_car1 : S.2 car1 = .inr (8, [.ref cab1, .int (nI 0)])) (hL_cab1 : cab1 ∈ S.1) (hf_cab1 : S.2 cab1 = aN (cy 0) 320 (fun _ => 0)) (hL_st : st ∈ S.1) (hf_st : S.2 st = .inr (3, [.int (nI sa), .int (nI sb), .int (nI sc)])) (hne_cor0_cor1 : cor0 ≠ cor1) (hne_mk_cor1 : mk ≠ cor1) (hne_car1_cor1 : car1 ≠ cor1) (hne_cob1_cab1 : cob1 ≠ cab1) (hne_mk_car1 : mk ≠ car1) (hne_mb_cab1 : mb ≠ cab1) (hne_cor0_car1 : cor0 ≠ car1) (hne_car0_cor1 : car0 ≠ cor1) (hne_car0_car1 : car0 ≠ car1) (hne_cab0_cab1 : cab0 ≠ cab1) (hlq : lq 0 = some st) (hsb : sb < 2 ^ 31) : Met l yX11_settle (Cond.code yX11_settle cX11_settle 1 none :: lwU) ({ frames := 5, cells := 0, slots := 0, locals := 111 }) (pPc D cy S sz [.ref x]) (pQv D cy S sz (fun S' => S'.1 = S.1 ++ [] ∧ (∀ a_, a_ ∈ S.1 → a_ ≠ cor1 → a_ ≠ car1 → a_ ≠ cab1 → a_ ≠ car0 → S'.2 a_ = S.2 a_) ∧ S'.2 cor1 = .inr (8, [.ref cob1, .int (nI 0)]))) 0 0 (pA S sz) := by
  refine Met.ofW (cc := cX11_settle) (maxL := 1) (ret := none) (by decide) rfl ?_
  intro p e s m args below meth c s₁ B hml hv
  obtain ⟨rfl, rfl, C, hw, hA, hr, hlocks⟩ := p_start B hml hv
  have hx := C.1
  have hb := C.2.1
  have hl := lv_entry ([.ref x]) (n := 1) (Nat.le_of_ble_eq_true rfl)
  rw [lg_entry_eq]
  generalize (lg_sl ([.ref x]) ++ List.replicate (1 - (lg_sl ([.ref x])).length) Slot.unset).toArray = ls at hl ⊢
  have hl : lv_has ls 1 [(0, .ref x)] := hl
  have hin_RX11 : ∀ w ∈ u_ws RX11 TX11 8, w ∈ (Cond.code yX11_settle cX11_settle 1 none :: lwU) := fun w h => mU (sub_RX11 w h)
  refine lv_aload_n hx hb dX11_settle_0 rfl (lv_at hl 0 rfl) ?_
  refine p_get C hw (ci := 11) (Cn := RX11) (T := TX11) (N := 8) hL_x hf_x rfl hin_RX11 0 (by decide) (mU mw_17) rfl rfl dX11_settle_1 ?_
  refine lv_aload_n hx hb dX11_settle_4 rfl (lv_at hl 0 rfl) ?_
  refine p_get C hw (ci := 11) (Cn := RX11) (T := TX11) (N := 8) hL_x hf_x rfl hin_RX11 4 (by decide) (mU mw_30) rfl rfl dX11_settle_5 ?_
  refine p_callv (va_runV (As := [.ref co]) (rest := []) C.fix (e_X1_code1chk l D cy S s.heap.size ch co lk st col con cor0 cob0 cor1 cob1 lq (va_up (va_up (va_up (va_up (va_up (fun _ => none) 0 (some cor0)) 1 (some cor1)) 2 (some cor2)) 3 (some cor3)) 4 (some cor4)) 0 (fun _ => 0) sa sb sc hL_ch hf_ch hL_lk hf_lk hL_st hf_st hL_co hf_co hL_col hf_col hL_cor0 hf_cor0 hL_cor1 hf_cor1 hL_cob1 hf_cob1 hne_cor0_cor1 (by first | assumption | rfl | simp [va_up]) (by first | assumption | rfl | simp [va_up]) (by first | assumption | rfl | simp [va_up]) (by first | assumption | decide | omega)) (cwV 1 C.2.2.2.2.1 (gU_V mw_191 mw_192 mw_193 mw_16 (subU mw_194)) rfl rfl rfl hde_X11_settle1chk_V_0 ⟨Nat.le_of_ble_eq_true rfl, Nat.le_of_ble_eq_true rfl⟩) (p_preV C hw hL_ch hf_ch rfl) rfl rfl hl.1 rfl (lv_room (Nat.le_of_ble_eq_true rfl)) dX11_settle_8 ⟨Nat.le_of_ble_eq_true rfl, Nat.le_of_ble_eq_true rfl⟩) hw hA (fun S1 H locs hpost hw => ?_)
  obtain ⟨hS3, hfr4, hf5⟩ := hpost
  have hL6 : cor1 ∈ S1.1 := by rw [hS3]; exact List.mem_append_left _ hL_cor1
  refine lv_aload_n hx hb dX11_settle_11 rfl (lv_at hl 0 rfl) ?_
  refine lv_aload_n hx hb dX11_settle_12 rfl (lv_at hl 0 rfl) ?_
  have hL7 : x ∈ S1.1 := by rw [hS3]; exact List.mem_append_left _ hL_x
  have hf8 : S1.2 x = .inr (11, [.ref ch, .ref ln, .ref sl, .ref mk, .ref co, .ref ca, .ref su, .ref lt]) := (hfr4 x hL_x (ne_cells hf_x hf_cor1 (by nofun))).trans hf_x
  refine p_get C hw (ci := 11) (Cn := RX11) (T := TX11) (N := 8) hL7 hf8 rfl hin_RX11 1 (by decide) (mU mw_21) rfl rfl dX11_settle_13 ?_
  refine lv_aload_n hx hb dX11_settle_16 rfl (lv_at hl 0 rfl) ?_
  refine p_get C hw (ci := 11) (Cn := RX11) (T := TX11) (N := 8) hL7 hf8 rfl hin_RX11 5 (by decide) (mU mw_31) rfl rfl dX11_settle_17 ?_
  have hL9 : ch ∈ S1.1 := by rw [hS3]; exact List.mem_append_left _ hL_ch
  have hf10 : S1.2 ch = .inr (2, [.ref lk, .int (nI 1)]) := (hfr4 ch hL_ch (ne_cells hf_ch hf_cor1 (by nofun))).trans hf_ch
  have hL11 : mk ∈ S1.1 := by rw [hS3]; exact List.mem_append_left _ hL_mk
  have hf12 : S1.2 mk = .inr (8, [.ref mb, .int (nI 320)]) := (hfr4 mk hL_mk hne_mk_cor1).trans hf_mk
  have hL13 : mb ∈ S1.1 := by rw [hS3]; exact List.mem_append_left _ hL_mb
  have hf14 : S1.2 mb = aN (cy 0) 320 (fun _ => 0) := (hfr4 mb hL_mb (ne_cells hf_mb hf_cor1 (by nofun))).trans hf_mb
  have hL15 : ln ∈ S1.1 := by rw [hS3]; exact List.mem_append_left _ hL_ln
  have hf16 : S1.2 ln = .inr (6, [.int (nI 0), .int (nI 0), .int (nI 0), .int (nI 0)]) := (hfr4 ln hL_ln (ne_cells hf_ln hf_cor1 (by nofun))).trans hf_ln
  have hL17 : co ∈ S1.1 := by rw [hS3]; exact List.mem_append_left _ hL_co
  have hf18 : S1.2 co = .inr (5, [.ref col, .ref con]) := (hfr4 co hL_co (ne_cells hf_co hf_cor1 (by nofun))).trans hf_co
  have hL19 : col ∈ S1.1 := by rw [hS3]; exact List.mem_append_left _ hL_col
  have hf20 : S1.2 col = aQ (cy 2) 5 (va_up (va_up (va_up (va_up (va_up (fun _ => none) 0 (some cor0)) 1 (some cor1)) 2 (some cor2)) 3 (some cor3)) 4 (some cor4)) := (hfr4 col hL_col (ne_cells hf_col hf_cor1 (by nofun))).trans hf_col
  have hL21 : ca ∈ S1.1 := by rw [hS3]; exact List.mem_append_left _ hL_ca
  have hf22 : S1.2 ca = .inr (5, [.ref cal, .ref can]) := (hfr4 ca hL_ca (ne_cells hf_ca hf_cor1 (by nofun))).trans hf_ca
  have hL23 : cal ∈ S1.1 := by rw [hS3]; exact List.mem_append_left _ hL_cal
  have hf24 : S1.2 cal = aQ (cy 2) 5 (va_up (va_up (va_up (va_up (va_up (fun _ => none) 0 (some car0)) 1 (some car1)) 2 (some car2)) 3 (some car3)) 4 (some car4)) := (hfr4 cal hL_cal (ne_cells hf_cal hf_cor1 (by nofun))).trans hf_cal
  have hL25 : cob1 ∈ S1.1 := by rw [hS3]; exact List.mem_append_left _ hL_cob1
  have hf26 : S1.2 cob1 = aN (cy 0) 320 (fun _ => 0) := (hfr4 cob1 hL_cob1 (ne_cells hf_cob1 hf_cor1 (by nofun))).trans hf_cob1
  have hL27 : car1 ∈ S1.1 := by rw [hS3]; exact List.mem_append_left _ hL_car1
  have hf28 : S1.2 car1 = .inr (8, [.ref cab1, .int (nI 0)]) := (hfr4 car1 hL_car1 hne_car1_cor1).trans hf_car1
  have hL29 : cab1 ∈ S1.1 := by rw [hS3]; exact List.mem_append_left _ hL_cab1
  have hf30 : S1.2 cab1 = aN (cy 0) 320 (fun _ => 0) := (hfr4 cab1 hL_cab1 (ne_cells hf_cab1 hf_cor1 (by nofun))).trans hf_cab1
  refine p_callv (va_runV (As := [.ref ln, .ref ca]) (rest := []) C.fix (e_X11_send1 l D cy S1 H.size x ln ca ch ln sl mk co ca su lt lk mb col con cal can cor1 cob1 car1 cab1 (va_up (va_up (va_up (va_up (va_up (fun _ => none) 0 (some cor0)) 1 (some cor1)) 2 (some cor2)) 3 (some cor3)) 4 (some cor4)) (va_up (va_up (va_up (va_up (va_up (fun _ => none) 0 (some car0)) 1 (some car1)) 2 (some car2)) 3 (some car3)) 4 (some car4)) (fun _ => 0) (fun _ => 0) (fun _ => 0) 0 0 (nI 0) (nI 0) (nI 0) 0 0 0 hL7 hf8 hL9 hf10 hL11 hf12 hL13 hf14 hL15 hf16 hL17 hf18 hL19 hf20 hL21 hf22 hL23 hf24 hL6 hf5 hL25 hf26 hL27 hf28 hL29 hf30 hne_cob1_cab1 (Ne.symm hne_car1_cor1) hne_mk_car1 hne_mb_cab1 (by first | assumption | rfl | simp [va_up]) (by first | assumption | rfl | simp [va_up]) (by first | assumption | exact (fun _ => Nat.zero_le 2) | exact rnum_le (fun _ => Nat.zero_le 2) | exact rcop_le (by first | assumption | exact (fun _ => Nat.zero_le 2)) (by first | assumption | exact (fun _ => Nat.zero_le 2)) | exact rharm_le (rcop_le (by first | assumption | exact (fun _ => Nat.zero_le 2)) (by first | assumption | exact (fun _ => Nat.zero_le 2))) | exact rturn_le (fun _ => Nat.zero_le 2)) (by first | assumption | exact (fun _ => Nat.zero_le 2) | exact rnum_le (fun _ => Nat.zero_le 2) | exact rcop_le (by first | assumption | exact (fun _ => Nat.zero_le 2)) (by first | assumption | exact (fun _ => Nat.zero_le 2)) | exact rharm_le (rcop_le (by first | assumption | exact (fun _ => Nat.zero_le 2)) (by first | assumption | exact (fun _ => Nat.zero_le 2))) | exact rturn_le (fun _ => Nat.zero_le 2)) (by first | assumption | exact (fun _ => Nat.zero_le 2) | exact rnum_le (fun _ => Nat.zero_le 2) | exact rcop_le (by first | assumption | exact (fun _ => Nat.zero_le 2)) (by first | assumption | exact (fun _ => Nat.zero_le 2)) | exact rharm_le (rcop_le (by first | assumption | exact (fun _ => Nat.zero_le 2)) (by first | assumption | exact (fun _ => Nat.zero_le 2))) | exact rturn_le (fun _ => Nat.zero_le 2)) (by first | assumption | decide | omega) (by first | assumption | decide | omega) (by first | assumption | decide | omega) (by first | assumption | decide | omega) (by first | assumption | decide | omega) (by first | assumption | (intro h; exact absurd h (by decide)) | (intro h; exact absurd h (by omega))) (by first | assumption | (intro h; exact absurd h (by decide)) | (intro h; exact absurd h (by omega)))) (cwV 2 C.2.2.2.2.1 (gU_V mw_252 mw_253 mw_254 mw_2 (subU mw_255)) rfl rfl rfl hde_X11_settle1chk_V_1 ⟨Nat.le_of_ble_eq_true rfl, Nat.le_of_ble_eq_true rfl⟩) (p_preV C hw hL7 hf8 rfl) rfl rfl hl.1 rfl (lv_room (Nat.le_of_ble_eq_true rfl)) dX11_settle_20 ⟨Nat.le_of_ble_eq_true rfl, Nat.le_of_ble_eq_true rfl⟩) hw hA (fun S31 H locs hpost hw => ?_)
  obtain ⟨wg33, hc34, hS35, hfr36, hf37, hf38⟩ := hpost
  have hL39 : car1 ∈ S31.1 := by rw [hS35]; exact List.mem_append_left _ hL27
  have hL40 : cab1 ∈ S31.1 := by rw [hS35]; exact List.mem_append_left _ hL29
  refine lv_aload_n hx hb dX11_settle_23 rfl (lv_at hl 0 rfl) ?_
  have hL41 : x ∈ S31.1 := by rw [hS35]; exact List.mem_append_left _ hL7
  have hf42 : S31.2 x = .inr (11, [.ref ch, .ref ln, .ref sl, .ref mk, .ref co, .ref ca, .ref su, .ref lt]) := (hfr36 x hL7 (ne_cells hf8 hf28 (by nofun)) (ne_cells hf8 hf30 (by nofun))).trans hf8
  refine p_get C hw (ci := 11) (Cn := RX11) (T := TX11) (N := 8) hL41 hf42 rfl hin_RX11 0 (by decide) (mU mw_17) rfl rfl dX11_settle_24 ?_
  refine lv_aload_n hx hb dX11_settle_27 rfl (lv_at hl 0 rfl) ?_
  refine p_get C hw (ci := 11) (Cn := RX11) (T := TX11) (N := 8) hL41 hf42 rfl hin_RX11 5 (by decide) (mU mw_31) rfl rfl dX11_settle_28 ?_
  refine lv_aload_n hx hb dX11_settle_31 rfl (lv_at hl 0 rfl) ?_
  refine p_get C hw (ci := 11) (Cn := RX11) (T := TX11) (N := 8) hL41 hf42 rfl hin_RX11 4 (by decide) (mU mw_30) rfl rfl dX11_settle_32 ?_
  have hL43 : ch ∈ S31.1 := by rw [hS35]; exact List.mem_append_left _ hL9
  have hf44 : S31.2 ch = .inr (2, [.ref lk, .int (nI 1)]) := (hfr36 ch hL9 (ne_cells hf10 hf28 (by nofun)) (ne_cells hf10 hf30 (by nofun))).trans hf10
  have hL45 : lk ∈ S1.1 := by rw [hS3]; exact List.mem_append_left _ hL_lk
  have hf46 : S1.2 lk = aQ (cy 3) 4 lq := (hfr4 lk hL_lk (ne_cells hf_lk hf_cor1 (by nofun))).trans hf_lk
  have hL47 : lk ∈ S31.1 := by rw [hS35]; exact List.mem_append_left _ hL45
  have hf48 : S31.2 lk = aQ (cy 3) 4 lq := (hfr36 lk hL45 (ne_cells hf46 hf28 (by nofun)) (ne_cells hf46 hf30 ne_QN)).trans hf46
  have hL49 : st ∈ S1.1 := by rw [hS3]; exact List.mem_append_left _ hL_st
  have hf50 : S1.2 st = .inr (3, [.int (nI sa), .int (nI sb), .int (nI sc)]) := (hfr4 st hL_st (ne_cells hf_st hf_cor1 (by nofun))).trans hf_st
  have hL51 : st ∈ S31.1 := by rw [hS35]; exact List.mem_append_left _ hL49
  have hf52 : S31.2 st = .inr (3, [.int (nI sa), .int (nI sb), .int (nI sc)]) := (hfr36 st hL49 (ne_cells hf50 hf28 (by nofun)) (ne_cells hf50 hf30 (by nofun))).trans hf50
  have hL53 : co ∈ S31.1 := by rw [hS35]; exact List.mem_append_left _ hL17
  have hf54 : S31.2 co = .inr (5, [.ref col, .ref con]) := (hfr36 co hL17 (ne_cells hf18 hf28 (by nofun)) (ne_cells hf18 hf30 (by nofun))).trans hf18
  have hL55 : col ∈ S31.1 := by rw [hS35]; exact List.mem_append_left _ hL19
  have hf56 : S31.2 col = aQ (cy 2) 5 (va_up (va_up (va_up (va_up (va_up (fun _ => none) 0 (some cor0)) 1 (some cor1)) 2 (some cor2)) 3 (some cor3)) 4 (some cor4)) := (hfr36 col hL19 (ne_cells hf20 hf28 (by nofun)) (ne_cells hf20 hf30 ne_QN)).trans hf20
  have hL57 : ca ∈ S31.1 := by rw [hS35]; exact List.mem_append_left _ hL21
  have hf58 : S31.2 ca = .inr (5, [.ref cal, .ref can]) := (hfr36 ca hL21 (ne_cells hf22 hf28 (by nofun)) (ne_cells hf22 hf30 (by nofun))).trans hf22
  have hL59 : cal ∈ S31.1 := by rw [hS35]; exact List.mem_append_left _ hL23
  have hf60 : S31.2 cal = aQ (cy 2) 5 (va_up (va_up (va_up (va_up (va_up (fun _ => none) 0 (some car0)) 1 (some car1)) 2 (some car2)) 3 (some car3)) 4 (some car4)) := (hfr36 cal hL23 (ne_cells hf24 hf28 (by nofun)) (ne_cells hf24 hf30 ne_QN)).trans hf24
  have hL61 : cor0 ∈ S1.1 := by rw [hS3]; exact List.mem_append_left _ hL_cor0
  have hf62 : S1.2 cor0 = .inr (8, [.ref cob0, .int (nI 0)]) := (hfr4 cor0 hL_cor0 hne_cor0_cor1).trans hf_cor0
  have hL63 : cor0 ∈ S31.1 := by rw [hS35]; exact List.mem_append_left _ hL61
  have hf64 : S31.2 cor0 = .inr (8, [.ref cob0, .int (nI 0)]) := (hfr36 cor0 hL61 hne_cor0_car1 (ne_cells hf62 hf30 (by nofun))).trans hf62
  have hL65 : car0 ∈ S1.1 := by rw [hS3]; exact List.mem_append_left _ hL_car0
  have hf66 : S1.2 car0 = .inr (8, [.ref cab0, .int (nI 0)]) := (hfr4 car0 hL_car0 hne_car0_cor1).trans hf_car0
  have hL67 : car0 ∈ S31.1 := by rw [hS35]; exact List.mem_append_left _ hL65
  have hf68 : S31.2 car0 = .inr (8, [.ref cab0, .int (nI 0)]) := (hfr36 car0 hL65 hne_car0_car1 (ne_cells hf66 hf30 (by nofun))).trans hf66
  have hL69 : cab0 ∈ S1.1 := by rw [hS3]; exact List.mem_append_left _ hL_cab0
  have hf70 : S1.2 cab0 = aN (cy 0) 32 (fun _ => 0) := (hfr4 cab0 hL_cab0 (ne_cells hf_cab0 hf_cor1 (by nofun))).trans hf_cab0
  have hL71 : cab0 ∈ S31.1 := by rw [hS35]; exact List.mem_append_left _ hL69
  have hf72 : S31.2 cab0 = aN (cy 0) 32 (fun _ => 0) := (hfr36 cab0 hL69 (ne_cells hf70 hf28 (by nofun)) hne_cab0_cab1).trans hf70
  refine p_callv (va_runV (As := [.ref ca, .ref co]) (rest := []) C.fix (e_X1_decode1chk l D cy S31 H.size ch ca co lk st col con cal can cor0 cob0 car0 cab0 car1 lq (va_up (va_up (va_up (va_up (va_up (fun _ => none) 0 (some cor0)) 1 (some cor1)) 2 (some cor2)) 3 (some cor3)) 4 (some cor4)) (va_up (va_up (va_up (va_up (va_up (fun _ => none) 0 (some car0)) 1 (some car1)) 2 (some car2)) 3 (some car3)) 4 (some car4)) 0 (fun _ => 0) sa sb sc hL43 hf44 hL47 hf48 hL51 hf52 hL53 hf54 hL55 hf56 hL57 hf58 hL59 hf60 hL63 hf64 hL67 hf68 hL71 hf72 (by first | assumption | rfl | simp [va_up]) (by first | assumption | rfl | simp [va_up]) (by first | assumption | rfl | simp [va_up]) (by first | assumption | rfl | simp [va_up]) (by first | assumption | decide | omega)) (cwV 2 C.2.2.2.2.1 (gU_V mw_299 mw_300 mw_301 mw_16 (subU mw_302)) rfl rfl rfl hde_X11_settle1chk_V_2 ⟨Nat.le_of_ble_eq_true rfl, Nat.le_of_ble_eq_true rfl⟩) (p_preV C hw hL43 hf44 rfl) rfl rfl hl.1 rfl (lv_room (Nat.le_of_ble_eq_true rfl)) dX11_settle_35 ⟨Nat.le_of_ble_eq_true rfl, Nat.le_of_ble_eq_true rfl⟩) hw hA (fun S73 H locs hpost hw => ?_)
  obtain ⟨hS75, hfr76⟩ := hpost
  have hL77 : cor1 ∈ S31.1 := by rw [hS35]; exact List.mem_append_left _ hL6
  have hf78 : S31.2 cor1 = .inr (8, [.ref cob1, .int (nI 0)]) := (hfr36 cor1 hL6 (Ne.symm hne_car1_cor1) (ne_cells hf5 hf30 (by nofun))).trans hf5
  have hL79 : cor1 ∈ S73.1 := by rw [hS75]; exact List.mem_append_left _ hL77
  have hf80 : S73.2 cor1 = .inr (8, [.ref cob1, .int (nI 0)]) := (hfr76 cor1 hL77 (Ne.symm hne_car0_cor1)).trans hf78
  exact (p_vret C hw (⟨(by simp only [hS75, hS35, hS3, pup, pnew, List.append_nil, List.append_assoc, List.cons_append, List.nil_append]), (fun a_ ha_ hn_0 hn_1 hn_2 hn_3 => ((hfr76 a_ (show a_ ∈ S31.1 from by rw [hS35]; exact List.mem_append_left _ (show a_ ∈ S1.1 from by rw [hS3]; exact List.mem_append_left _ ha_)) hn_3).trans ((hfr36 a_ (show a_ ∈ S1.1 from by rw [hS3]; exact List.mem_append_left _ ha_) hn_1 hn_2).trans (hfr4 a_ ha_ hn_0)))), hf80⟩) hr hlocks dX11_settle_38)

theorem hde_X11_putBehindchk_V_0 : yX1_count.cls = RX1 ∧ yX1_count.cls ≠ "java/lang/invoke/MethodHandle" ∧ yX1_count.cls ≠ "java/lang/invoke/VarHandle" ∧ (parseMethodDescriptor yX1_count.desc).map (fun d => d.parameters.length) = some 0 := by decide +kernel
theorem hde_X11_putBehindchk_V_1 : yX11_last.cls = RX11 ∧ yX11_last.cls ≠ "java/lang/invoke/MethodHandle" ∧ yX11_last.cls ≠ "java/lang/invoke/VarHandle" ∧ (parseMethodDescriptor yX11_last.desc).map (fun d => d.parameters.length) = some 1 := by decide +kernel
theorem hde_X11_putBehindchk_V_2 : yX7_size.cls = RX7 ∧ yX7_size.cls ≠ "java/lang/invoke/MethodHandle" ∧ yX7_size.cls ≠ "java/lang/invoke/VarHandle" ∧ (parseMethodDescriptor yX7_size.desc).map (fun d => d.parameters.length) = some 0 := by decide +kernel
theorem hdue_X11_putBehindchk_3 : "SoundingLine$Stage" ≠ "java/lang/invoke/MethodHandle" ∧ "SoundingLine$Stage" ≠ "java/lang/invoke/VarHandle" ∧ (parseMethodDescriptor "(I)I").map (fun d => d.parameters.length) = some 1 := by decide +kernel
theorem hde_X11_putBehindchk_V_4 : yX1_append.cls = RX1 ∧ yX1_append.cls ≠ "java/lang/invoke/MethodHandle" ∧ yX1_append.cls ≠ "java/lang/invoke/VarHandle" ∧ (parseMethodDescriptor yX1_append.desc).map (fun d => d.parameters.length) = some 1 := by decide +kernel
theorem hde_X11_putBehindchk_V_5 : yX11_settle.cls = RX11 ∧ yX11_settle.cls ≠ "java/lang/invoke/MethodHandle" ∧ yX11_settle.cls ≠ "java/lang/invoke/VarHandle" ∧ (parseMethodDescriptor yX11_settle.desc).map (fun d => d.parameters.length) = some 0 := by decide +kernel
set_option maxHeartbeats 4000000 in
set_option maxRecDepth 100000 in
theorem e_X11_putBehindchk (l : Launch) (D : va_G) (cy : Nat → ClassId) (S : pS) (sz : Nat) (x : Nat) (st : Nat) (ch : Nat) (ln : Nat) (sl : Nat) (mk : Nat) (co : Nat) (ca : Nat) (su : Nat) (lt : Nat) (lk : Nat) (mb : Nat) (col : Nat) (con : Nat) (cor0 : Nat) (cor1 : Nat) (cor2 : Nat) (cor3 : Nat) (cor4 : Nat) (cob0 : Nat) (cob1 : Nat) (cal : Nat) (can : Nat) (car0 : Nat) (car1 : Nat) (car2 : Nat) (car3 : Nat) (car4 : Nat) (cab0 : Nat) (cab1 : Nat) (sa : Nat) (sb : Nat) (sc : Nat) (hL_x : x ∈ S.1) (hf_x : S.2 x = .inr (11, [.ref ch, .ref ln, .ref sl, .ref mk, .ref co, .ref ca, .ref su, .ref lt])) (hL_ch : ch ∈ S.1) (hf_ch : S.2 ch = .inr (2, [.ref lk, .int (nI 0)])) (hL_lk : lk ∈ S.1) (hf_lk : S.2 lk = aQ (cy 3) 4 (fun _ => none)) (hL_ln : ln ∈ S.1) (hf_ln : S.2 ln = .inr (6, [.int (nI 0), .int (nI 0), .int (nI 0), .int (nI 0)])) (hL_mk : mk ∈ S.1) (hf_mk : S.2 mk = .inr (8, [.ref mb, .int (nI 320)])) (hL_mb : mb ∈ S.1) (hf_mb : S.2 mb = aN (cy 0) 320 (fun _ => 0)) (hL_co : co ∈ S.1) (hf_co : S.2 co = .inr (5, [.ref col, .ref con])) (hL_col : col ∈ S.1) (hf_col : S.2 col = aQ (cy 2) 5 (va_up (va_up (va_up (va_up (va_up (fun _ => none) 0 (some cor0)) 1 (some cor1)) 2 (some cor2)) 3 (some cor3)) 4 (some cor4))) (hL_cor0 : cor0 ∈ S.1) (hf_cor0 : S.2 cor0 = .inr (8, [.ref cob0, .int (nI 0)])) (hL_cor1 : cor1 ∈ S.1) (hf_cor1 : S.2 cor1 = .inr (8, [.ref cob1, .int (nI 0)])) (hL_cob1 : cob1 ∈ S.1) (hf_cob1 : S.2 cob1 = aN (cy 0) 320 (fun _ => 0)) (hL_ca : ca ∈ S.1) (hf_ca : S.2 ca = .inr (5, [.ref cal, .ref can])) (hL_cal : cal ∈ S.1) (hf_cal : S.2 cal = aQ (cy 2) 5 (va_up (va_up (va_up (va_up (va_up (fun _ => none) 0 (some car0)) 1 (some car1)) 2 (some car2)) 3 (some car3)) 4 (some car4))) (hL_car0 : car0 ∈ S.1) (hf_car0 : S.2 car0 = .inr (8, [.ref cab0, .int (nI 0)])) (hL_cab0 : cab0 ∈ S.1) (hf_cab0 : S.2 cab0 = aN (cy 0) 32 (fun _ => 0)) (hL_car1 : car1 ∈ S.1) (hf_car1 : S.2 car1 = .inr (8, [.ref cab1, .int (nI 0)])) (hL_cab1 : cab1 ∈ S.1) (hf_cab1 : S.2 cab1 = aN (cy 0) 320 (fun _ => 0)) (hL_st : st ∈ S.1) (hf_st : S.2 st = .inr (3, [.int (nI sa), .int (nI sb), .int (nI sc)])) (hne_col_lk : col ≠ lk) (hne_cal_lk : cal ≠ lk) (hne_cor0_cor1 : cor0 ≠ cor1) (hne_mk_cor1 : mk ≠ cor1) (hne_car1_cor1 : car1 ≠ cor1) (hne_cob1_cab1 : cob1 ≠ cab1) (hne_mk_car1 : mk ≠ car1) (hne_mb_cab1 : mb ≠ cab1) (hne_cor0_car1 : cor0 ≠ car1) (hne_car0_cor1 : car0 ≠ cor1) (hne_car0_car1 : car0 ≠ car1) (hne_cab0_cab1 : cab0 ≠ cab1) (hsb : sb < 2 ^ 31) : Met l yX11_putBehind (Cond.code yX11_putBehind cX11_putBehind 2 (some .int) :: lwU) ({ frames := 6, cells := 0, slots := 0, locals := 131 }) (pPc D cy S sz [.ref x, .ref st]) (pQi D cy S sz (fun r S' => r = (nI 0) ∧ S'.1 = S.1 ++ [] ∧ (∀ a_, a_ ∈ S.1 → a_ ≠ lk → a_ ≠ ch → a_ ≠ cor1 → a_ ≠ car1 → a_ ≠ cab1 → a_ ≠ car0 → S'.2 a_ = S.2 a_))) 0 0 (pA S sz) := by
  refine Met.ofW (cc := cX11_putBehind) (maxL := 2) (ret := (some .int)) (by decide) rfl ?_
  intro p e s m args below meth c s₁ B hml hv
  obtain ⟨rfl, rfl, C, hw, hA, hr, hlocks⟩ := p_start B hml hv
  have hx := C.1
  have hb := C.2.1
  have hl := lv_entry ([.ref x, .ref st]) (n := 2) (Nat.le_of_ble_eq_true rfl)
  rw [lg_entry_eq]
  generalize (lg_sl ([.ref x, .ref st]) ++ List.replicate (2 - (lg_sl ([.ref x, .ref st])).length) Slot.unset).toArray = ls at hl ⊢
  have hl : lv_has ls 2 [(0, .ref x), (1, .ref st)] := hl
  have hin_RX11 : ∀ w ∈ u_ws RX11 TX11 8, w ∈ (Cond.code yX11_putBehind cX11_putBehind 2 (some .int) :: lwU) := fun w h => mU (sub_RX11 w h)
  refine lv_aload_n hx hb dX11_putBehind_0 rfl (lv_at hl 0 rfl) ?_
  refine p_get C hw (ci := 11) (Cn := RX11) (T := TX11) (N := 8) hL_x hf_x rfl hin_RX11 0 (by decide) (mU mw_17) rfl rfl dX11_putBehind_1 ?_
  refine p_calli (va_runV (As := []) (rest := []) C.fix (c_X1_count l D cy S s.heap.size ch lk 0 hL_ch hf_ch) (cwV 0 C.2.2.2.2.1 (gU_V mw_260 mw_261 mw_262 mw_16 sub_X1_count) rfl rfl rfl hde_X11_putBehindchk_V_0 ⟨Nat.le_of_ble_eq_true rfl, Nat.le_of_ble_eq_true rfl⟩) (p_preV C hw hL_ch hf_ch rfl) rfl rfl hl.1 rfl (lv_room (Nat.le_of_ble_eq_true rfl)) dX11_putBehind_4 ⟨Nat.le_of_ble_eq_true rfl, Nat.le_of_ble_eq_true rfl⟩) hw hA (fun r2 S1 H locs hpost hw => ?_)
  obtain ⟨hr_, hS_⟩ := hpost
  subst hr_
  subst hS_
  refine lv_iconst (v := nI 4) hx hb dX11_putBehind_7 (by decide) ?_
  refine n_icmp_lt (tgt := 22) hx hb (by first | decide | omega) (by first | decide | omega) dX11_putBehind_8 (by decide) (fun h_8 => ?_) (fun h_8 => ?_)
  · skip
    refine lv_aload_n hx hb dX11_putBehind_22 rfl (lv_at hl 1 rfl) ?_
    refine lv_aload_n hx hb dX11_putBehind_23 rfl (lv_at hl 0 rfl) ?_
    refine lv_aload_n hx hb dX11_putBehind_24 rfl (lv_at hl 0 rfl) ?_
    refine p_get C hw (ci := 11) (Cn := RX11) (T := TX11) (N := 8) hL_x hf_x rfl hin_RX11 4 (by decide) (mU mw_30) rfl rfl dX11_putBehind_25 ?_
    refine p_callq (va_runV (As := [.ref co]) (rest := [.ref st]) C.fix (e_X11_last0 l D cy S H.size x co ch ln sl mk co ca su lt lk col con (va_up (va_up (va_up (va_up (va_up (fun _ => none) 0 (some cor0)) 1 (some cor1)) 2 (some cor2)) 3 (some cor3)) 4 (some cor4)) cor0 hL_x hf_x hL_ch hf_ch hL_co hf_co hL_col hf_col (by first | assumption | rfl | simp [va_up])) (cwV 1 C.2.2.2.2.1 (gU_V mw_256 mw_257 mw_258 mw_2 (subU mw_259)) rfl rfl rfl hde_X11_putBehindchk_V_1 ⟨Nat.le_of_ble_eq_true rfl, Nat.le_of_ble_eq_true rfl⟩) (p_preV C hw hL_x hf_x rfl) rfl rfl hl.1 rfl (lv_room (Nat.le_of_ble_eq_true rfl)) dX11_putBehind_28 ⟨Nat.le_of_ble_eq_true rfl, Nat.le_of_ble_eq_true rfl⟩) hw hA (fun r4 S3 H locs hpost hw => ?_)
    obtain ⟨hr_, hS_⟩ := hpost
    subst hr_
    subst hS_
    refine p_calli (va_runV (As := []) (rest := [.ref st]) C.fix (c_X7_size l D cy S H.size cor0 cob0 0 hL_cor0 hf_cor0) (cwV 0 C.2.2.2.2.1 (gU_V mw_130 mw_131 mw_132 mw_25 sub_X7_size) rfl rfl rfl hde_X11_putBehindchk_V_2 ⟨Nat.le_of_ble_eq_true rfl, Nat.le_of_ble_eq_true rfl⟩) (p_preV C hw hL_cor0 hf_cor0 rfl) rfl rfl hl.1 rfl (lv_room (Nat.le_of_ble_eq_true rfl)) dX11_putBehind_31 ⟨Nat.le_of_ble_eq_true rfl, Nat.le_of_ble_eq_true rfl⟩) hw hA (fun r6 S5 H locs hpost hw => ?_)
    obtain ⟨hr_, hS_⟩ := hpost
    subst hr_
    subst hS_
    refine p_calli (va_runU (x := ⟨"SoundingLine$Stage", "sizeOf", "(I)I"⟩) (As := [.int (nI 0)]) (rest := []) C.fix (e_X2_sizeOf0 l D cy S H.size st sa sb sc hL_st hf_st (by first | assumption | decide | omega)) (va_cwA 1 C.2.2.2.2.1 (gU_U mw_580 mw_143 mw_152 mw_153 mw_154 (subU mw_155)) rfl rfl rfl (C.dcl 0 _ rfl) hdue_X11_putBehindchk_3 ⟨Nat.le_of_ble_eq_true rfl, Nat.le_of_ble_eq_true rfl⟩) (p_preV C hw hL_st hf_st rfl) rfl rfl hl.1 rfl (lv_room (Nat.le_of_ble_eq_true rfl)) dX11_putBehind_34 ⟨Nat.le_of_ble_eq_true rfl, Nat.le_of_ble_eq_true rfl⟩) hw hA (fun r8 S7 H locs hpost hw => ?_)
    obtain ⟨hr_, hS_⟩ := hpost
    subst hr_
    subst hS_
    refine lv_sipush (v := nI 320) hx hb dX11_putBehind_37 (by decide) ?_
    refine n_icmp_le (tgt := 53) hx hb (by first | decide | omega) (by first | decide | omega) dX11_putBehind_40 (by decide) (fun h_40 => ?_) (fun h_40 => ?_)
    · skip
      refine lv_aload_n hx hb dX11_putBehind_53 rfl (lv_at hl 0 rfl) ?_
      refine p_get C hw (ci := 11) (Cn := RX11) (T := TX11) (N := 8) hL_x hf_x rfl hin_RX11 0 (by decide) (mU mw_17) rfl rfl dX11_putBehind_54 ?_
      refine lv_aload_n hx hb dX11_putBehind_57 rfl (lv_at hl 1 rfl) ?_
      refine p_callv (va_runV (As := [.ref st]) (rest := []) C.fix (c_X1_append l D cy S H.size ch lk 0 st 3 1 3 (fun _ => none) RX2 TX2 ([.int (nI sa), .int (nI sb), .int (nI sc)]) hL_ch hf_ch hL_lk hf_lk (by first | assumption | decide | omega) hL_st hf_st rfl rfl) (cwV 1 C.2.2.2.2.1 (gU_V mw_581 mw_582 mw_583 mw_16 sub_X1_append) rfl rfl rfl hde_X11_putBehindchk_V_4 ⟨Nat.le_of_ble_eq_true rfl, Nat.le_of_ble_eq_true rfl⟩) (p_preV C hw hL_ch hf_ch rfl) rfl rfl hl.1 rfl (lv_room (Nat.le_of_ble_eq_true rfl)) dX11_putBehind_58 ⟨Nat.le_of_ble_eq_true rfl, Nat.le_of_ble_eq_true rfl⟩) hw hA (fun S9 H locs hpost hw => ?_)
      have hS_ := hpost
      obtain ⟨S11, hS11⟩ : ∃ z, z = pup S lk (aQ (cy 3) 4 (va_up (fun _ => none) 0 (some st))) := ⟨_, rfl⟩
      rw [← hS11] at hS_
      have hL12 : lk ∈ S11.1 := by rw [hS11]; exact hL_lk
      have hf13 : S11.2 lk = aQ (cy 3) 4 (va_up (fun _ => none) 0 (some st)) := by rw [hS11]; exact pup_s
      try rw [show 0 + 1 = 1 from rfl] at hS_
      have hL14 : ch ∈ S11.1 := by rw [hS11]; exact hL_ch
      have hf15 : S11.2 ch = .inr (2, [.ref lk, .int (nI 0)]) := by rw [hS11]; exact (pup_n (ne_cells hf_ch hf_lk (by nofun))).trans hf_ch
      have hS16 := hS_
      have hL17 : ch ∈ S9.1 := by rw [hS16]; exact hL14
      have hf18 : S9.2 ch = .inr (2, [.ref lk, .int (nI 1)]) := by rw [hS16]; exact pup_s
      refine lv_aload_n hx hb dX11_putBehind_61 rfl (lv_at hl 0 rfl) ?_
      have hL19 : x ∈ S11.1 := by rw [hS11]; exact hL_x
      have hf20 : S11.2 x = .inr (11, [.ref ch, .ref ln, .ref sl, .ref mk, .ref co, .ref ca, .ref su, .ref lt]) := by rw [hS11]; exact (pup_n (ne_cells hf_x hf_lk (by nofun))).trans hf_x
      have hL21 : x ∈ S9.1 := by rw [hS16]; exact hL19
      have hf22 : S9.2 x = .inr (11, [.ref ch, .ref ln, .ref sl, .ref mk, .ref co, .ref ca, .ref su, .ref lt]) := by rw [hS16]; exact (pup_n (ne_cells hf20 hf15 (by nofun))).trans hf20
      have hL23 : lk ∈ S9.1 := by rw [hS16]; exact hL12
      have hf24 : S9.2 lk = aQ (cy 3) 4 (va_up (fun _ => none) 0 (some st)) := by rw [hS16]; exact (pup_n (ne_cells hf13 hf15 (by nofun))).trans hf13
      have hL25 : ln ∈ S11.1 := by rw [hS11]; exact hL_ln
      have hf26 : S11.2 ln = .inr (6, [.int (nI 0), .int (nI 0), .int (nI 0), .int (nI 0)]) := by rw [hS11]; exact (pup_n (ne_cells hf_ln hf_lk (by nofun))).trans hf_ln
      have hL27 : ln ∈ S9.1 := by rw [hS16]; exact hL25
      have hf28 : S9.2 ln = .inr (6, [.int (nI 0), .int (nI 0), .int (nI 0), .int (nI 0)]) := by rw [hS16]; exact (pup_n (ne_cells hf26 hf15 (by nofun))).trans hf26
      have hL29 : mk ∈ S11.1 := by rw [hS11]; exact hL_mk
      have hf30 : S11.2 mk = .inr (8, [.ref mb, .int (nI 320)]) := by rw [hS11]; exact (pup_n (ne_cells hf_mk hf_lk (by nofun))).trans hf_mk
      have hL31 : mk ∈ S9.1 := by rw [hS16]; exact hL29
      have hf32 : S9.2 mk = .inr (8, [.ref mb, .int (nI 320)]) := by rw [hS16]; exact (pup_n (ne_cells hf30 hf15 (by nofun))).trans hf30
      have hL33 : mb ∈ S11.1 := by rw [hS11]; exact hL_mb
      have hf34 : S11.2 mb = aN (cy 0) 320 (fun _ => 0) := by rw [hS11]; exact (pup_n (ne_cells hf_mb hf_lk ne_NQ)).trans hf_mb
      have hL35 : mb ∈ S9.1 := by rw [hS16]; exact hL33
      have hf36 : S9.2 mb = aN (cy 0) 320 (fun _ => 0) := by rw [hS16]; exact (pup_n (ne_cells hf34 hf15 (by nofun))).trans hf34
      have hL37 : co ∈ S11.1 := by rw [hS11]; exact hL_co
      have hf38 : S11.2 co = .inr (5, [.ref col, .ref con]) := by rw [hS11]; exact (pup_n (ne_cells hf_co hf_lk (by nofun))).trans hf_co
      have hL39 : co ∈ S9.1 := by rw [hS16]; exact hL37
      have hf40 : S9.2 co = .inr (5, [.ref col, .ref con]) := by rw [hS16]; exact (pup_n (ne_cells hf38 hf15 (by nofun))).trans hf38
      have hL41 : col ∈ S11.1 := by rw [hS11]; exact hL_col
      have hf42 : S11.2 col = aQ (cy 2) 5 (va_up (va_up (va_up (va_up (va_up (fun _ => none) 0 (some cor0)) 1 (some cor1)) 2 (some cor2)) 3 (some cor3)) 4 (some cor4)) := by rw [hS11]; exact (pup_n hne_col_lk).trans hf_col
      have hL43 : col ∈ S9.1 := by rw [hS16]; exact hL41
      have hf44 : S9.2 col = aQ (cy 2) 5 (va_up (va_up (va_up (va_up (va_up (fun _ => none) 0 (some cor0)) 1 (some cor1)) 2 (some cor2)) 3 (some cor3)) 4 (some cor4)) := by rw [hS16]; exact (pup_n (ne_cells hf42 hf15 (by nofun))).trans hf42
      have hL45 : cor0 ∈ S11.1 := by rw [hS11]; exact hL_cor0
      have hf46 : S11.2 cor0 = .inr (8, [.ref cob0, .int (nI 0)]) := by rw [hS11]; exact (pup_n (ne_cells hf_cor0 hf_lk (by nofun))).trans hf_cor0
      have hL47 : cor0 ∈ S9.1 := by rw [hS16]; exact hL45
      have hf48 : S9.2 cor0 = .inr (8, [.ref cob0, .int (nI 0)]) := by rw [hS16]; exact (pup_n (ne_cells hf46 hf15 (by nofun))).trans hf46
      have hL49 : cor1 ∈ S11.1 := by rw [hS11]; exact hL_cor1
      have hf50 : S11.2 cor1 = .inr (8, [.ref cob1, .int (nI 0)]) := by rw [hS11]; exact (pup_n (ne_cells hf_cor1 hf_lk (by nofun))).trans hf_cor1
      have hL51 : cor1 ∈ S9.1 := by rw [hS16]; exact hL49
      have hf52 : S9.2 cor1 = .inr (8, [.ref cob1, .int (nI 0)]) := by rw [hS16]; exact (pup_n (ne_cells hf50 hf15 (by nofun))).trans hf50
      have hL53 : cob1 ∈ S11.1 := by rw [hS11]; exact hL_cob1
      have hf54 : S11.2 cob1 = aN (cy 0) 320 (fun _ => 0) := by rw [hS11]; exact (pup_n (ne_cells hf_cob1 hf_lk ne_NQ)).trans hf_cob1
      have hL55 : cob1 ∈ S9.1 := by rw [hS16]; exact hL53
      have hf56 : S9.2 cob1 = aN (cy 0) 320 (fun _ => 0) := by rw [hS16]; exact (pup_n (ne_cells hf54 hf15 (by nofun))).trans hf54
      have hL57 : ca ∈ S11.1 := by rw [hS11]; exact hL_ca
      have hf58 : S11.2 ca = .inr (5, [.ref cal, .ref can]) := by rw [hS11]; exact (pup_n (ne_cells hf_ca hf_lk (by nofun))).trans hf_ca
      have hL59 : ca ∈ S9.1 := by rw [hS16]; exact hL57
      have hf60 : S9.2 ca = .inr (5, [.ref cal, .ref can]) := by rw [hS16]; exact (pup_n (ne_cells hf58 hf15 (by nofun))).trans hf58
      have hL61 : cal ∈ S11.1 := by rw [hS11]; exact hL_cal
      have hf62 : S11.2 cal = aQ (cy 2) 5 (va_up (va_up (va_up (va_up (va_up (fun _ => none) 0 (some car0)) 1 (some car1)) 2 (some car2)) 3 (some car3)) 4 (some car4)) := by rw [hS11]; exact (pup_n hne_cal_lk).trans hf_cal
      have hL63 : cal ∈ S9.1 := by rw [hS16]; exact hL61
      have hf64 : S9.2 cal = aQ (cy 2) 5 (va_up (va_up (va_up (va_up (va_up (fun _ => none) 0 (some car0)) 1 (some car1)) 2 (some car2)) 3 (some car3)) 4 (some car4)) := by rw [hS16]; exact (pup_n (ne_cells hf62 hf15 (by nofun))).trans hf62
      have hL65 : car0 ∈ S11.1 := by rw [hS11]; exact hL_car0
      have hf66 : S11.2 car0 = .inr (8, [.ref cab0, .int (nI 0)]) := by rw [hS11]; exact (pup_n (ne_cells hf_car0 hf_lk (by nofun))).trans hf_car0
      have hL67 : car0 ∈ S9.1 := by rw [hS16]; exact hL65
      have hf68 : S9.2 car0 = .inr (8, [.ref cab0, .int (nI 0)]) := by rw [hS16]; exact (pup_n (ne_cells hf66 hf15 (by nofun))).trans hf66
      have hL69 : cab0 ∈ S11.1 := by rw [hS11]; exact hL_cab0
      have hf70 : S11.2 cab0 = aN (cy 0) 32 (fun _ => 0) := by rw [hS11]; exact (pup_n (ne_cells hf_cab0 hf_lk ne_NQ)).trans hf_cab0
      have hL71 : cab0 ∈ S9.1 := by rw [hS16]; exact hL69
      have hf72 : S9.2 cab0 = aN (cy 0) 32 (fun _ => 0) := by rw [hS16]; exact (pup_n (ne_cells hf70 hf15 (by nofun))).trans hf70
      have hL73 : car1 ∈ S11.1 := by rw [hS11]; exact hL_car1
      have hf74 : S11.2 car1 = .inr (8, [.ref cab1, .int (nI 0)]) := by rw [hS11]; exact (pup_n (ne_cells hf_car1 hf_lk (by nofun))).trans hf_car1
      have hL75 : car1 ∈ S9.1 := by rw [hS16]; exact hL73
      have hf76 : S9.2 car1 = .inr (8, [.ref cab1, .int (nI 0)]) := by rw [hS16]; exact (pup_n (ne_cells hf74 hf15 (by nofun))).trans hf74
      have hL77 : cab1 ∈ S11.1 := by rw [hS11]; exact hL_cab1
      have hf78 : S11.2 cab1 = aN (cy 0) 320 (fun _ => 0) := by rw [hS11]; exact (pup_n (ne_cells hf_cab1 hf_lk ne_NQ)).trans hf_cab1
      have hL79 : cab1 ∈ S9.1 := by rw [hS16]; exact hL77
      have hf80 : S9.2 cab1 = aN (cy 0) 320 (fun _ => 0) := by rw [hS16]; exact (pup_n (ne_cells hf78 hf15 (by nofun))).trans hf78
      have hL81 : st ∈ S11.1 := by rw [hS11]; exact hL_st
      have hf82 : S11.2 st = .inr (3, [.int (nI sa), .int (nI sb), .int (nI sc)]) := by rw [hS11]; exact (pup_n (ne_cells hf_st hf_lk (by nofun))).trans hf_st
      have hL83 : st ∈ S9.1 := by rw [hS16]; exact hL81
      have hf84 : S9.2 st = .inr (3, [.int (nI sa), .int (nI sb), .int (nI sc)]) := by rw [hS16]; exact (pup_n (ne_cells hf82 hf15 (by nofun))).trans hf82
      refine p_callv (va_runV (As := []) (rest := []) C.fix (e_X11_settle1chk l D cy S9 H.size x ch ln sl mk co ca su lt lk mb col con cor0 cor1 cor2 cor3 cor4 cob0 cob1 cal can car0 car1 car2 car3 car4 cab0 cab1 st (va_up (fun _ => none) 0 (some st)) sa sb sc hL21 hf22 hL17 hf18 hL23 hf24 hL27 hf28 hL31 hf32 hL35 hf36 hL39 hf40 hL43 hf44 hL47 hf48 hL51 hf52 hL55 hf56 hL59 hf60 hL63 hf64 hL67 hf68 hL71 hf72 hL75 hf76 hL79 hf80 hL83 hf84 hne_cor0_cor1 hne_mk_cor1 hne_car1_cor1 hne_cob1_cab1 hne_mk_car1 hne_mb_cab1 hne_cor0_car1 hne_car0_cor1 hne_car0_car1 hne_cab0_cab1 (by first | assumption | rfl | simp [va_up]) (by first | assumption | decide | omega)) (cwV 0 C.2.2.2.2.1 (gU_V mw_187 mw_188 mw_189 mw_2 (subU mw_190)) rfl rfl rfl hde_X11_putBehindchk_V_5 ⟨Nat.le_of_ble_eq_true rfl, Nat.le_of_ble_eq_true rfl⟩) (p_preV C hw hL21 hf22 rfl) rfl rfl hl.1 rfl (lv_room (Nat.le_of_ble_eq_true rfl)) dX11_putBehind_62 ⟨Nat.le_of_ble_eq_true rfl, Nat.le_of_ble_eq_true rfl⟩) hw hA (fun S85 H locs hpost hw => ?_)
      obtain ⟨hS87, hfr88, hf89⟩ := hpost
      have hL90 : cor1 ∈ S85.1 := by rw [hS87]; exact List.mem_append_left _ hL51
      refine lv_aload_n hx hb dX11_putBehind_65 rfl (lv_at hl 0 rfl) ?_
      refine lv_aload_n hx hb dX11_putBehind_66 rfl (lv_at hl 0 rfl) ?_
      have hL91 : x ∈ S85.1 := by rw [hS87]; exact List.mem_append_left _ hL21
      have hf92 : S85.2 x = .inr (11, [.ref ch, .ref ln, .ref sl, .ref mk, .ref co, .ref ca, .ref su, .ref lt]) := (hfr88 x hL21 (ne_cells hf22 hf52 (by nofun)) (ne_cells hf22 hf76 (by nofun)) (ne_cells hf22 hf80 (by nofun)) (ne_cells hf22 hf68 (by nofun))).trans hf22
      refine p_get C hw (ci := 11) (Cn := RX11) (T := TX11) (N := 8) hL91 hf92 rfl hin_RX11 4 (by decide) (mU mw_30) rfl rfl dX11_putBehind_67 ?_
      have hL93 : ch ∈ S85.1 := by rw [hS87]; exact List.mem_append_left _ hL17
      have hf94 : S85.2 ch = .inr (2, [.ref lk, .int (nI 1)]) := (hfr88 ch hL17 (ne_cells hf18 hf52 (by nofun)) (ne_cells hf18 hf76 (by nofun)) (ne_cells hf18 hf80 (by nofun)) (ne_cells hf18 hf68 (by nofun))).trans hf18
      have hL95 : co ∈ S85.1 := by rw [hS87]; exact List.mem_append_left _ hL39
      have hf96 : S85.2 co = .inr (5, [.ref col, .ref con]) := (hfr88 co hL39 (ne_cells hf40 hf52 (by nofun)) (ne_cells hf40 hf76 (by nofun)) (ne_cells hf40 hf80 (by nofun)) (ne_cells hf40 hf68 (by nofun))).trans hf40
      have hL97 : col ∈ S85.1 := by rw [hS87]; exact List.mem_append_left _ hL43
      have hf98 : S85.2 col = aQ (cy 2) 5 (va_up (va_up (va_up (va_up (va_up (fun _ => none) 0 (some cor0)) 1 (some cor1)) 2 (some cor2)) 3 (some cor3)) 4 (some cor4)) := (hfr88 col hL43 (ne_cells hf44 hf52 (by nofun)) (ne_cells hf44 hf76 (by nofun)) (ne_cells hf44 hf80 ne_QN) (ne_cells hf44 hf68 (by nofun))).trans hf44
      refine p_callq (va_runV (As := [.ref co]) (rest := []) C.fix (e_X11_last1 l D cy S85 H.size x co ch ln sl mk co ca su lt lk col con (va_up (va_up (va_up (va_up (va_up (fun _ => none) 0 (some cor0)) 1 (some cor1)) 2 (some cor2)) 3 (some cor3)) 4 (some cor4)) cor1 hL91 hf92 hL93 hf94 hL95 hf96 hL97 hf98 (by first | assumption | rfl | simp [va_up])) (cwV 1 C.2.2.2.2.1 (gU_V mw_256 mw_257 mw_258 mw_2 (subU mw_259)) rfl rfl rfl hde_X11_putBehindchk_V_1 ⟨Nat.le_of_ble_eq_true rfl, Nat.le_of_ble_eq_true rfl⟩) (p_preV C hw hL91 hf92 rfl) rfl rfl hl.1 rfl (lv_room (Nat.le_of_ble_eq_true rfl)) dX11_putBehind_70 ⟨Nat.le_of_ble_eq_true rfl, Nat.le_of_ble_eq_true rfl⟩) hw hA (fun r100 S99 H locs hpost hw => ?_)
      obtain ⟨hr_, hS_⟩ := hpost
      subst hr_
      subst hS_
      refine p_calli (va_runV (As := []) (rest := []) C.fix (c_X7_size l D cy S85 H.size cor1 cob1 0 hL90 hf89) (cwV 0 C.2.2.2.2.1 (gU_V mw_130 mw_131 mw_132 mw_25 sub_X7_size) rfl rfl rfl hde_X11_putBehindchk_V_2 ⟨Nat.le_of_ble_eq_true rfl, Nat.le_of_ble_eq_true rfl⟩) (p_preV C hw hL90 hf89 rfl) rfl rfl hl.1 rfl (lv_room (Nat.le_of_ble_eq_true rfl)) dX11_putBehind_73 ⟨Nat.le_of_ble_eq_true rfl, Nat.le_of_ble_eq_true rfl⟩) hw hA (fun r102 S101 H locs hpost hw => ?_)
      obtain ⟨hr_, hS_⟩ := hpost
      subst hr_
      subst hS_
      exact (p_iret C hw (⟨rfl, (by simp only [hS87, hS16, hS11, pup, pnew, List.append_nil, List.append_assoc, List.cons_append, List.nil_append]), (fun a_ ha_ hn_0 hn_1 hn_2 hn_3 hn_4 hn_5 => ((hfr88 a_ (show a_ ∈ S9.1 from by rw [hS16]; exact (show a_ ∈ S11.1 from by rw [hS11]; exact ha_)) hn_2 hn_3 hn_4 hn_5).trans ((show S9.2 a_ = S11.2 a_ from by rw [hS16]; exact pup_n hn_1).trans (show S11.2 a_ = S.2 a_ from by rw [hS11]; exact pup_n hn_0))))⟩) hr hlocks dX11_putBehind_76)
    · exact absurd h_40 (by first | decide | omega)
  · exact absurd h_8 (by first | decide | omega)

theorem hde_X9_sizeOf0_V_0 : yX9_stepsFor.cls = RX9 ∧ yX9_stepsFor.cls ≠ "java/lang/invoke/MethodHandle" ∧ yX9_stepsFor.cls ≠ "java/lang/invoke/VarHandle" ∧ (parseMethodDescriptor yX9_stepsFor.desc).map (fun d => d.parameters.length) = some 1 := by decide +kernel
set_option maxHeartbeats 4000000 in
set_option maxRecDepth 100000 in
theorem e_X9_sizeOf0 (l : Launch) (D : va_G) (cy : Nat → ClassId) (S : pS) (sz : Nat) (st : Nat) (sw : Nat) (lt : Nat) (sa : Nat) (sb : Nat) (hL_st : st ∈ S.1) (hf_st : S.2 st = .inr (9, [.int (nI sa), .int (nI sb), .ref sw, .ref lt]))  : Met l yX9_sizeOf (Cond.code yX9_sizeOf cX9_sizeOf 2 (some .int) :: lwU) ({ frames := 1, cells := 0, slots := 0, locals := 21 }) (pPc D cy S sz [.ref st, .int (nI 0)]) (pQi D cy S sz (fun r S' => r = (nI 0) ∧ S = S')) 0 0 (pA S sz) := by
  refine Met.ofW (cc := cX9_sizeOf) (maxL := 2) (ret := (some .int)) (by decide) rfl ?_
  intro p e s m args below meth c s₁ B hml hv
  obtain ⟨rfl, rfl, C, hw, hA, hr, hlocks⟩ := p_start B hml hv
  have hx := C.1
  have hb := C.2.1
  have hl := lv_entry ([.ref st, .int (nI 0)]) (n := 2) (Nat.le_of_ble_eq_true rfl)
  rw [lg_entry_eq]
  generalize (lg_sl ([.ref st, .int (nI 0)]) ++ List.replicate (2 - (lg_sl ([.ref st, .int (nI 0)])).length) Slot.unset).toArray = ls at hl ⊢
  have hl : lv_has ls 2 [(0, .ref st), (1, .int (nI 0))] := hl
  have hin_RX9 : ∀ w ∈ u_ws RX9 TX9 4, w ∈ (Cond.code yX9_sizeOf cX9_sizeOf 2 (some .int) :: lwU) := fun w h => mU (sub_RX9 w h)
  refine lv_aload_n hx hb dX9_sizeOf_0 rfl (lv_at hl 0 rfl) ?_
  refine lv_iload_n hx hb dX9_sizeOf_1 rfl (lv_at hl 1 rfl) ?_
  refine p_calli (va_runV (As := [.int (nI 0)]) (rest := []) C.fix (e_X9_stepsFor0 l D cy S s.heap.size st  ) (cwV 1 C.2.2.2.2.1 (gU_V mw_168 mw_169 mw_170 mw_165 (subU mw_171)) rfl rfl rfl hde_X9_sizeOf0_V_0 ⟨Nat.le_of_ble_eq_true rfl, Nat.le_of_ble_eq_true rfl⟩) (p_preV C hw hL_st hf_st rfl) rfl rfl hl.1 rfl (lv_room (Nat.le_of_ble_eq_true rfl)) dX9_sizeOf_2 ⟨Nat.le_of_ble_eq_true rfl, Nat.le_of_ble_eq_true rfl⟩) hw hA (fun r2 S1 H locs hpost hw => ?_)
  obtain ⟨hr_, hS_⟩ := hpost
  subst hr_
  subst hS_
  refine lv_aload_n hx hb dX9_sizeOf_5 rfl (lv_at hl 0 rfl) ?_
  refine p_get C hw (ci := 9) (Cn := RX9) (T := TX9) (N := 4) hL_st hf_st rfl hin_RX9 1 (by decide) (mU mw_167) rfl rfl dX9_sizeOf_6 ?_
  refine n_imul hx hb dX9_sizeOf_9 ?_
  refine n_ren (b := 0) (by first | rfl | omega | simp) ?_
  exact (p_iret C hw (⟨rfl, rfl⟩) hr hlocks dX9_sizeOf_10)

theorem hde_X9_code0_V_0 : yX7_size.cls = RX7 ∧ yX7_size.cls ≠ "java/lang/invoke/MethodHandle" ∧ yX7_size.cls ≠ "java/lang/invoke/VarHandle" ∧ (parseMethodDescriptor yX7_size.desc).map (fun d => d.parameters.length) = some 0 := by decide +kernel
theorem hde_X9_code0_V_1 : yX9_stepsFor.cls = RX9 ∧ yX9_stepsFor.cls ≠ "java/lang/invoke/MethodHandle" ∧ yX9_stepsFor.cls ≠ "java/lang/invoke/VarHandle" ∧ (parseMethodDescriptor yX9_stepsFor.desc).map (fun d => d.parameters.length) = some 1 := by decide +kernel
set_option maxHeartbeats 4000000 in
set_option maxRecDepth 100000 in
theorem e_X9_code0 (l : Launch) (D : va_G) (cy : Nat → ClassId) (S : pS) (sz : Nat) (st : Nat) (f : Nat) (o : Nat) (sw : Nat) (lt : Nat) (fb : Nat) (sa : Nat) (sb : Nat) (hL_st : st ∈ S.1) (hf_st : S.2 st = .inr (9, [.int (nI sa), .int (nI sb), .ref sw, .ref lt])) (hL_f : f ∈ S.1) (hf_f : S.2 f = .inr (8, [.ref fb, .int (nI 0)]))  : Met l yX9_code (Cond.code yX9_code cX9_code 7 none :: lwU) ({ frames := 1, cells := 0, slots := 0, locals := 21 }) (pPc D cy S sz [.ref st, .ref f, .ref o]) (pQv D cy S sz (fun S' => S = S')) 0 0 (pA S sz) := by
  refine Met.ofW (cc := cX9_code) (maxL := 7) (ret := none) (by decide) rfl ?_
  intro p e s m args below meth c s₁ B hml hv
  obtain ⟨rfl, rfl, C, hw, hA, hr, hlocks⟩ := p_start B hml hv
  have hx := C.1
  have hb := C.2.1
  have hl := lv_entry ([.ref st, .ref f, .ref o]) (n := 7) (Nat.le_of_ble_eq_true rfl)
  rw [lg_entry_eq]
  generalize (lg_sl ([.ref st, .ref f, .ref o]) ++ List.replicate (7 - (lg_sl ([.ref st, .ref f, .ref o])).length) Slot.unset).toArray = ls at hl ⊢
  have hl : lv_has ls 7 [(0, .ref st), (1, .ref f), (2, .ref o)] := hl
  refine lv_aload_n hx hb dX9_code_0 rfl (lv_at hl 0 rfl) ?_
  refine lv_aload_n hx hb dX9_code_1 rfl (lv_at hl 1 rfl) ?_
  refine p_calli (va_runV (As := []) (rest := [.ref st]) C.fix (c_X7_size l D cy S s.heap.size f fb 0 hL_f hf_f) (cwV 0 C.2.2.2.2.1 (gU_V mw_239 mw_131 mw_132 mw_25 sub_X7_size) rfl rfl rfl hde_X9_code0_V_0 ⟨Nat.le_of_ble_eq_true rfl, Nat.le_of_ble_eq_true rfl⟩) (p_preV C hw hL_f hf_f rfl) rfl rfl hl.1 rfl (lv_room (Nat.le_of_ble_eq_true rfl)) dX9_code_2 ⟨Nat.le_of_ble_eq_true rfl, Nat.le_of_ble_eq_true rfl⟩) hw hA (fun r2 S1 H locs hpost hw => ?_)
  obtain ⟨hr_, hS_⟩ := hpost
  subst hr_
  subst hS_
  refine p_calli (va_runV (As := [.int (nI 0)]) (rest := []) C.fix (e_X9_stepsFor0 l D cy S H.size st  ) (cwV 1 C.2.2.2.2.1 (gU_V mw_168 mw_169 mw_170 mw_165 (subU mw_171)) rfl rfl rfl hde_X9_code0_V_1 ⟨Nat.le_of_ble_eq_true rfl, Nat.le_of_ble_eq_true rfl⟩) (p_preV C hw hL_st hf_st rfl) rfl rfl hl.1 rfl (lv_room (Nat.le_of_ble_eq_true rfl)) dX9_code_5 ⟨Nat.le_of_ble_eq_true rfl, Nat.le_of_ble_eq_true rfl⟩) hw hA (fun r4 S3 H locs hpost hw => ?_)
  obtain ⟨hr_, hS_⟩ := hpost
  subst hr_
  subst hS_
  refine lv_istore_n (lv' := [(3, .int (nI 0)), (0, .ref st), (1, .ref f), (2, .ref o)]) hx hb dX9_code_8 rfl hl (by decide) rfl (fun ls hl => ?_)
  refine lv_iconst (v := nI 0) hx hb dX9_code_9 (by decide) ?_
  refine lv_istore (lv' := [(4, .int (nI 0)), (3, .int (nI 0)), (0, .ref st), (1, .ref f), (2, .ref o)]) hx hb dX9_code_10 hl (by decide) rfl (fun ls hl => ?_)
  refine lv_iconst (v := nI 0) hx hb dX9_code_12 (by decide) ?_
  refine lv_istore (lv' := [(5, .int (nI 0)), (4, .int (nI 0)), (3, .int (nI 0)), (0, .ref st), (1, .ref f), (2, .ref o)]) hx hb dX9_code_13 hl (by decide) rfl (fun ls hl => ?_)
  refine lv_iload hx hb dX9_code_15 (lv_at hl 0 rfl) ?_
  refine lv_iload_n hx hb dX9_code_17 rfl (lv_at hl 2 rfl) ?_
  refine n_icmp_ge (tgt := 74) hx hb (by first | decide | omega) (by first | decide | omega) dX9_code_18 (by decide) (fun h_18 => ?_) (fun h_18 => ?_)
  · skip
    exact (p_vret C hw (rfl) hr hlocks dX9_code_74)
  · exact absurd h_18 (by first | decide | omega)

theorem hde_X9_decode0_V_0 : yX7_size.cls = RX7 ∧ yX7_size.cls ≠ "java/lang/invoke/MethodHandle" ∧ yX7_size.cls ≠ "java/lang/invoke/VarHandle" ∧ (parseMethodDescriptor yX7_size.desc).map (fun d => d.parameters.length) = some 0 := by decide +kernel
theorem hde_X9_decode0_V_1 : yX9_stepsFor.cls = RX9 ∧ yX9_stepsFor.cls ≠ "java/lang/invoke/MethodHandle" ∧ yX9_stepsFor.cls ≠ "java/lang/invoke/VarHandle" ∧ (parseMethodDescriptor yX9_stepsFor.desc).map (fun d => d.parameters.length) = some 1 := by decide +kernel
theorem hde_X9_decode0_V_2 : yX3_startAt.cls = RX3 ∧ yX3_startAt.cls ≠ "java/lang/invoke/MethodHandle" ∧ yX3_startAt.cls ≠ "java/lang/invoke/VarHandle" ∧ (parseMethodDescriptor yX3_startAt.desc).map (fun d => d.parameters.length) = some 2 := by decide +kernel
set_option maxHeartbeats 4000000 in
set_option maxRecDepth 100000 in
theorem e_X9_decode0 (l : Launch) (D : va_G) (cy : Nat → ClassId) (S : pS) (sz : Nat) (st : Nat) (f : Nat) (o : Nat) (sw : Nat) (lt : Nat) (obb : Nat) (lf : Nat) (lx : Nat) (lw : Nat) (sa : Nat) (sb : Nat) (lg : Nat → Nat) (hL_st : st ∈ S.1) (hf_st : S.2 st = .inr (9, [.int (nI sa), .int (nI sb), .ref sw, .ref lt])) (hL_o : o ∈ S.1) (hf_o : S.2 o = .inr (8, [.ref obb, .int (nI 0)])) (hL_lt : lt ∈ S.1) (hf_lt : S.2 lt = .inr (4, [.ref lf, .ref lx, .ref lw])) (hL_lf : lf ∈ S.1) (hf_lf : S.2 lf = aN (cy 0) 16 lg)  : Met l yX9_decode (Cond.code yX9_decode cX9_decode 7 none :: lwU) ({ frames := 1, cells := 0, slots := 0, locals := 23 }) (pPc D cy S sz [.ref st, .ref f, .ref o]) (pQv D cy S sz (fun S' => S'.1 = S.1 ++ [] ∧ (∀ a_, a_ ∈ S.1 → a_ ≠ lf → S'.2 a_ = S.2 a_))) 0 0 (pA S sz) := by
  refine Met.ofW (cc := cX9_decode) (maxL := 7) (ret := none) (by decide) rfl ?_
  intro p e s m args below meth c s₁ B hml hv
  obtain ⟨rfl, rfl, C, hw, hA, hr, hlocks⟩ := p_start B hml hv
  have hx := C.1
  have hb := C.2.1
  have hl := lv_entry ([.ref st, .ref f, .ref o]) (n := 7) (Nat.le_of_ble_eq_true rfl)
  rw [lg_entry_eq]
  generalize (lg_sl ([.ref st, .ref f, .ref o]) ++ List.replicate (7 - (lg_sl ([.ref st, .ref f, .ref o])).length) Slot.unset).toArray = ls at hl ⊢
  have hl : lv_has ls 7 [(0, .ref st), (1, .ref f), (2, .ref o)] := hl
  have hin_RX9 : ∀ w ∈ u_ws RX9 TX9 4, w ∈ (Cond.code yX9_decode cX9_decode 7 none :: lwU) := fun w h => mU (sub_RX9 w h)
  refine lv_aload_n hx hb dX9_decode_0 rfl (lv_at hl 0 rfl) ?_
  refine lv_aload_n hx hb dX9_decode_1 rfl (lv_at hl 2 rfl) ?_
  refine p_calli (va_runV (As := []) (rest := [.ref st]) C.fix (c_X7_size l D cy S s.heap.size o obb 0 hL_o hf_o) (cwV 0 C.2.2.2.2.1 (gU_V mw_239 mw_131 mw_132 mw_25 sub_X7_size) rfl rfl rfl hde_X9_decode0_V_0 ⟨Nat.le_of_ble_eq_true rfl, Nat.le_of_ble_eq_true rfl⟩) (p_preV C hw hL_o hf_o rfl) rfl rfl hl.1 rfl (lv_room (Nat.le_of_ble_eq_true rfl)) dX9_decode_2 ⟨Nat.le_of_ble_eq_true rfl, Nat.le_of_ble_eq_true rfl⟩) hw hA (fun r2 S1 H locs hpost hw => ?_)
  obtain ⟨hr_, hS_⟩ := hpost
  subst hr_
  subst hS_
  refine p_calli (va_runV (As := [.int (nI 0)]) (rest := []) C.fix (e_X9_stepsFor0 l D cy S H.size st  ) (cwV 1 C.2.2.2.2.1 (gU_V mw_168 mw_169 mw_170 mw_165 (subU mw_171)) rfl rfl rfl hde_X9_decode0_V_1 ⟨Nat.le_of_ble_eq_true rfl, Nat.le_of_ble_eq_true rfl⟩) (p_preV C hw hL_st hf_st rfl) rfl rfl hl.1 rfl (lv_room (Nat.le_of_ble_eq_true rfl)) dX9_decode_5 ⟨Nat.le_of_ble_eq_true rfl, Nat.le_of_ble_eq_true rfl⟩) hw hA (fun r4 S3 H locs hpost hw => ?_)
  obtain ⟨hr_, hS_⟩ := hpost
  subst hr_
  subst hS_
  refine lv_istore_n (lv' := [(3, .int (nI 0)), (0, .ref st), (1, .ref f), (2, .ref o)]) hx hb dX9_decode_8 rfl hl (by decide) rfl (fun ls hl => ?_)
  refine lv_aload_n hx hb dX9_decode_9 rfl (lv_at hl 1 rfl) ?_
  refine p_get C hw (ci := 9) (Cn := RX9) (T := TX9) (N := 4) hL_st hf_st rfl hin_RX9 3 (by decide) (mU mw_340) rfl rfl dX9_decode_10 ?_
  refine lv_iconst (v := nI 0) hx hb dX9_decode_13 (by decide) ?_
  refine lv_iconst (v := nI 0) hx hb dX9_decode_14 (by decide) ?_
  refine p_callv (va_runV (As := [.int (nI 0), .int (nI 0)]) (rest := []) C.fix (c_X3_startAt l D cy S H.size lt lf lx lw 0 0 lg hL_lt hf_lt hL_lf hf_lf (by first | assumption | decide | omega)) (cwV 2 C.2.2.2.2.1 (gU_V mw_341 mw_342 mw_343 mw_35 sub_X3_startAt) rfl rfl rfl hde_X9_decode0_V_2 ⟨Nat.le_of_ble_eq_true rfl, Nat.le_of_ble_eq_true rfl⟩) (p_preV C hw hL_lt hf_lt rfl) rfl rfl hl.1 rfl (lv_room (Nat.le_of_ble_eq_true rfl)) dX9_decode_15 ⟨Nat.le_of_ble_eq_true rfl, Nat.le_of_ble_eq_true rfl⟩) hw hA (fun S5 H locs hpost hw => ?_)
  have hS_ := hpost
  have hS7 := hS_
  have hL8 : lf ∈ S5.1 := by rw [hS7]; exact hL_lf
  have hf9 : S5.2 lf = aN (cy 0) 16 (lsta lg 0 0 16) := by rw [hS7]; exact pup_s
  refine lv_iconst (v := nI 0) hx hb dX9_decode_18 (by decide) ?_
  refine lv_istore (lv' := [(4, .int (nI 0)), (3, .int (nI 0)), (0, .ref st), (1, .ref f), (2, .ref o)]) hx hb dX9_decode_19 hl (by decide) rfl (fun ls hl => ?_)
  refine lv_iload hx hb dX9_decode_21 (lv_at hl 0 rfl) ?_
  refine lv_iload_n hx hb dX9_decode_23 rfl (lv_at hl 1 rfl) ?_
  refine n_icmp_ge (tgt := 77) hx hb (by first | decide | omega) (by first | decide | omega) dX9_decode_24 (by decide) (fun h_24 => ?_) (fun h_24 => ?_)
  · skip
    refine lv_iconst (v := nI 0) hx hb dX9_decode_77 (by decide) ?_
    refine lv_istore (lv' := [(4, .int (nI 0)), (3, .int (nI 0)), (0, .ref st), (1, .ref f), (2, .ref o)]) hx hb dX9_decode_78 hl (by decide) rfl (fun ls hl => ?_)
    refine lv_iload_n hx hb dX9_decode_80 rfl (lv_at hl 1 rfl) ?_
    refine lv_iconst (v := nI 1) hx hb dX9_decode_81 (by decide) ?_
    refine lv_isub hx hb dX9_decode_82 ?_
    refine x_ren (b := (-1)) (by decide) ?_
    refine lv_istore (lv' := [(5, .int (-1)), (4, .int (nI 0)), (3, .int (nI 0)), (0, .ref st), (1, .ref f), (2, .ref o)]) hx hb dX9_decode_83 hl (by decide) rfl (fun ls hl => ?_)
    refine lv_iload hx hb dX9_decode_85 (lv_at hl 0 rfl) ?_
    refine z_if_lt (tgt := 131) hx hb (show (-1 : Int32).toInt = -1 from by decide) dX9_decode_87 (by decide) (fun h_87 => ?_) (fun h_87 => ?_)
    · skip
      exact (p_vret C hw (⟨(by simp only [hS7, pup, pnew, List.append_nil, List.append_assoc, List.cons_append, List.nil_append]), (fun a_ ha_ hn_0 => (show S5.2 a_ = S.2 a_ from by rw [hS7]; exact pup_n hn_0))⟩) hr hlocks dX9_decode_131)
    · exact absurd h_87 (by first | decide | omega)
  · exact absurd h_24 (by first | decide | omega)

theorem hde_X1_code1trl_V_0 : yX1_stageAt.cls = RX1 ∧ yX1_stageAt.cls ≠ "java/lang/invoke/MethodHandle" ∧ yX1_stageAt.cls ≠ "java/lang/invoke/VarHandle" ∧ (parseMethodDescriptor yX1_stageAt.desc).map (fun d => d.parameters.length) = some 1 := by decide +kernel
theorem hde_X1_code1trl_V_1 : yX4_at.cls = RX4 ∧ yX4_at.cls ≠ "java/lang/invoke/MethodHandle" ∧ yX4_at.cls ≠ "java/lang/invoke/VarHandle" ∧ (parseMethodDescriptor yX4_at.desc).map (fun d => d.parameters.length) = some 1 := by decide +kernel
theorem hde_X1_code1trl_V_2 : yX7_size.cls = RX7 ∧ yX7_size.cls ≠ "java/lang/invoke/MethodHandle" ∧ yX7_size.cls ≠ "java/lang/invoke/VarHandle" ∧ (parseMethodDescriptor yX7_size.desc).map (fun d => d.parameters.length) = some 0 := by decide +kernel
theorem hdue_X1_code1trl_3 : "SoundingLine$Stage" ≠ "java/lang/invoke/MethodHandle" ∧ "SoundingLine$Stage" ≠ "java/lang/invoke/VarHandle" ∧ (parseMethodDescriptor "(I)I").map (fun d => d.parameters.length) = some 1 := by decide +kernel
theorem hde_X1_code1trl_V_4 : yX7_resize.cls = RX7 ∧ yX7_resize.cls ≠ "java/lang/invoke/MethodHandle" ∧ yX7_resize.cls ≠ "java/lang/invoke/VarHandle" ∧ (parseMethodDescriptor yX7_resize.desc).map (fun d => d.parameters.length) = some 1 := by decide +kernel
theorem hdue_X1_code1trl_5 : "SoundingLine$Stage" ≠ "java/lang/invoke/MethodHandle" ∧ "SoundingLine$Stage" ≠ "java/lang/invoke/VarHandle" ∧ (parseMethodDescriptor "(LSoundingLine$Row;LSoundingLine$Row;)V").map (fun d => d.parameters.length) = some 2 := by decide +kernel
set_option maxHeartbeats 4000000 in
set_option maxRecDepth 100000 in
theorem e_X1_code1trl (l : Launch) (D : va_G) (cy : Nat → ClassId) (S : pS) (sz : Nat) (ch : Nat) (co : Nat) (lk : Nat) (st : Nat) (sw : Nat) (lt : Nat) (col : Nat) (con : Nat) (c0 : Nat) (c0b : Nat) (c1 : Nat) (c1b : Nat) (lq : Nat → Option Nat) (cq : Nat → Option Nat) (n1 : Nat) (g1 : Nat → Nat) (sa : Nat) (sb : Nat) (hL_ch : ch ∈ S.1) (hf_ch : S.2 ch = .inr (2, [.ref lk, .int (nI 1)])) (hL_lk : lk ∈ S.1) (hf_lk : S.2 lk = aQ (cy 3) 4 lq) (hL_st : st ∈ S.1) (hf_st : S.2 st = .inr (9, [.int (nI sa), .int (nI sb), .ref sw, .ref lt])) (hL_co : co ∈ S.1) (hf_co : S.2 co = .inr (5, [.ref col, .ref con])) (hL_col : col ∈ S.1) (hf_col : S.2 col = aQ (cy 2) 5 cq) (hL_c0 : c0 ∈ S.1) (hf_c0 : S.2 c0 = .inr (8, [.ref c0b, .int (nI 0)])) (hL_c1 : c1 ∈ S.1) (hf_c1 : S.2 c1 = .inr (8, [.ref c1b, .int (nI n1)])) (hL_c1b : c1b ∈ S.1) (hf_c1b : S.2 c1b = aN (cy 0) 320 g1) (hne_c0_c1 : c0 ≠ c1) (hlq : lq 0 = some st) (hcq : cq 0 = some c0) (hcq1 : cq 1 = some c1) : Met l yX1_code (Cond.code yX1_code cX1_code 6 none :: lwU) ({ frames := 2, cells := 0, slots := 0, locals := 47 }) (pPc D cy S sz [.ref ch, .ref co]) (pQv D cy S sz (fun S' => S'.1 = S.1 ++ [] ∧ (∀ a_, a_ ∈ S.1 → a_ ≠ c1 → S'.2 a_ = S.2 a_) ∧ S'.2 c1 = .inr (8, [.ref c1b, .int (nI 0)]))) 0 0 (pA S sz) := by
  refine Met.ofW (cc := cX1_code) (maxL := 6) (ret := none) (by decide) rfl ?_
  intro p e s m args below meth c s₁ B hml hv
  obtain ⟨rfl, rfl, C, hw, hA, hr, hlocks⟩ := p_start B hml hv
  have hx := C.1
  have hb := C.2.1
  have hl := lv_entry ([.ref ch, .ref co]) (n := 6) (Nat.le_of_ble_eq_true rfl)
  rw [lg_entry_eq]
  generalize (lg_sl ([.ref ch, .ref co]) ++ List.replicate (6 - (lg_sl ([.ref ch, .ref co])).length) Slot.unset).toArray = ls at hl ⊢
  have hl : lv_has ls 6 [(0, .ref ch), (1, .ref co)] := hl
  have hin_RX1 : ∀ w ∈ u_ws RX1 TX1 2, w ∈ (Cond.code yX1_code cX1_code 6 none :: lwU) := fun w h => mU (sub_RX1 w h)
  refine lv_iconst (v := nI 0) hx hb dX1_code_0 (by decide) ?_
  refine lv_istore_n (lv' := [(2, .int (nI 0)), (0, .ref ch), (1, .ref co)]) hx hb dX1_code_1 rfl hl (by decide) rfl (fun ls hl => ?_)
  refine lv_iload_n hx hb dX1_code_2 rfl (lv_at hl 0 rfl) ?_
  refine lv_aload_n hx hb dX1_code_3 rfl (lv_at hl 1 rfl) ?_
  refine p_get C hw (ci := 2) (Cn := RX1) (T := TX1) (N := 2) hL_ch hf_ch rfl hin_RX1 1 (by decide) (mU mw_42) rfl rfl dX1_code_4 ?_
  refine n_icmp_ge (tgt := 64) hx hb (by first | decide | omega) (by first | decide | omega) dX1_code_7 (by decide) (fun h_7 => ?_) (fun h_7 => ?_)
  · exact absurd h_7 (by first | decide | omega)
  · skip
    refine lv_aload_n hx hb dX1_code_10 rfl (lv_at hl 1 rfl) ?_
    refine lv_iload_n hx hb dX1_code_11 rfl (lv_at hl 0 rfl) ?_
    refine p_callq (va_runV (As := [.int (nI 0)]) (rest := []) C.fix (e_X1_stageAt1 l D cy S s.heap.size ch lk lq st hL_ch hf_ch hL_lk hf_lk (by first | assumption | rfl | simp [va_up])) (cwV 1 C.2.2.2.2.1 (gU_V mw_138 mw_139 mw_140 mw_16 (subU mw_141)) rfl rfl rfl hde_X1_code1trl_V_0 ⟨Nat.le_of_ble_eq_true rfl, Nat.le_of_ble_eq_true rfl⟩) (p_preV C hw hL_ch hf_ch rfl) rfl rfl hl.1 rfl (lv_room (Nat.le_of_ble_eq_true rfl)) dX1_code_12 ⟨Nat.le_of_ble_eq_true rfl, Nat.le_of_ble_eq_true rfl⟩) hw hA (fun r2 S1 H locs hpost hw => ?_)
    obtain ⟨hr_, hS_⟩ := hpost
    subst hr_
    subst hS_
    refine lv_astore_n (lv' := [(3, .ref st), (2, .int (nI 0)), (0, .ref ch), (1, .ref co)]) hx hb dX1_code_15 rfl hl (by decide) rfl (fun ls hl => ?_)
    refine lv_aload_n hx hb dX1_code_16 rfl (lv_at hl 0 rfl) ?_
    refine lv_ifnull hx hb dX1_code_17 ?_
    refine lv_aload_n hx hb dX1_code_20 rfl (lv_at hl 3 rfl) ?_
    refine lv_iload_n hx hb dX1_code_21 rfl (lv_at hl 1 rfl) ?_
    refine p_callq (va_runV (As := [.int (nI 0)]) (rest := []) C.fix (c_X4_at l D cy S H.size co col con 0 c0 cq hL_co hf_co hL_col hf_col (by first | assumption | decide | omega) (by first | assumption | rfl | simp [va_up])) (cwV 1 C.2.2.2.2.1 (gU_V mw_195 mw_127 mw_128 mw_29 sub_X4_at) rfl rfl rfl hde_X1_code1trl_V_1 ⟨Nat.le_of_ble_eq_true rfl, Nat.le_of_ble_eq_true rfl⟩) (p_preV C hw hL_co hf_co rfl) rfl rfl hl.1 rfl (lv_room (Nat.le_of_ble_eq_true rfl)) dX1_code_22 ⟨Nat.le_of_ble_eq_true rfl, Nat.le_of_ble_eq_true rfl⟩) hw hA (fun r4 S3 H locs hpost hw => ?_)
    obtain ⟨hr_, hS_⟩ := hpost
    subst hr_
    subst hS_
    refine lv_astore (lv' := [(4, .ref c0), (3, .ref st), (2, .int (nI 0)), (0, .ref ch), (1, .ref co)]) hx hb dX1_code_25 hl (by decide) rfl (fun ls hl => ?_)
    refine lv_aload_n hx hb dX1_code_27 rfl (lv_at hl 4 rfl) ?_
    refine lv_iload_n hx hb dX1_code_28 rfl (lv_at hl 2 rfl) ?_
    refine lv_iconst (v := nI 1) hx hb dX1_code_29 (by decide) ?_
    refine n_iadd hx hb dX1_code_30 ?_
    refine n_ren (b := 1) (by first | rfl | omega | simp) ?_
    refine p_callq (va_runV (As := [.int (nI 1)]) (rest := []) C.fix (c_X4_at l D cy S H.size co col con 1 c1 cq hL_co hf_co hL_col hf_col (by first | assumption | decide | omega) (by first | assumption | rfl | simp [va_up])) (cwV 1 C.2.2.2.2.1 (gU_V mw_195 mw_127 mw_128 mw_29 sub_X4_at) rfl rfl rfl hde_X1_code1trl_V_1 ⟨Nat.le_of_ble_eq_true rfl, Nat.le_of_ble_eq_true rfl⟩) (p_preV C hw hL_co hf_co rfl) rfl rfl hl.1 rfl (lv_room (Nat.le_of_ble_eq_true rfl)) dX1_code_31 ⟨Nat.le_of_ble_eq_true rfl, Nat.le_of_ble_eq_true rfl⟩) hw hA (fun r6 S5 H locs hpost hw => ?_)
    obtain ⟨hr_, hS_⟩ := hpost
    subst hr_
    subst hS_
    refine lv_astore (lv' := [(5, .ref c1), (4, .ref c0), (3, .ref st), (2, .int (nI 0)), (0, .ref ch), (1, .ref co)]) hx hb dX1_code_34 hl (by decide) rfl (fun ls hl => ?_)
    refine lv_aload hx hb dX1_code_36 (lv_at hl 0 rfl) ?_
    refine lv_aload_n hx hb dX1_code_38 rfl (lv_at hl 2 rfl) ?_
    refine lv_aload hx hb dX1_code_39 (lv_at hl 1 rfl) ?_
    refine p_calli (va_runV (As := []) (rest := [.ref st, .ref c1]) C.fix (c_X7_size l D cy S H.size c0 c0b 0 hL_c0 hf_c0) (cwV 0 C.2.2.2.2.1 (gU_V mw_196 mw_131 mw_132 mw_25 sub_X7_size) rfl rfl rfl hde_X1_code1trl_V_2 ⟨Nat.le_of_ble_eq_true rfl, Nat.le_of_ble_eq_true rfl⟩) (p_preV C hw hL_c0 hf_c0 rfl) rfl rfl hl.1 rfl (lv_room (Nat.le_of_ble_eq_true rfl)) dX1_code_41 ⟨Nat.le_of_ble_eq_true rfl, Nat.le_of_ble_eq_true rfl⟩) hw hA (fun r8 S7 H locs hpost hw => ?_)
    obtain ⟨hr_, hS_⟩ := hpost
    subst hr_
    subst hS_
    refine p_calli (va_runU (x := ⟨"SoundingLine$Stage", "sizeOf", "(I)I"⟩) (As := [.int (nI 0)]) (rest := [.ref c1]) C.fix (e_X9_sizeOf0 l D cy S H.size st sw lt sa sb hL_st hf_st ) (va_cwA 1 C.2.2.2.2.1 (gU_U mw_142 mw_143 mw_163 mw_164 mw_165 (subU mw_166)) rfl rfl rfl (C.dcl 0 _ rfl) hdue_X1_code1trl_3 ⟨Nat.le_of_ble_eq_true rfl, Nat.le_of_ble_eq_true rfl⟩) (p_preV C hw hL_st hf_st rfl) rfl rfl hl.1 rfl (lv_room (Nat.le_of_ble_eq_true rfl)) dX1_code_44 ⟨Nat.le_of_ble_eq_true rfl, Nat.le_of_ble_eq_true rfl⟩) hw hA (fun r10 S9 H locs hpost hw => ?_)
    obtain ⟨hr_, hS_⟩ := hpost
    subst hr_
    subst hS_
    refine p_callv (va_runV (As := [.int (nI 0)]) (rest := []) C.fix (c_X7_resize l D cy S H.size c1 c1b 320 n1 0 g1 hL_c1 hf_c1 hL_c1b hf_c1b (by first | assumption | decide | omega) (by first | assumption | decide | omega)) (cwV 1 C.2.2.2.2.1 (gU_V mw_197 mw_62 mw_63 mw_25 sub_X7_resize) rfl rfl rfl hde_X1_code1trl_V_4 ⟨Nat.le_of_ble_eq_true rfl, Nat.le_of_ble_eq_true rfl⟩) (p_preV C hw hL_c1 hf_c1 rfl) rfl rfl hl.1 rfl (lv_room (Nat.le_of_ble_eq_true rfl)) dX1_code_47 ⟨Nat.le_of_ble_eq_true rfl, Nat.le_of_ble_eq_true rfl⟩) hw hA (fun S11 H locs hpost hw => ?_)
    have hS_ := hpost
    try rw [show min 0 320 = 0 from rfl] at hS_
    have hS13 := hS_
    have hL14 : c1 ∈ S11.1 := by rw [hS13]; exact hL_c1
    have hf15 : S11.2 c1 = .inr (8, [.ref c1b, .int (nI 0)]) := by rw [hS13]; exact pup_s
    refine lv_aload_n hx hb dX1_code_50 rfl (lv_at hl 2 rfl) ?_
    refine lv_aload hx hb dX1_code_51 (lv_at hl 1 rfl) ?_
    refine lv_aload hx hb dX1_code_53 (lv_at hl 0 rfl) ?_
    have hL16 : st ∈ S11.1 := by rw [hS13]; exact hL_st
    have hf17 : S11.2 st = .inr (9, [.int (nI sa), .int (nI sb), .ref sw, .ref lt]) := by rw [hS13]; exact (pup_n (ne_cells hf_st hf_c1 (by nofun))).trans hf_st
    have hL18 : c0 ∈ S11.1 := by rw [hS13]; exact hL_c0
    have hf19 : S11.2 c0 = .inr (8, [.ref c0b, .int (nI 0)]) := by rw [hS13]; exact (pup_n hne_c0_c1).trans hf_c0
    refine p_callv (va_runU (x := ⟨"SoundingLine$Stage", "code", "(LSoundingLine$Row;LSoundingLine$Row;)V"⟩) (As := [.ref c0, .ref c1]) (rest := []) C.fix (e_X9_code0 l D cy S11 H.size st c0 c1 sw lt c0b sa sb hL16 hf17 hL18 hf19 ) (va_cwA 2 C.2.2.2.2.1 (gU_U mw_198 mw_199 mw_235 mw_236 mw_165 (subU mw_237)) rfl rfl rfl (C.dcl 1 _ rfl) hdue_X1_code1trl_5 ⟨Nat.le_of_ble_eq_true rfl, Nat.le_of_ble_eq_true rfl⟩) (p_preV C hw hL16 hf17 rfl) rfl rfl hl.1 rfl (lv_room (Nat.le_of_ble_eq_true rfl)) dX1_code_55 ⟨Nat.le_of_ble_eq_true rfl, Nat.le_of_ble_eq_true rfl⟩) hw hA (fun S20 H locs hpost hw => ?_)
    have hS_ := hpost
    subst hS_
    refine lv_iinc (v := (nI 1)) (lv' := [(2, .int (nI 1)), (5, .ref c1), (4, .ref c0), (3, .ref st), (0, .ref ch), (1, .ref co)]) hx hb dX1_code_58 hl (k := 3) rfl (by decide) (by decide) rfl (fun ls hl => ?_)
    refine lv_goto (tgt := 2) hx hb dX1_code_61 (by decide) ?_
    refine lv_iload_n hx hb dX1_code_2 rfl (lv_at hl 0 rfl) ?_
    refine lv_aload_n hx hb dX1_code_3 rfl (lv_at hl 4 rfl) ?_
    have hL22 : ch ∈ S11.1 := by rw [hS13]; exact hL_ch
    have hf23 : S11.2 ch = .inr (2, [.ref lk, .int (nI 1)]) := by rw [hS13]; exact (pup_n (ne_cells hf_ch hf_c1 (by nofun))).trans hf_ch
    refine p_get C hw (ci := 2) (Cn := RX1) (T := TX1) (N := 2) hL22 hf23 rfl hin_RX1 1 (by decide) (mU mw_42) rfl rfl dX1_code_4 ?_
    refine n_icmp_ge (tgt := 64) hx hb (by first | decide | omega) (by first | decide | omega) dX1_code_7 (by decide) (fun h_7 => ?_) (fun h_7 => ?_)
    · skip
      exact (p_vret C hw (⟨(by simp only [hS13, pup, pnew, List.append_nil, List.append_assoc, List.cons_append, List.nil_append]), (fun a_ ha_ hn_0 => (show S11.2 a_ = S.2 a_ from by rw [hS13]; exact pup_n hn_0)), hf15⟩) hr hlocks dX1_code_64)
    · exact absurd h_7 (by first | decide | omega)

theorem hde_X1_decode1trl_V_0 : yX1_stageAt.cls = RX1 ∧ yX1_stageAt.cls ≠ "java/lang/invoke/MethodHandle" ∧ yX1_stageAt.cls ≠ "java/lang/invoke/VarHandle" ∧ (parseMethodDescriptor yX1_stageAt.desc).map (fun d => d.parameters.length) = some 1 := by decide +kernel
theorem hde_X1_decode1trl_V_1 : yX4_at.cls = RX4 ∧ yX4_at.cls ≠ "java/lang/invoke/MethodHandle" ∧ yX4_at.cls ≠ "java/lang/invoke/VarHandle" ∧ (parseMethodDescriptor yX4_at.desc).map (fun d => d.parameters.length) = some 1 := by decide +kernel
theorem hde_X1_decode1trl_V_2 : yX7_size.cls = RX7 ∧ yX7_size.cls ≠ "java/lang/invoke/MethodHandle" ∧ yX7_size.cls ≠ "java/lang/invoke/VarHandle" ∧ (parseMethodDescriptor yX7_size.desc).map (fun d => d.parameters.length) = some 0 := by decide +kernel
theorem hde_X1_decode1trl_V_3 : yX7_resize.cls = RX7 ∧ yX7_resize.cls ≠ "java/lang/invoke/MethodHandle" ∧ yX7_resize.cls ≠ "java/lang/invoke/VarHandle" ∧ (parseMethodDescriptor yX7_resize.desc).map (fun d => d.parameters.length) = some 1 := by decide +kernel
theorem hdue_X1_decode1trl_4 : "SoundingLine$Stage" ≠ "java/lang/invoke/MethodHandle" ∧ "SoundingLine$Stage" ≠ "java/lang/invoke/VarHandle" ∧ (parseMethodDescriptor "(LSoundingLine$Row;LSoundingLine$Row;)V").map (fun d => d.parameters.length) = some 2 := by decide +kernel
set_option maxHeartbeats 4000000 in
set_option maxRecDepth 100000 in
theorem e_X1_decode1trl (l : Launch) (D : va_G) (cy : Nat → ClassId) (S : pS) (sz : Nat) (ch : Nat) (v : Nat) (co : Nat) (lk : Nat) (st : Nat) (sw : Nat) (lt : Nat) (lf : Nat) (lx : Nat) (lw : Nat) (col : Nat) (con : Nat) (vl : Nat) (vn : Nat) (c0 : Nat) (c0b : Nat) (v0 : Nat) (v0b : Nat) (v1 : Nat) (lq : Nat → Option Nat) (cq : Nat → Option Nat) (vq : Nat → Option Nat) (n0 : Nat) (g0 : Nat → Nat) (sa : Nat) (sb : Nat) (lg : Nat → Nat) (hL_ch : ch ∈ S.1) (hf_ch : S.2 ch = .inr (2, [.ref lk, .int (nI 1)])) (hL_lk : lk ∈ S.1) (hf_lk : S.2 lk = aQ (cy 3) 4 lq) (hL_st : st ∈ S.1) (hf_st : S.2 st = .inr (9, [.int (nI sa), .int (nI sb), .ref sw, .ref lt])) (hL_lt : lt ∈ S.1) (hf_lt : S.2 lt = .inr (4, [.ref lf, .ref lx, .ref lw])) (hL_lf : lf ∈ S.1) (hf_lf : S.2 lf = aN (cy 0) 16 lg) (hL_co : co ∈ S.1) (hf_co : S.2 co = .inr (5, [.ref col, .ref con])) (hL_col : col ∈ S.1) (hf_col : S.2 col = aQ (cy 2) 5 cq) (hL_v : v ∈ S.1) (hf_v : S.2 v = .inr (5, [.ref vl, .ref vn])) (hL_vl : vl ∈ S.1) (hf_vl : S.2 vl = aQ (cy 2) 5 vq) (hL_c0 : c0 ∈ S.1) (hf_c0 : S.2 c0 = .inr (8, [.ref c0b, .int (nI 0)])) (hL_v0 : v0 ∈ S.1) (hf_v0 : S.2 v0 = .inr (8, [.ref v0b, .int (nI n0)])) (hL_v0b : v0b ∈ S.1) (hf_v0b : S.2 v0b = aN (cy 0) 32 g0) (hlq : lq 0 = some st) (hcq : cq 0 = some c0) (hvq : vq 0 = some v0) (hvq1 : vq 1 = some v1) : Met l yX1_decode (Cond.code yX1_decode cX1_decode 6 none :: lwU) ({ frames := 2, cells := 0, slots := 0, locals := 49 }) (pPc D cy S sz [.ref ch, .ref v, .ref co]) (pQv D cy S sz (fun S' => S'.1 = S.1 ++ [] ∧ (∀ a_, a_ ∈ S.1 → a_ ≠ v0 → a_ ≠ lf → S'.2 a_ = S.2 a_))) 0 0 (pA S sz) := by
  refine Met.ofW (cc := cX1_decode) (maxL := 6) (ret := none) (by decide) rfl ?_
  intro p e s m args below meth c s₁ B hml hv
  obtain ⟨rfl, rfl, C, hw, hA, hr, hlocks⟩ := p_start B hml hv
  have hx := C.1
  have hb := C.2.1
  have hl := lv_entry ([.ref ch, .ref v, .ref co]) (n := 6) (Nat.le_of_ble_eq_true rfl)
  rw [lg_entry_eq]
  generalize (lg_sl ([.ref ch, .ref v, .ref co]) ++ List.replicate (6 - (lg_sl ([.ref ch, .ref v, .ref co])).length) Slot.unset).toArray = ls at hl ⊢
  have hl : lv_has ls 6 [(0, .ref ch), (1, .ref v), (2, .ref co)] := hl
  have hin_RX1 : ∀ w ∈ u_ws RX1 TX1 2, w ∈ (Cond.code yX1_decode cX1_decode 6 none :: lwU) := fun w h => mU (sub_RX1 w h)
  refine lv_aload_n hx hb dX1_decode_0 rfl (lv_at hl 0 rfl) ?_
  refine p_get C hw (ci := 2) (Cn := RX1) (T := TX1) (N := 2) hL_ch hf_ch rfl hin_RX1 1 (by decide) (mU mw_42) rfl rfl dX1_decode_1 ?_
  refine lv_iconst (v := nI 1) hx hb dX1_decode_4 (by decide) ?_
  refine n_isub hx hb (by first | decide | omega) dX1_decode_5 ?_
  refine n_ren (b := 0) (by first | rfl | omega | simp) ?_
  refine lv_istore_n (lv' := [(3, .int (nI 0)), (0, .ref ch), (1, .ref v), (2, .ref co)]) hx hb dX1_decode_6 rfl hl (by decide) rfl (fun ls hl => ?_)
  refine lv_iload_n hx hb dX1_decode_7 rfl (lv_at hl 0 rfl) ?_
  refine n_if_lt (tgt := 63) hx hb (by first | decide | omega) dX1_decode_8 (by decide) ?_
  refine lv_aload_n hx hb dX1_decode_11 rfl (lv_at hl 1 rfl) ?_
  refine lv_iload_n hx hb dX1_decode_12 rfl (lv_at hl 0 rfl) ?_
  refine p_callq (va_runV (As := [.int (nI 0)]) (rest := []) C.fix (e_X1_stageAt1 l D cy S s.heap.size ch lk lq st hL_ch hf_ch hL_lk hf_lk (by first | assumption | rfl | simp [va_up])) (cwV 1 C.2.2.2.2.1 (gU_V mw_138 mw_139 mw_140 mw_16 (subU mw_141)) rfl rfl rfl hde_X1_decode1trl_V_0 ⟨Nat.le_of_ble_eq_true rfl, Nat.le_of_ble_eq_true rfl⟩) (p_preV C hw hL_ch hf_ch rfl) rfl rfl hl.1 rfl (lv_room (Nat.le_of_ble_eq_true rfl)) dX1_decode_13 ⟨Nat.le_of_ble_eq_true rfl, Nat.le_of_ble_eq_true rfl⟩) hw hA (fun r2 S1 H locs hpost hw => ?_)
  obtain ⟨hr_, hS_⟩ := hpost
  subst hr_
  subst hS_
  refine lv_astore (lv' := [(4, .ref st), (3, .int (nI 0)), (0, .ref ch), (1, .ref v), (2, .ref co)]) hx hb dX1_decode_16 hl (by decide) rfl (fun ls hl => ?_)
  refine lv_aload hx hb dX1_decode_18 (lv_at hl 0 rfl) ?_
  refine lv_ifnull hx hb dX1_decode_20 ?_
  refine lv_aload_n hx hb dX1_decode_23 rfl (lv_at hl 3 rfl) ?_
  refine lv_iload_n hx hb dX1_decode_24 rfl (lv_at hl 1 rfl) ?_
  refine p_callq (va_runV (As := [.int (nI 0)]) (rest := []) C.fix (c_X4_at l D cy S H.size v vl vn 0 v0 vq hL_v hf_v hL_vl hf_vl (by first | assumption | decide | omega) (by first | assumption | rfl | simp [va_up])) (cwV 1 C.2.2.2.2.1 (gU_V mw_195 mw_127 mw_128 mw_29 sub_X4_at) rfl rfl rfl hde_X1_decode1trl_V_1 ⟨Nat.le_of_ble_eq_true rfl, Nat.le_of_ble_eq_true rfl⟩) (p_preV C hw hL_v hf_v rfl) rfl rfl hl.1 rfl (lv_room (Nat.le_of_ble_eq_true rfl)) dX1_decode_25 ⟨Nat.le_of_ble_eq_true rfl, Nat.le_of_ble_eq_true rfl⟩) hw hA (fun r4 S3 H locs hpost hw => ?_)
  obtain ⟨hr_, hS_⟩ := hpost
  subst hr_
  subst hS_
  refine lv_astore (lv' := [(5, .ref v0), (4, .ref st), (3, .int (nI 0)), (0, .ref ch), (1, .ref v), (2, .ref co)]) hx hb dX1_decode_28 hl (by decide) rfl (fun ls hl => ?_)
  refine lv_aload hx hb dX1_decode_30 (lv_at hl 0 rfl) ?_
  refine lv_aload_n hx hb dX1_decode_32 rfl (lv_at hl 5 rfl) ?_
  refine lv_iload_n hx hb dX1_decode_33 rfl (lv_at hl 2 rfl) ?_
  refine p_callq (va_runV (As := [.int (nI 0)]) (rest := [.ref v0]) C.fix (c_X4_at l D cy S H.size co col con 0 c0 cq hL_co hf_co hL_col hf_col (by first | assumption | decide | omega) (by first | assumption | rfl | simp [va_up])) (cwV 1 C.2.2.2.2.1 (gU_V mw_195 mw_127 mw_128 mw_29 sub_X4_at) rfl rfl rfl hde_X1_decode1trl_V_1 ⟨Nat.le_of_ble_eq_true rfl, Nat.le_of_ble_eq_true rfl⟩) (p_preV C hw hL_co hf_co rfl) rfl rfl hl.1 rfl (lv_room (Nat.le_of_ble_eq_true rfl)) dX1_decode_34 ⟨Nat.le_of_ble_eq_true rfl, Nat.le_of_ble_eq_true rfl⟩) hw hA (fun r6 S5 H locs hpost hw => ?_)
  obtain ⟨hr_, hS_⟩ := hpost
  subst hr_
  subst hS_
  refine p_calli (va_runV (As := []) (rest := [.ref v0]) C.fix (c_X7_size l D cy S H.size c0 c0b 0 hL_c0 hf_c0) (cwV 0 C.2.2.2.2.1 (gU_V mw_196 mw_131 mw_132 mw_25 sub_X7_size) rfl rfl rfl hde_X1_decode1trl_V_2 ⟨Nat.le_of_ble_eq_true rfl, Nat.le_of_ble_eq_true rfl⟩) (p_preV C hw hL_c0 hf_c0 rfl) rfl rfl hl.1 rfl (lv_room (Nat.le_of_ble_eq_true rfl)) dX1_decode_37 ⟨Nat.le_of_ble_eq_true rfl, Nat.le_of_ble_eq_true rfl⟩) hw hA (fun r8 S7 H locs hpost hw => ?_)
  obtain ⟨hr_, hS_⟩ := hpost
  subst hr_
  subst hS_
  refine p_callv (va_runV (As := [.int (nI 0)]) (rest := []) C.fix (c_X7_resize l D cy S H.size v0 v0b 32 n0 0 g0 hL_v0 hf_v0 hL_v0b hf_v0b (by first | assumption | decide | omega) (by first | assumption | decide | omega)) (cwV 1 C.2.2.2.2.1 (gU_V mw_197 mw_62 mw_63 mw_25 sub_X7_resize) rfl rfl rfl hde_X1_decode1trl_V_3 ⟨Nat.le_of_ble_eq_true rfl, Nat.le_of_ble_eq_true rfl⟩) (p_preV C hw hL_v0 hf_v0 rfl) rfl rfl hl.1 rfl (lv_room (Nat.le_of_ble_eq_true rfl)) dX1_decode_40 ⟨Nat.le_of_ble_eq_true rfl, Nat.le_of_ble_eq_true rfl⟩) hw hA (fun S9 H locs hpost hw => ?_)
  have hS_ := hpost
  try rw [show min 0 32 = 0 from rfl] at hS_
  have hS11 := hS_
  have hL12 : v0 ∈ S9.1 := by rw [hS11]; exact hL_v0
  have hf13 : S9.2 v0 = .inr (8, [.ref v0b, .int (nI 0)]) := by rw [hS11]; exact pup_s
  refine lv_aload hx hb dX1_decode_43 (lv_at hl 1 rfl) ?_
  refine lv_aload_n hx hb dX1_decode_45 rfl (lv_at hl 4 rfl) ?_
  refine lv_iload_n hx hb dX1_decode_46 rfl (lv_at hl 2 rfl) ?_
  refine lv_iconst (v := nI 1) hx hb dX1_decode_47 (by decide) ?_
  refine n_iadd hx hb dX1_decode_48 ?_
  refine n_ren (b := 1) (by first | rfl | omega | simp) ?_
  have hL14 : v ∈ S9.1 := by rw [hS11]; exact hL_v
  have hf15 : S9.2 v = .inr (5, [.ref vl, .ref vn]) := by rw [hS11]; exact (pup_n (ne_cells hf_v hf_v0 (by nofun))).trans hf_v
  have hL16 : vl ∈ S9.1 := by rw [hS11]; exact hL_vl
  have hf17 : S9.2 vl = aQ (cy 2) 5 vq := by rw [hS11]; exact (pup_n (ne_cells hf_vl hf_v0 (by nofun))).trans hf_vl
  refine p_callq (va_runV (As := [.int (nI 1)]) (rest := [.ref st]) C.fix (c_X4_at l D cy S9 H.size v vl vn 1 v1 vq hL14 hf15 hL16 hf17 (by first | assumption | decide | omega) (by first | assumption | rfl | simp [va_up])) (cwV 1 C.2.2.2.2.1 (gU_V mw_195 mw_127 mw_128 mw_29 sub_X4_at) rfl rfl rfl hde_X1_decode1trl_V_1 ⟨Nat.le_of_ble_eq_true rfl, Nat.le_of_ble_eq_true rfl⟩) (p_preV C hw hL14 hf15 rfl) rfl rfl hl.1 rfl (lv_room (Nat.le_of_ble_eq_true rfl)) dX1_decode_49 ⟨Nat.le_of_ble_eq_true rfl, Nat.le_of_ble_eq_true rfl⟩) hw hA (fun r19 S18 H locs hpost hw => ?_)
  obtain ⟨hr_, hS_⟩ := hpost
  subst hr_
  subst hS_
  refine lv_aload hx hb dX1_decode_52 (lv_at hl 0 rfl) ?_
  have hL20 : st ∈ S9.1 := by rw [hS11]; exact hL_st
  have hf21 : S9.2 st = .inr (9, [.int (nI sa), .int (nI sb), .ref sw, .ref lt]) := by rw [hS11]; exact (pup_n (ne_cells hf_st hf_v0 (by nofun))).trans hf_st
  have hL22 : lt ∈ S9.1 := by rw [hS11]; exact hL_lt
  have hf23 : S9.2 lt = .inr (4, [.ref lf, .ref lx, .ref lw]) := by rw [hS11]; exact (pup_n (ne_cells hf_lt hf_v0 (by nofun))).trans hf_lt
  have hL24 : lf ∈ S9.1 := by rw [hS11]; exact hL_lf
  have hf25 : S9.2 lf = aN (cy 0) 16 lg := by rw [hS11]; exact (pup_n (ne_cells hf_lf hf_v0 (by nofun))).trans hf_lf
  refine p_callv (va_runU (x := ⟨"SoundingLine$Stage", "decode", "(LSoundingLine$Row;LSoundingLine$Row;)V"⟩) (As := [.ref v1, .ref v0]) (rest := []) C.fix (e_X9_decode0 l D cy S9 H.size st v1 v0 sw lt v0b lf lx lw sa sb lg hL20 hf21 hL12 hf13 hL22 hf23 hL24 hf25 ) (va_cwA 2 C.2.2.2.2.1 (gU_U mw_303 mw_304 mw_337 mw_338 mw_165 (subU mw_339)) rfl rfl rfl (C.dcl 2 _ rfl) hdue_X1_decode1trl_4 ⟨Nat.le_of_ble_eq_true rfl, Nat.le_of_ble_eq_true rfl⟩) (p_preV C hw hL20 hf21 rfl) rfl rfl hl.1 rfl (lv_room (Nat.le_of_ble_eq_true rfl)) dX1_decode_54 ⟨Nat.le_of_ble_eq_true rfl, Nat.le_of_ble_eq_true rfl⟩) hw hA (fun S26 H locs hpost hw => ?_)
  obtain ⟨hS28, hfr29⟩ := hpost
  refine lv_iinc (v := (-1)) (lv' := [(3, .int (-1)), (5, .ref v0), (4, .ref st), (0, .ref ch), (1, .ref v), (2, .ref co)]) hx hb dX1_decode_57 hl (k := 2) rfl (by decide) (by decide) rfl (fun ls hl => ?_)
  refine lv_goto (tgt := 7) hx hb dX1_decode_60 (by decide) ?_
  refine lv_iload_n hx hb dX1_decode_7 rfl (lv_at hl 0 rfl) ?_
  refine z_if_lt (tgt := 63) hx hb (show (-1 : Int32).toInt = -1 from by decide) dX1_decode_8 (by decide) (fun h_8 => ?_) (fun h_8 => ?_)
  · skip
    exact (p_vret C hw (⟨(by simp only [hS28, hS11, pup, pnew, List.append_nil, List.append_assoc, List.cons_append, List.nil_append]), (fun a_ ha_ hn_0 hn_1 => ((hfr29 a_ (show a_ ∈ S9.1 from by rw [hS11]; exact ha_) hn_1).trans (show S9.2 a_ = S.2 a_ from by rw [hS11]; exact pup_n hn_0)))⟩) hr hlocks dX1_decode_63)
  · exact absurd h_8 (by first | decide | omega)

theorem hde_X11_settle1trl_V_0 : yX1_code.cls = RX1 ∧ yX1_code.cls ≠ "java/lang/invoke/MethodHandle" ∧ yX1_code.cls ≠ "java/lang/invoke/VarHandle" ∧ (parseMethodDescriptor yX1_code.desc).map (fun d => d.parameters.length) = some 1 := by decide +kernel
theorem hde_X11_settle1trl_V_1 : yX11_send.cls = RX11 ∧ yX11_send.cls ≠ "java/lang/invoke/MethodHandle" ∧ yX11_send.cls ≠ "java/lang/invoke/VarHandle" ∧ (parseMethodDescriptor yX11_send.desc).map (fun d => d.parameters.length) = some 2 := by decide +kernel
theorem hde_X11_settle1trl_V_2 : yX1_decode.cls = RX1 ∧ yX1_decode.cls ≠ "java/lang/invoke/MethodHandle" ∧ yX1_decode.cls ≠ "java/lang/invoke/VarHandle" ∧ (parseMethodDescriptor yX1_decode.desc).map (fun d => d.parameters.length) = some 2 := by decide +kernel
set_option maxHeartbeats 4000000 in
set_option maxRecDepth 100000 in
theorem e_X11_settle1trl (l : Launch) (D : va_G) (cy : Nat → ClassId) (S : pS) (sz : Nat) (x : Nat) (ch : Nat) (ln : Nat) (sl : Nat) (mk : Nat) (co : Nat) (ca : Nat) (su : Nat) (lt : Nat) (lk : Nat) (mb : Nat) (col : Nat) (con : Nat) (cor0 : Nat) (cor1 : Nat) (cor2 : Nat) (cor3 : Nat) (cor4 : Nat) (cob0 : Nat) (cob1 : Nat) (cal : Nat) (can : Nat) (car0 : Nat) (car1 : Nat) (car2 : Nat) (car3 : Nat) (car4 : Nat) (cab0 : Nat) (cab1 : Nat) (lf : Nat) (lx : Nat) (lw : Nat) (st : Nat) (sw : Nat) (lq : Nat → Option Nat) (sa : Nat) (sb : Nat) (lg : Nat → Nat) (hL_x : x ∈ S.1) (hf_x : S.2 x = .inr (11, [.ref ch, .ref ln, .ref sl, .ref mk, .ref co, .ref ca, .ref su, .ref lt])) (hL_ch : ch ∈ S.1) (hf_ch : S.2 ch = .inr (2, [.ref lk, .int (nI 1)])) (hL_lk : lk ∈ S.1) (hf_lk : S.2 lk = aQ (cy 3) 4 lq) (hL_ln : ln ∈ S.1) (hf_ln : S.2 ln = .inr (6, [.int (nI 0), .int (nI 0), .int (nI 0), .int (nI 0)])) (hL_mk : mk ∈ S.1) (hf_mk : S.2 mk = .inr (8, [.ref mb, .int (nI 320)])) (hL_mb : mb ∈ S.1) (hf_mb : S.2 mb = aN (cy 0) 320 (fun _ => 0)) (hL_co : co ∈ S.1) (hf_co : S.2 co = .inr (5, [.ref col, .ref con])) (hL_col : col ∈ S.1) (hf_col : S.2 col = aQ (cy 2) 5 (va_up (va_up (va_up (va_up (va_up (fun _ => none) 0 (some cor0)) 1 (some cor1)) 2 (some cor2)) 3 (some cor3)) 4 (some cor4))) (hL_cor0 : cor0 ∈ S.1) (hf_cor0 : S.2 cor0 = .inr (8, [.ref cob0, .int (nI 0)])) (hL_cor1 : cor1 ∈ S.1) (hf_cor1 : S.2 cor1 = .inr (8, [.ref cob1, .int (nI 0)])) (hL_cob1 : cob1 ∈ S.1) (hf_cob1 : S.2 cob1 = aN (cy 0) 320 (fun _ => 0)) (hL_ca : ca ∈ S.1) (hf_ca : S.2 ca = .inr (5, [.ref cal, .ref can])) (hL_cal : cal ∈ S.1) (hf_cal : S.2 cal = aQ (cy 2) 5 (va_up (va_up (va_up (va_up (va_up (fun _ => none) 0 (some car0)) 1 (some car1)) 2 (some car2)) 3 (some car3)) 4 (some car4))) (hL_car0 : car0 ∈ S.1) (hf_car0 : S.2 car0 = .inr (8, [.ref cab0, .int (nI 0)])) (hL_cab0 : cab0 ∈ S.1) (hf_cab0 : S.2 cab0 = aN (cy 0) 32 (fun _ => 0)) (hL_car1 : car1 ∈ S.1) (hf_car1 : S.2 car1 = .inr (8, [.ref cab1, .int (nI 0)])) (hL_cab1 : cab1 ∈ S.1) (hf_cab1 : S.2 cab1 = aN (cy 0) 320 (fun _ => 0)) (hL_lt : lt ∈ S.1) (hf_lt : S.2 lt = .inr (4, [.ref lf, .ref lx, .ref lw])) (hL_lf : lf ∈ S.1) (hf_lf : S.2 lf = aN (cy 0) 16 lg) (hL_st : st ∈ S.1) (hf_st : S.2 st = .inr (9, [.int (nI sa), .int (nI sb), .ref sw, .ref lt])) (hne_cor0_cor1 : cor0 ≠ cor1) (hne_mk_cor1 : mk ≠ cor1) (hne_car1_cor1 : car1 ≠ cor1) (hne_cob1_cab1 : cob1 ≠ cab1) (hne_mk_car1 : mk ≠ car1) (hne_mb_cab1 : mb ≠ cab1) (hne_lf_cab1 : lf ≠ cab1) (hne_cor0_car1 : cor0 ≠ car1) (hne_car0_cor1 : car0 ≠ cor1) (hne_car0_car1 : car0 ≠ car1) (hne_cab0_cab1 : cab0 ≠ cab1) (hlq : lq 0 = some st) : Met l yX11_settle (Cond.code yX11_settle cX11_settle 1 none :: lwU) ({ frames := 5, cells := 0, slots := 0, locals := 111 }) (pPc D cy S sz [.ref x]) (pQv D cy S sz (fun S' => S'.1 = S.1 ++ [] ∧ (∀ a_, a_ ∈ S.1 → a_ ≠ cor1 → a_ ≠ car1 → a_ ≠ cab1 → a_ ≠ car0 → a_ ≠ lf → S'.2 a_ = S.2 a_) ∧ S'.2 cor1 = .inr (8, [.ref cob1, .int (nI 0)]))) 0 0 (pA S sz) := by
  refine Met.ofW (cc := cX11_settle) (maxL := 1) (ret := none) (by decide) rfl ?_
  intro p e s m args below meth c s₁ B hml hv
  obtain ⟨rfl, rfl, C, hw, hA, hr, hlocks⟩ := p_start B hml hv
  have hx := C.1
  have hb := C.2.1
  have hl := lv_entry ([.ref x]) (n := 1) (Nat.le_of_ble_eq_true rfl)
  rw [lg_entry_eq]
  generalize (lg_sl ([.ref x]) ++ List.replicate (1 - (lg_sl ([.ref x])).length) Slot.unset).toArray = ls at hl ⊢
  have hl : lv_has ls 1 [(0, .ref x)] := hl
  have hin_RX11 : ∀ w ∈ u_ws RX11 TX11 8, w ∈ (Cond.code yX11_settle cX11_settle 1 none :: lwU) := fun w h => mU (sub_RX11 w h)
  refine lv_aload_n hx hb dX11_settle_0 rfl (lv_at hl 0 rfl) ?_
  refine p_get C hw (ci := 11) (Cn := RX11) (T := TX11) (N := 8) hL_x hf_x rfl hin_RX11 0 (by decide) (mU mw_17) rfl rfl dX11_settle_1 ?_
  refine lv_aload_n hx hb dX11_settle_4 rfl (lv_at hl 0 rfl) ?_
  refine p_get C hw (ci := 11) (Cn := RX11) (T := TX11) (N := 8) hL_x hf_x rfl hin_RX11 4 (by decide) (mU mw_30) rfl rfl dX11_settle_5 ?_
  refine p_callv (va_runV (As := [.ref co]) (rest := []) C.fix (e_X1_code1trl l D cy S s.heap.size ch co lk st sw lt col con cor0 cob0 cor1 cob1 lq (va_up (va_up (va_up (va_up (va_up (fun _ => none) 0 (some cor0)) 1 (some cor1)) 2 (some cor2)) 3 (some cor3)) 4 (some cor4)) 0 (fun _ => 0) sa sb hL_ch hf_ch hL_lk hf_lk hL_st hf_st hL_co hf_co hL_col hf_col hL_cor0 hf_cor0 hL_cor1 hf_cor1 hL_cob1 hf_cob1 hne_cor0_cor1 (by first | assumption | rfl | simp [va_up]) (by first | assumption | rfl | simp [va_up]) (by first | assumption | rfl | simp [va_up])) (cwV 1 C.2.2.2.2.1 (gU_V mw_191 mw_192 mw_193 mw_16 (subU mw_194)) rfl rfl rfl hde_X11_settle1trl_V_0 ⟨Nat.le_of_ble_eq_true rfl, Nat.le_of_ble_eq_true rfl⟩) (p_preV C hw hL_ch hf_ch rfl) rfl rfl hl.1 rfl (lv_room (Nat.le_of_ble_eq_true rfl)) dX11_settle_8 ⟨Nat.le_of_ble_eq_true rfl, Nat.le_of_ble_eq_true rfl⟩) hw hA (fun S1 H locs hpost hw => ?_)
  obtain ⟨hS3, hfr4, hf5⟩ := hpost
  have hL6 : cor1 ∈ S1.1 := by rw [hS3]; exact List.mem_append_left _ hL_cor1
  refine lv_aload_n hx hb dX11_settle_11 rfl (lv_at hl 0 rfl) ?_
  refine lv_aload_n hx hb dX11_settle_12 rfl (lv_at hl 0 rfl) ?_
  have hL7 : x ∈ S1.1 := by rw [hS3]; exact List.mem_append_left _ hL_x
  have hf8 : S1.2 x = .inr (11, [.ref ch, .ref ln, .ref sl, .ref mk, .ref co, .ref ca, .ref su, .ref lt]) := (hfr4 x hL_x (ne_cells hf_x hf_cor1 (by nofun))).trans hf_x
  refine p_get C hw (ci := 11) (Cn := RX11) (T := TX11) (N := 8) hL7 hf8 rfl hin_RX11 1 (by decide) (mU mw_21) rfl rfl dX11_settle_13 ?_
  refine lv_aload_n hx hb dX11_settle_16 rfl (lv_at hl 0 rfl) ?_
  refine p_get C hw (ci := 11) (Cn := RX11) (T := TX11) (N := 8) hL7 hf8 rfl hin_RX11 5 (by decide) (mU mw_31) rfl rfl dX11_settle_17 ?_
  have hL9 : ch ∈ S1.1 := by rw [hS3]; exact List.mem_append_left _ hL_ch
  have hf10 : S1.2 ch = .inr (2, [.ref lk, .int (nI 1)]) := (hfr4 ch hL_ch (ne_cells hf_ch hf_cor1 (by nofun))).trans hf_ch
  have hL11 : mk ∈ S1.1 := by rw [hS3]; exact List.mem_append_left _ hL_mk
  have hf12 : S1.2 mk = .inr (8, [.ref mb, .int (nI 320)]) := (hfr4 mk hL_mk hne_mk_cor1).trans hf_mk
  have hL13 : mb ∈ S1.1 := by rw [hS3]; exact List.mem_append_left _ hL_mb
  have hf14 : S1.2 mb = aN (cy 0) 320 (fun _ => 0) := (hfr4 mb hL_mb (ne_cells hf_mb hf_cor1 (by nofun))).trans hf_mb
  have hL15 : ln ∈ S1.1 := by rw [hS3]; exact List.mem_append_left _ hL_ln
  have hf16 : S1.2 ln = .inr (6, [.int (nI 0), .int (nI 0), .int (nI 0), .int (nI 0)]) := (hfr4 ln hL_ln (ne_cells hf_ln hf_cor1 (by nofun))).trans hf_ln
  have hL17 : co ∈ S1.1 := by rw [hS3]; exact List.mem_append_left _ hL_co
  have hf18 : S1.2 co = .inr (5, [.ref col, .ref con]) := (hfr4 co hL_co (ne_cells hf_co hf_cor1 (by nofun))).trans hf_co
  have hL19 : col ∈ S1.1 := by rw [hS3]; exact List.mem_append_left _ hL_col
  have hf20 : S1.2 col = aQ (cy 2) 5 (va_up (va_up (va_up (va_up (va_up (fun _ => none) 0 (some cor0)) 1 (some cor1)) 2 (some cor2)) 3 (some cor3)) 4 (some cor4)) := (hfr4 col hL_col (ne_cells hf_col hf_cor1 (by nofun))).trans hf_col
  have hL21 : ca ∈ S1.1 := by rw [hS3]; exact List.mem_append_left _ hL_ca
  have hf22 : S1.2 ca = .inr (5, [.ref cal, .ref can]) := (hfr4 ca hL_ca (ne_cells hf_ca hf_cor1 (by nofun))).trans hf_ca
  have hL23 : cal ∈ S1.1 := by rw [hS3]; exact List.mem_append_left _ hL_cal
  have hf24 : S1.2 cal = aQ (cy 2) 5 (va_up (va_up (va_up (va_up (va_up (fun _ => none) 0 (some car0)) 1 (some car1)) 2 (some car2)) 3 (some car3)) 4 (some car4)) := (hfr4 cal hL_cal (ne_cells hf_cal hf_cor1 (by nofun))).trans hf_cal
  have hL25 : cob1 ∈ S1.1 := by rw [hS3]; exact List.mem_append_left _ hL_cob1
  have hf26 : S1.2 cob1 = aN (cy 0) 320 (fun _ => 0) := (hfr4 cob1 hL_cob1 (ne_cells hf_cob1 hf_cor1 (by nofun))).trans hf_cob1
  have hL27 : car1 ∈ S1.1 := by rw [hS3]; exact List.mem_append_left _ hL_car1
  have hf28 : S1.2 car1 = .inr (8, [.ref cab1, .int (nI 0)]) := (hfr4 car1 hL_car1 hne_car1_cor1).trans hf_car1
  have hL29 : cab1 ∈ S1.1 := by rw [hS3]; exact List.mem_append_left _ hL_cab1
  have hf30 : S1.2 cab1 = aN (cy 0) 320 (fun _ => 0) := (hfr4 cab1 hL_cab1 (ne_cells hf_cab1 hf_cor1 (by nofun))).trans hf_cab1
  refine p_callv (va_runV (As := [.ref ln, .ref ca]) (rest := []) C.fix (e_X11_send1 l D cy S1 H.size x ln ca ch ln sl mk co ca su lt lk mb col con cal can cor1 cob1 car1 cab1 (va_up (va_up (va_up (va_up (va_up (fun _ => none) 0 (some cor0)) 1 (some cor1)) 2 (some cor2)) 3 (some cor3)) 4 (some cor4)) (va_up (va_up (va_up (va_up (va_up (fun _ => none) 0 (some car0)) 1 (some car1)) 2 (some car2)) 3 (some car3)) 4 (some car4)) (fun _ => 0) (fun _ => 0) (fun _ => 0) 0 0 (nI 0) (nI 0) (nI 0) 0 0 0 hL7 hf8 hL9 hf10 hL11 hf12 hL13 hf14 hL15 hf16 hL17 hf18 hL19 hf20 hL21 hf22 hL23 hf24 hL6 hf5 hL25 hf26 hL27 hf28 hL29 hf30 hne_cob1_cab1 (Ne.symm hne_car1_cor1) hne_mk_car1 hne_mb_cab1 (by first | assumption | rfl | simp [va_up]) (by first | assumption | rfl | simp [va_up]) (by first | assumption | exact (fun _ => Nat.zero_le 2) | exact rnum_le (fun _ => Nat.zero_le 2) | exact rcop_le (by first | assumption | exact (fun _ => Nat.zero_le 2)) (by first | assumption | exact (fun _ => Nat.zero_le 2)) | exact rharm_le (rcop_le (by first | assumption | exact (fun _ => Nat.zero_le 2)) (by first | assumption | exact (fun _ => Nat.zero_le 2))) | exact rturn_le (fun _ => Nat.zero_le 2)) (by first | assumption | exact (fun _ => Nat.zero_le 2) | exact rnum_le (fun _ => Nat.zero_le 2) | exact rcop_le (by first | assumption | exact (fun _ => Nat.zero_le 2)) (by first | assumption | exact (fun _ => Nat.zero_le 2)) | exact rharm_le (rcop_le (by first | assumption | exact (fun _ => Nat.zero_le 2)) (by first | assumption | exact (fun _ => Nat.zero_le 2))) | exact rturn_le (fun _ => Nat.zero_le 2)) (by first | assumption | exact (fun _ => Nat.zero_le 2) | exact rnum_le (fun _ => Nat.zero_le 2) | exact rcop_le (by first | assumption | exact (fun _ => Nat.zero_le 2)) (by first | assumption | exact (fun _ => Nat.zero_le 2)) | exact rharm_le (rcop_le (by first | assumption | exact (fun _ => Nat.zero_le 2)) (by first | assumption | exact (fun _ => Nat.zero_le 2))) | exact rturn_le (fun _ => Nat.zero_le 2)) (by first | assumption | decide | omega) (by first | assumption | decide | omega) (by first | assumption | decide | omega) (by first | assumption | decide | omega) (by first | assumption | decide | omega) (by first | assumption | (intro h; exact absurd h (by decide)) | (intro h; exact absurd h (by omega))) (by first | assumption | (intro h; exact absurd h (by decide)) | (intro h; exact absurd h (by omega)))) (cwV 2 C.2.2.2.2.1 (gU_V mw_252 mw_253 mw_254 mw_2 (subU mw_255)) rfl rfl rfl hde_X11_settle1trl_V_1 ⟨Nat.le_of_ble_eq_true rfl, Nat.le_of_ble_eq_true rfl⟩) (p_preV C hw hL7 hf8 rfl) rfl rfl hl.1 rfl (lv_room (Nat.le_of_ble_eq_true rfl)) dX11_settle_20 ⟨Nat.le_of_ble_eq_true rfl, Nat.le_of_ble_eq_true rfl⟩) hw hA (fun S31 H locs hpost hw => ?_)
  obtain ⟨wg33, hc34, hS35, hfr36, hf37, hf38⟩ := hpost
  have hL39 : car1 ∈ S31.1 := by rw [hS35]; exact List.mem_append_left _ hL27
  have hL40 : cab1 ∈ S31.1 := by rw [hS35]; exact List.mem_append_left _ hL29
  refine lv_aload_n hx hb dX11_settle_23 rfl (lv_at hl 0 rfl) ?_
  have hL41 : x ∈ S31.1 := by rw [hS35]; exact List.mem_append_left _ hL7
  have hf42 : S31.2 x = .inr (11, [.ref ch, .ref ln, .ref sl, .ref mk, .ref co, .ref ca, .ref su, .ref lt]) := (hfr36 x hL7 (ne_cells hf8 hf28 (by nofun)) (ne_cells hf8 hf30 (by nofun))).trans hf8
  refine p_get C hw (ci := 11) (Cn := RX11) (T := TX11) (N := 8) hL41 hf42 rfl hin_RX11 0 (by decide) (mU mw_17) rfl rfl dX11_settle_24 ?_
  refine lv_aload_n hx hb dX11_settle_27 rfl (lv_at hl 0 rfl) ?_
  refine p_get C hw (ci := 11) (Cn := RX11) (T := TX11) (N := 8) hL41 hf42 rfl hin_RX11 5 (by decide) (mU mw_31) rfl rfl dX11_settle_28 ?_
  refine lv_aload_n hx hb dX11_settle_31 rfl (lv_at hl 0 rfl) ?_
  refine p_get C hw (ci := 11) (Cn := RX11) (T := TX11) (N := 8) hL41 hf42 rfl hin_RX11 4 (by decide) (mU mw_30) rfl rfl dX11_settle_32 ?_
  have hL43 : ch ∈ S31.1 := by rw [hS35]; exact List.mem_append_left _ hL9
  have hf44 : S31.2 ch = .inr (2, [.ref lk, .int (nI 1)]) := (hfr36 ch hL9 (ne_cells hf10 hf28 (by nofun)) (ne_cells hf10 hf30 (by nofun))).trans hf10
  have hL45 : lk ∈ S1.1 := by rw [hS3]; exact List.mem_append_left _ hL_lk
  have hf46 : S1.2 lk = aQ (cy 3) 4 lq := (hfr4 lk hL_lk (ne_cells hf_lk hf_cor1 (by nofun))).trans hf_lk
  have hL47 : lk ∈ S31.1 := by rw [hS35]; exact List.mem_append_left _ hL45
  have hf48 : S31.2 lk = aQ (cy 3) 4 lq := (hfr36 lk hL45 (ne_cells hf46 hf28 (by nofun)) (ne_cells hf46 hf30 ne_QN)).trans hf46
  have hL49 : st ∈ S1.1 := by rw [hS3]; exact List.mem_append_left _ hL_st
  have hf50 : S1.2 st = .inr (9, [.int (nI sa), .int (nI sb), .ref sw, .ref lt]) := (hfr4 st hL_st (ne_cells hf_st hf_cor1 (by nofun))).trans hf_st
  have hL51 : st ∈ S31.1 := by rw [hS35]; exact List.mem_append_left _ hL49
  have hf52 : S31.2 st = .inr (9, [.int (nI sa), .int (nI sb), .ref sw, .ref lt]) := (hfr36 st hL49 (ne_cells hf50 hf28 (by nofun)) (ne_cells hf50 hf30 (by nofun))).trans hf50
  have hL53 : lt ∈ S1.1 := by rw [hS3]; exact List.mem_append_left _ hL_lt
  have hf54 : S1.2 lt = .inr (4, [.ref lf, .ref lx, .ref lw]) := (hfr4 lt hL_lt (ne_cells hf_lt hf_cor1 (by nofun))).trans hf_lt
  have hL55 : lt ∈ S31.1 := by rw [hS35]; exact List.mem_append_left _ hL53
  have hf56 : S31.2 lt = .inr (4, [.ref lf, .ref lx, .ref lw]) := (hfr36 lt hL53 (ne_cells hf54 hf28 (by nofun)) (ne_cells hf54 hf30 (by nofun))).trans hf54
  have hL57 : lf ∈ S1.1 := by rw [hS3]; exact List.mem_append_left _ hL_lf
  have hf58 : S1.2 lf = aN (cy 0) 16 lg := (hfr4 lf hL_lf (ne_cells hf_lf hf_cor1 (by nofun))).trans hf_lf
  have hL59 : lf ∈ S31.1 := by rw [hS35]; exact List.mem_append_left _ hL57
  have hf60 : S31.2 lf = aN (cy 0) 16 lg := (hfr36 lf hL57 (ne_cells hf58 hf28 (by nofun)) hne_lf_cab1).trans hf58
  have hL61 : co ∈ S31.1 := by rw [hS35]; exact List.mem_append_left _ hL17
  have hf62 : S31.2 co = .inr (5, [.ref col, .ref con]) := (hfr36 co hL17 (ne_cells hf18 hf28 (by nofun)) (ne_cells hf18 hf30 (by nofun))).trans hf18
  have hL63 : col ∈ S31.1 := by rw [hS35]; exact List.mem_append_left _ hL19
  have hf64 : S31.2 col = aQ (cy 2) 5 (va_up (va_up (va_up (va_up (va_up (fun _ => none) 0 (some cor0)) 1 (some cor1)) 2 (some cor2)) 3 (some cor3)) 4 (some cor4)) := (hfr36 col hL19 (ne_cells hf20 hf28 (by nofun)) (ne_cells hf20 hf30 ne_QN)).trans hf20
  have hL65 : ca ∈ S31.1 := by rw [hS35]; exact List.mem_append_left _ hL21
  have hf66 : S31.2 ca = .inr (5, [.ref cal, .ref can]) := (hfr36 ca hL21 (ne_cells hf22 hf28 (by nofun)) (ne_cells hf22 hf30 (by nofun))).trans hf22
  have hL67 : cal ∈ S31.1 := by rw [hS35]; exact List.mem_append_left _ hL23
  have hf68 : S31.2 cal = aQ (cy 2) 5 (va_up (va_up (va_up (va_up (va_up (fun _ => none) 0 (some car0)) 1 (some car1)) 2 (some car2)) 3 (some car3)) 4 (some car4)) := (hfr36 cal hL23 (ne_cells hf24 hf28 (by nofun)) (ne_cells hf24 hf30 ne_QN)).trans hf24
  have hL69 : cor0 ∈ S1.1 := by rw [hS3]; exact List.mem_append_left _ hL_cor0
  have hf70 : S1.2 cor0 = .inr (8, [.ref cob0, .int (nI 0)]) := (hfr4 cor0 hL_cor0 hne_cor0_cor1).trans hf_cor0
  have hL71 : cor0 ∈ S31.1 := by rw [hS35]; exact List.mem_append_left _ hL69
  have hf72 : S31.2 cor0 = .inr (8, [.ref cob0, .int (nI 0)]) := (hfr36 cor0 hL69 hne_cor0_car1 (ne_cells hf70 hf30 (by nofun))).trans hf70
  have hL73 : car0 ∈ S1.1 := by rw [hS3]; exact List.mem_append_left _ hL_car0
  have hf74 : S1.2 car0 = .inr (8, [.ref cab0, .int (nI 0)]) := (hfr4 car0 hL_car0 hne_car0_cor1).trans hf_car0
  have hL75 : car0 ∈ S31.1 := by rw [hS35]; exact List.mem_append_left _ hL73
  have hf76 : S31.2 car0 = .inr (8, [.ref cab0, .int (nI 0)]) := (hfr36 car0 hL73 hne_car0_car1 (ne_cells hf74 hf30 (by nofun))).trans hf74
  have hL77 : cab0 ∈ S1.1 := by rw [hS3]; exact List.mem_append_left _ hL_cab0
  have hf78 : S1.2 cab0 = aN (cy 0) 32 (fun _ => 0) := (hfr4 cab0 hL_cab0 (ne_cells hf_cab0 hf_cor1 (by nofun))).trans hf_cab0
  have hL79 : cab0 ∈ S31.1 := by rw [hS35]; exact List.mem_append_left _ hL77
  have hf80 : S31.2 cab0 = aN (cy 0) 32 (fun _ => 0) := (hfr36 cab0 hL77 (ne_cells hf78 hf28 (by nofun)) hne_cab0_cab1).trans hf78
  refine p_callv (va_runV (As := [.ref ca, .ref co]) (rest := []) C.fix (e_X1_decode1trl l D cy S31 H.size ch ca co lk st sw lt lf lx lw col con cal can cor0 cob0 car0 cab0 car1 lq (va_up (va_up (va_up (va_up (va_up (fun _ => none) 0 (some cor0)) 1 (some cor1)) 2 (some cor2)) 3 (some cor3)) 4 (some cor4)) (va_up (va_up (va_up (va_up (va_up (fun _ => none) 0 (some car0)) 1 (some car1)) 2 (some car2)) 3 (some car3)) 4 (some car4)) 0 (fun _ => 0) sa sb lg hL43 hf44 hL47 hf48 hL51 hf52 hL55 hf56 hL59 hf60 hL61 hf62 hL63 hf64 hL65 hf66 hL67 hf68 hL71 hf72 hL75 hf76 hL79 hf80 (by first | assumption | rfl | simp [va_up]) (by first | assumption | rfl | simp [va_up]) (by first | assumption | rfl | simp [va_up]) (by first | assumption | rfl | simp [va_up])) (cwV 2 C.2.2.2.2.1 (gU_V mw_299 mw_300 mw_301 mw_16 (subU mw_302)) rfl rfl rfl hde_X11_settle1trl_V_2 ⟨Nat.le_of_ble_eq_true rfl, Nat.le_of_ble_eq_true rfl⟩) (p_preV C hw hL43 hf44 rfl) rfl rfl hl.1 rfl (lv_room (Nat.le_of_ble_eq_true rfl)) dX11_settle_35 ⟨Nat.le_of_ble_eq_true rfl, Nat.le_of_ble_eq_true rfl⟩) hw hA (fun S81 H locs hpost hw => ?_)
  obtain ⟨hS83, hfr84⟩ := hpost
  have hL85 : cor1 ∈ S31.1 := by rw [hS35]; exact List.mem_append_left _ hL6
  have hf86 : S31.2 cor1 = .inr (8, [.ref cob1, .int (nI 0)]) := (hfr36 cor1 hL6 (Ne.symm hne_car1_cor1) (ne_cells hf5 hf30 (by nofun))).trans hf5
  have hL87 : cor1 ∈ S81.1 := by rw [hS83]; exact List.mem_append_left _ hL85
  have hf88 : S81.2 cor1 = .inr (8, [.ref cob1, .int (nI 0)]) := (hfr84 cor1 hL85 (Ne.symm hne_car0_cor1) (ne_cells hf86 hf60 (by nofun))).trans hf86
  exact (p_vret C hw (⟨(by simp only [hS83, hS35, hS3, pup, pnew, List.append_nil, List.append_assoc, List.cons_append, List.nil_append]), (fun a_ ha_ hn_0 hn_1 hn_2 hn_3 hn_4 => ((hfr84 a_ (show a_ ∈ S31.1 from by rw [hS35]; exact List.mem_append_left _ (show a_ ∈ S1.1 from by rw [hS3]; exact List.mem_append_left _ ha_)) hn_3 hn_4).trans ((hfr36 a_ (show a_ ∈ S1.1 from by rw [hS3]; exact List.mem_append_left _ ha_) hn_1 hn_2).trans (hfr4 a_ ha_ hn_0)))), hf88⟩) hr hlocks dX11_settle_38)

theorem hde_X11_putBehindtrl_V_0 : yX1_count.cls = RX1 ∧ yX1_count.cls ≠ "java/lang/invoke/MethodHandle" ∧ yX1_count.cls ≠ "java/lang/invoke/VarHandle" ∧ (parseMethodDescriptor yX1_count.desc).map (fun d => d.parameters.length) = some 0 := by decide +kernel
theorem hde_X11_putBehindtrl_V_1 : yX11_last.cls = RX11 ∧ yX11_last.cls ≠ "java/lang/invoke/MethodHandle" ∧ yX11_last.cls ≠ "java/lang/invoke/VarHandle" ∧ (parseMethodDescriptor yX11_last.desc).map (fun d => d.parameters.length) = some 1 := by decide +kernel
theorem hde_X11_putBehindtrl_V_2 : yX7_size.cls = RX7 ∧ yX7_size.cls ≠ "java/lang/invoke/MethodHandle" ∧ yX7_size.cls ≠ "java/lang/invoke/VarHandle" ∧ (parseMethodDescriptor yX7_size.desc).map (fun d => d.parameters.length) = some 0 := by decide +kernel
theorem hdue_X11_putBehindtrl_3 : "SoundingLine$Stage" ≠ "java/lang/invoke/MethodHandle" ∧ "SoundingLine$Stage" ≠ "java/lang/invoke/VarHandle" ∧ (parseMethodDescriptor "(I)I").map (fun d => d.parameters.length) = some 1 := by decide +kernel
theorem hde_X11_putBehindtrl_V_4 : yX1_append.cls = RX1 ∧ yX1_append.cls ≠ "java/lang/invoke/MethodHandle" ∧ yX1_append.cls ≠ "java/lang/invoke/VarHandle" ∧ (parseMethodDescriptor yX1_append.desc).map (fun d => d.parameters.length) = some 1 := by decide +kernel
theorem hde_X11_putBehindtrl_V_5 : yX11_settle.cls = RX11 ∧ yX11_settle.cls ≠ "java/lang/invoke/MethodHandle" ∧ yX11_settle.cls ≠ "java/lang/invoke/VarHandle" ∧ (parseMethodDescriptor yX11_settle.desc).map (fun d => d.parameters.length) = some 0 := by decide +kernel
set_option maxHeartbeats 4000000 in
set_option maxRecDepth 100000 in
theorem e_X11_putBehindtrl (l : Launch) (D : va_G) (cy : Nat → ClassId) (S : pS) (sz : Nat) (x : Nat) (st : Nat) (ch : Nat) (ln : Nat) (sl : Nat) (mk : Nat) (co : Nat) (ca : Nat) (su : Nat) (lt : Nat) (lk : Nat) (mb : Nat) (col : Nat) (con : Nat) (cor0 : Nat) (cor1 : Nat) (cor2 : Nat) (cor3 : Nat) (cor4 : Nat) (cob0 : Nat) (cob1 : Nat) (cal : Nat) (can : Nat) (car0 : Nat) (car1 : Nat) (car2 : Nat) (car3 : Nat) (car4 : Nat) (cab0 : Nat) (cab1 : Nat) (lf : Nat) (lx : Nat) (lw : Nat) (sw : Nat) (sa : Nat) (sb : Nat) (lg : Nat → Nat) (hL_x : x ∈ S.1) (hf_x : S.2 x = .inr (11, [.ref ch, .ref ln, .ref sl, .ref mk, .ref co, .ref ca, .ref su, .ref lt])) (hL_ch : ch ∈ S.1) (hf_ch : S.2 ch = .inr (2, [.ref lk, .int (nI 0)])) (hL_lk : lk ∈ S.1) (hf_lk : S.2 lk = aQ (cy 3) 4 (fun _ => none)) (hL_ln : ln ∈ S.1) (hf_ln : S.2 ln = .inr (6, [.int (nI 0), .int (nI 0), .int (nI 0), .int (nI 0)])) (hL_mk : mk ∈ S.1) (hf_mk : S.2 mk = .inr (8, [.ref mb, .int (nI 320)])) (hL_mb : mb ∈ S.1) (hf_mb : S.2 mb = aN (cy 0) 320 (fun _ => 0)) (hL_co : co ∈ S.1) (hf_co : S.2 co = .inr (5, [.ref col, .ref con])) (hL_col : col ∈ S.1) (hf_col : S.2 col = aQ (cy 2) 5 (va_up (va_up (va_up (va_up (va_up (fun _ => none) 0 (some cor0)) 1 (some cor1)) 2 (some cor2)) 3 (some cor3)) 4 (some cor4))) (hL_cor0 : cor0 ∈ S.1) (hf_cor0 : S.2 cor0 = .inr (8, [.ref cob0, .int (nI 0)])) (hL_cor1 : cor1 ∈ S.1) (hf_cor1 : S.2 cor1 = .inr (8, [.ref cob1, .int (nI 0)])) (hL_cob1 : cob1 ∈ S.1) (hf_cob1 : S.2 cob1 = aN (cy 0) 320 (fun _ => 0)) (hL_ca : ca ∈ S.1) (hf_ca : S.2 ca = .inr (5, [.ref cal, .ref can])) (hL_cal : cal ∈ S.1) (hf_cal : S.2 cal = aQ (cy 2) 5 (va_up (va_up (va_up (va_up (va_up (fun _ => none) 0 (some car0)) 1 (some car1)) 2 (some car2)) 3 (some car3)) 4 (some car4))) (hL_car0 : car0 ∈ S.1) (hf_car0 : S.2 car0 = .inr (8, [.ref cab0, .int (nI 0)])) (hL_cab0 : cab0 ∈ S.1) (hf_cab0 : S.2 cab0 = aN (cy 0) 32 (fun _ => 0)) (hL_car1 : car1 ∈ S.1) (hf_car1 : S.2 car1 = .inr (8, [.ref cab1, .int (nI 0)])) (hL_cab1 : cab1 ∈ S.1) (hf_cab1 : S.2 cab1 = aN (cy 0) 320 (fun _ => 0)) (hL_lt : lt ∈ S.1) (hf_lt : S.2 lt = .inr (4, [.ref lf, .ref lx, .ref lw])) (hL_lf : lf ∈ S.1) (hf_lf : S.2 lf = aN (cy 0) 16 lg) (hL_st : st ∈ S.1) (hf_st : S.2 st = .inr (9, [.int (nI sa), .int (nI sb), .ref sw, .ref lt])) (hne_col_lk : col ≠ lk) (hne_cal_lk : cal ≠ lk) (hne_cor0_cor1 : cor0 ≠ cor1) (hne_mk_cor1 : mk ≠ cor1) (hne_car1_cor1 : car1 ≠ cor1) (hne_cob1_cab1 : cob1 ≠ cab1) (hne_mk_car1 : mk ≠ car1) (hne_mb_cab1 : mb ≠ cab1) (hne_lf_cab1 : lf ≠ cab1) (hne_cor0_car1 : cor0 ≠ car1) (hne_car0_cor1 : car0 ≠ cor1) (hne_car0_car1 : car0 ≠ car1) (hne_cab0_cab1 : cab0 ≠ cab1) : Met l yX11_putBehind (Cond.code yX11_putBehind cX11_putBehind 2 (some .int) :: lwU) ({ frames := 6, cells := 0, slots := 0, locals := 131 }) (pPc D cy S sz [.ref x, .ref st]) (pQi D cy S sz (fun r S' => r = (nI 0) ∧ S'.1 = S.1 ++ [] ∧ (∀ a_, a_ ∈ S.1 → a_ ≠ lk → a_ ≠ ch → a_ ≠ cor1 → a_ ≠ car1 → a_ ≠ cab1 → a_ ≠ car0 → a_ ≠ lf → S'.2 a_ = S.2 a_))) 0 0 (pA S sz) := by
  refine Met.ofW (cc := cX11_putBehind) (maxL := 2) (ret := (some .int)) (by decide) rfl ?_
  intro p e s m args below meth c s₁ B hml hv
  obtain ⟨rfl, rfl, C, hw, hA, hr, hlocks⟩ := p_start B hml hv
  have hx := C.1
  have hb := C.2.1
  have hl := lv_entry ([.ref x, .ref st]) (n := 2) (Nat.le_of_ble_eq_true rfl)
  rw [lg_entry_eq]
  generalize (lg_sl ([.ref x, .ref st]) ++ List.replicate (2 - (lg_sl ([.ref x, .ref st])).length) Slot.unset).toArray = ls at hl ⊢
  have hl : lv_has ls 2 [(0, .ref x), (1, .ref st)] := hl
  have hin_RX11 : ∀ w ∈ u_ws RX11 TX11 8, w ∈ (Cond.code yX11_putBehind cX11_putBehind 2 (some .int) :: lwU) := fun w h => mU (sub_RX11 w h)
  refine lv_aload_n hx hb dX11_putBehind_0 rfl (lv_at hl 0 rfl) ?_
  refine p_get C hw (ci := 11) (Cn := RX11) (T := TX11) (N := 8) hL_x hf_x rfl hin_RX11 0 (by decide) (mU mw_17) rfl rfl dX11_putBehind_1 ?_
  refine p_calli (va_runV (As := []) (rest := []) C.fix (c_X1_count l D cy S s.heap.size ch lk 0 hL_ch hf_ch) (cwV 0 C.2.2.2.2.1 (gU_V mw_260 mw_261 mw_262 mw_16 sub_X1_count) rfl rfl rfl hde_X11_putBehindtrl_V_0 ⟨Nat.le_of_ble_eq_true rfl, Nat.le_of_ble_eq_true rfl⟩) (p_preV C hw hL_ch hf_ch rfl) rfl rfl hl.1 rfl (lv_room (Nat.le_of_ble_eq_true rfl)) dX11_putBehind_4 ⟨Nat.le_of_ble_eq_true rfl, Nat.le_of_ble_eq_true rfl⟩) hw hA (fun r2 S1 H locs hpost hw => ?_)
  obtain ⟨hr_, hS_⟩ := hpost
  subst hr_
  subst hS_
  refine lv_iconst (v := nI 4) hx hb dX11_putBehind_7 (by decide) ?_
  refine n_icmp_lt (tgt := 22) hx hb (by first | decide | omega) (by first | decide | omega) dX11_putBehind_8 (by decide) (fun h_8 => ?_) (fun h_8 => ?_)
  · skip
    refine lv_aload_n hx hb dX11_putBehind_22 rfl (lv_at hl 1 rfl) ?_
    refine lv_aload_n hx hb dX11_putBehind_23 rfl (lv_at hl 0 rfl) ?_
    refine lv_aload_n hx hb dX11_putBehind_24 rfl (lv_at hl 0 rfl) ?_
    refine p_get C hw (ci := 11) (Cn := RX11) (T := TX11) (N := 8) hL_x hf_x rfl hin_RX11 4 (by decide) (mU mw_30) rfl rfl dX11_putBehind_25 ?_
    refine p_callq (va_runV (As := [.ref co]) (rest := [.ref st]) C.fix (e_X11_last0 l D cy S H.size x co ch ln sl mk co ca su lt lk col con (va_up (va_up (va_up (va_up (va_up (fun _ => none) 0 (some cor0)) 1 (some cor1)) 2 (some cor2)) 3 (some cor3)) 4 (some cor4)) cor0 hL_x hf_x hL_ch hf_ch hL_co hf_co hL_col hf_col (by first | assumption | rfl | simp [va_up])) (cwV 1 C.2.2.2.2.1 (gU_V mw_256 mw_257 mw_258 mw_2 (subU mw_259)) rfl rfl rfl hde_X11_putBehindtrl_V_1 ⟨Nat.le_of_ble_eq_true rfl, Nat.le_of_ble_eq_true rfl⟩) (p_preV C hw hL_x hf_x rfl) rfl rfl hl.1 rfl (lv_room (Nat.le_of_ble_eq_true rfl)) dX11_putBehind_28 ⟨Nat.le_of_ble_eq_true rfl, Nat.le_of_ble_eq_true rfl⟩) hw hA (fun r4 S3 H locs hpost hw => ?_)
    obtain ⟨hr_, hS_⟩ := hpost
    subst hr_
    subst hS_
    refine p_calli (va_runV (As := []) (rest := [.ref st]) C.fix (c_X7_size l D cy S H.size cor0 cob0 0 hL_cor0 hf_cor0) (cwV 0 C.2.2.2.2.1 (gU_V mw_130 mw_131 mw_132 mw_25 sub_X7_size) rfl rfl rfl hde_X11_putBehindtrl_V_2 ⟨Nat.le_of_ble_eq_true rfl, Nat.le_of_ble_eq_true rfl⟩) (p_preV C hw hL_cor0 hf_cor0 rfl) rfl rfl hl.1 rfl (lv_room (Nat.le_of_ble_eq_true rfl)) dX11_putBehind_31 ⟨Nat.le_of_ble_eq_true rfl, Nat.le_of_ble_eq_true rfl⟩) hw hA (fun r6 S5 H locs hpost hw => ?_)
    obtain ⟨hr_, hS_⟩ := hpost
    subst hr_
    subst hS_
    refine p_calli (va_runU (x := ⟨"SoundingLine$Stage", "sizeOf", "(I)I"⟩) (As := [.int (nI 0)]) (rest := []) C.fix (e_X9_sizeOf0 l D cy S H.size st sw lt sa sb hL_st hf_st ) (va_cwA 1 C.2.2.2.2.1 (gU_U mw_580 mw_143 mw_163 mw_164 mw_165 (subU mw_166)) rfl rfl rfl (C.dcl 0 _ rfl) hdue_X11_putBehindtrl_3 ⟨Nat.le_of_ble_eq_true rfl, Nat.le_of_ble_eq_true rfl⟩) (p_preV C hw hL_st hf_st rfl) rfl rfl hl.1 rfl (lv_room (Nat.le_of_ble_eq_true rfl)) dX11_putBehind_34 ⟨Nat.le_of_ble_eq_true rfl, Nat.le_of_ble_eq_true rfl⟩) hw hA (fun r8 S7 H locs hpost hw => ?_)
    obtain ⟨hr_, hS_⟩ := hpost
    subst hr_
    subst hS_
    refine lv_sipush (v := nI 320) hx hb dX11_putBehind_37 (by decide) ?_
    refine n_icmp_le (tgt := 53) hx hb (by first | decide | omega) (by first | decide | omega) dX11_putBehind_40 (by decide) (fun h_40 => ?_) (fun h_40 => ?_)
    · skip
      refine lv_aload_n hx hb dX11_putBehind_53 rfl (lv_at hl 0 rfl) ?_
      refine p_get C hw (ci := 11) (Cn := RX11) (T := TX11) (N := 8) hL_x hf_x rfl hin_RX11 0 (by decide) (mU mw_17) rfl rfl dX11_putBehind_54 ?_
      refine lv_aload_n hx hb dX11_putBehind_57 rfl (lv_at hl 1 rfl) ?_
      refine p_callv (va_runV (As := [.ref st]) (rest := []) C.fix (c_X1_append l D cy S H.size ch lk 0 st 9 3 4 (fun _ => none) RX9 TX9 ([.int (nI sa), .int (nI sb), .ref sw, .ref lt]) hL_ch hf_ch hL_lk hf_lk (by first | assumption | decide | omega) hL_st hf_st rfl rfl) (cwV 1 C.2.2.2.2.1 (gU_V mw_581 mw_582 mw_583 mw_16 sub_X1_append) rfl rfl rfl hde_X11_putBehindtrl_V_4 ⟨Nat.le_of_ble_eq_true rfl, Nat.le_of_ble_eq_true rfl⟩) (p_preV C hw hL_ch hf_ch rfl) rfl rfl hl.1 rfl (lv_room (Nat.le_of_ble_eq_true rfl)) dX11_putBehind_58 ⟨Nat.le_of_ble_eq_true rfl, Nat.le_of_ble_eq_true rfl⟩) hw hA (fun S9 H locs hpost hw => ?_)
      have hS_ := hpost
      obtain ⟨S11, hS11⟩ : ∃ z, z = pup S lk (aQ (cy 3) 4 (va_up (fun _ => none) 0 (some st))) := ⟨_, rfl⟩
      rw [← hS11] at hS_
      have hL12 : lk ∈ S11.1 := by rw [hS11]; exact hL_lk
      have hf13 : S11.2 lk = aQ (cy 3) 4 (va_up (fun _ => none) 0 (some st)) := by rw [hS11]; exact pup_s
      try rw [show 0 + 1 = 1 from rfl] at hS_
      have hL14 : ch ∈ S11.1 := by rw [hS11]; exact hL_ch
      have hf15 : S11.2 ch = .inr (2, [.ref lk, .int (nI 0)]) := by rw [hS11]; exact (pup_n (ne_cells hf_ch hf_lk (by nofun))).trans hf_ch
      have hS16 := hS_
      have hL17 : ch ∈ S9.1 := by rw [hS16]; exact hL14
      have hf18 : S9.2 ch = .inr (2, [.ref lk, .int (nI 1)]) := by rw [hS16]; exact pup_s
      refine lv_aload_n hx hb dX11_putBehind_61 rfl (lv_at hl 0 rfl) ?_
      have hL19 : x ∈ S11.1 := by rw [hS11]; exact hL_x
      have hf20 : S11.2 x = .inr (11, [.ref ch, .ref ln, .ref sl, .ref mk, .ref co, .ref ca, .ref su, .ref lt]) := by rw [hS11]; exact (pup_n (ne_cells hf_x hf_lk (by nofun))).trans hf_x
      have hL21 : x ∈ S9.1 := by rw [hS16]; exact hL19
      have hf22 : S9.2 x = .inr (11, [.ref ch, .ref ln, .ref sl, .ref mk, .ref co, .ref ca, .ref su, .ref lt]) := by rw [hS16]; exact (pup_n (ne_cells hf20 hf15 (by nofun))).trans hf20
      have hL23 : lk ∈ S9.1 := by rw [hS16]; exact hL12
      have hf24 : S9.2 lk = aQ (cy 3) 4 (va_up (fun _ => none) 0 (some st)) := by rw [hS16]; exact (pup_n (ne_cells hf13 hf15 (by nofun))).trans hf13
      have hL25 : ln ∈ S11.1 := by rw [hS11]; exact hL_ln
      have hf26 : S11.2 ln = .inr (6, [.int (nI 0), .int (nI 0), .int (nI 0), .int (nI 0)]) := by rw [hS11]; exact (pup_n (ne_cells hf_ln hf_lk (by nofun))).trans hf_ln
      have hL27 : ln ∈ S9.1 := by rw [hS16]; exact hL25
      have hf28 : S9.2 ln = .inr (6, [.int (nI 0), .int (nI 0), .int (nI 0), .int (nI 0)]) := by rw [hS16]; exact (pup_n (ne_cells hf26 hf15 (by nofun))).trans hf26
      have hL29 : mk ∈ S11.1 := by rw [hS11]; exact hL_mk
      have hf30 : S11.2 mk = .inr (8, [.ref mb, .int (nI 320)]) := by rw [hS11]; exact (pup_n (ne_cells hf_mk hf_lk (by nofun))).trans hf_mk
      have hL31 : mk ∈ S9.1 := by rw [hS16]; exact hL29
      have hf32 : S9.2 mk = .inr (8, [.ref mb, .int (nI 320)]) := by rw [hS16]; exact (pup_n (ne_cells hf30 hf15 (by nofun))).trans hf30
      have hL33 : mb ∈ S11.1 := by rw [hS11]; exact hL_mb
      have hf34 : S11.2 mb = aN (cy 0) 320 (fun _ => 0) := by rw [hS11]; exact (pup_n (ne_cells hf_mb hf_lk ne_NQ)).trans hf_mb
      have hL35 : mb ∈ S9.1 := by rw [hS16]; exact hL33
      have hf36 : S9.2 mb = aN (cy 0) 320 (fun _ => 0) := by rw [hS16]; exact (pup_n (ne_cells hf34 hf15 (by nofun))).trans hf34
      have hL37 : co ∈ S11.1 := by rw [hS11]; exact hL_co
      have hf38 : S11.2 co = .inr (5, [.ref col, .ref con]) := by rw [hS11]; exact (pup_n (ne_cells hf_co hf_lk (by nofun))).trans hf_co
      have hL39 : co ∈ S9.1 := by rw [hS16]; exact hL37
      have hf40 : S9.2 co = .inr (5, [.ref col, .ref con]) := by rw [hS16]; exact (pup_n (ne_cells hf38 hf15 (by nofun))).trans hf38
      have hL41 : col ∈ S11.1 := by rw [hS11]; exact hL_col
      have hf42 : S11.2 col = aQ (cy 2) 5 (va_up (va_up (va_up (va_up (va_up (fun _ => none) 0 (some cor0)) 1 (some cor1)) 2 (some cor2)) 3 (some cor3)) 4 (some cor4)) := by rw [hS11]; exact (pup_n hne_col_lk).trans hf_col
      have hL43 : col ∈ S9.1 := by rw [hS16]; exact hL41
      have hf44 : S9.2 col = aQ (cy 2) 5 (va_up (va_up (va_up (va_up (va_up (fun _ => none) 0 (some cor0)) 1 (some cor1)) 2 (some cor2)) 3 (some cor3)) 4 (some cor4)) := by rw [hS16]; exact (pup_n (ne_cells hf42 hf15 (by nofun))).trans hf42
      have hL45 : cor0 ∈ S11.1 := by rw [hS11]; exact hL_cor0
      have hf46 : S11.2 cor0 = .inr (8, [.ref cob0, .int (nI 0)]) := by rw [hS11]; exact (pup_n (ne_cells hf_cor0 hf_lk (by nofun))).trans hf_cor0
      have hL47 : cor0 ∈ S9.1 := by rw [hS16]; exact hL45
      have hf48 : S9.2 cor0 = .inr (8, [.ref cob0, .int (nI 0)]) := by rw [hS16]; exact (pup_n (ne_cells hf46 hf15 (by nofun))).trans hf46
      have hL49 : cor1 ∈ S11.1 := by rw [hS11]; exact hL_cor1
      have hf50 : S11.2 cor1 = .inr (8, [.ref cob1, .int (nI 0)]) := by rw [hS11]; exact (pup_n (ne_cells hf_cor1 hf_lk (by nofun))).trans hf_cor1
      have hL51 : cor1 ∈ S9.1 := by rw [hS16]; exact hL49
      have hf52 : S9.2 cor1 = .inr (8, [.ref cob1, .int (nI 0)]) := by rw [hS16]; exact (pup_n (ne_cells hf50 hf15 (by nofun))).trans hf50
      have hL53 : cob1 ∈ S11.1 := by rw [hS11]; exact hL_cob1
      have hf54 : S11.2 cob1 = aN (cy 0) 320 (fun _ => 0) := by rw [hS11]; exact (pup_n (ne_cells hf_cob1 hf_lk ne_NQ)).trans hf_cob1
      have hL55 : cob1 ∈ S9.1 := by rw [hS16]; exact hL53
      have hf56 : S9.2 cob1 = aN (cy 0) 320 (fun _ => 0) := by rw [hS16]; exact (pup_n (ne_cells hf54 hf15 (by nofun))).trans hf54
      have hL57 : ca ∈ S11.1 := by rw [hS11]; exact hL_ca
      have hf58 : S11.2 ca = .inr (5, [.ref cal, .ref can]) := by rw [hS11]; exact (pup_n (ne_cells hf_ca hf_lk (by nofun))).trans hf_ca
      have hL59 : ca ∈ S9.1 := by rw [hS16]; exact hL57
      have hf60 : S9.2 ca = .inr (5, [.ref cal, .ref can]) := by rw [hS16]; exact (pup_n (ne_cells hf58 hf15 (by nofun))).trans hf58
      have hL61 : cal ∈ S11.1 := by rw [hS11]; exact hL_cal
      have hf62 : S11.2 cal = aQ (cy 2) 5 (va_up (va_up (va_up (va_up (va_up (fun _ => none) 0 (some car0)) 1 (some car1)) 2 (some car2)) 3 (some car3)) 4 (some car4)) := by rw [hS11]; exact (pup_n hne_cal_lk).trans hf_cal
      have hL63 : cal ∈ S9.1 := by rw [hS16]; exact hL61
      have hf64 : S9.2 cal = aQ (cy 2) 5 (va_up (va_up (va_up (va_up (va_up (fun _ => none) 0 (some car0)) 1 (some car1)) 2 (some car2)) 3 (some car3)) 4 (some car4)) := by rw [hS16]; exact (pup_n (ne_cells hf62 hf15 (by nofun))).trans hf62
      have hL65 : car0 ∈ S11.1 := by rw [hS11]; exact hL_car0
      have hf66 : S11.2 car0 = .inr (8, [.ref cab0, .int (nI 0)]) := by rw [hS11]; exact (pup_n (ne_cells hf_car0 hf_lk (by nofun))).trans hf_car0
      have hL67 : car0 ∈ S9.1 := by rw [hS16]; exact hL65
      have hf68 : S9.2 car0 = .inr (8, [.ref cab0, .int (nI 0)]) := by rw [hS16]; exact (pup_n (ne_cells hf66 hf15 (by nofun))).trans hf66
      have hL69 : cab0 ∈ S11.1 := by rw [hS11]; exact hL_cab0
      have hf70 : S11.2 cab0 = aN (cy 0) 32 (fun _ => 0) := by rw [hS11]; exact (pup_n (ne_cells hf_cab0 hf_lk ne_NQ)).trans hf_cab0
      have hL71 : cab0 ∈ S9.1 := by rw [hS16]; exact hL69
      have hf72 : S9.2 cab0 = aN (cy 0) 32 (fun _ => 0) := by rw [hS16]; exact (pup_n (ne_cells hf70 hf15 (by nofun))).trans hf70
      have hL73 : car1 ∈ S11.1 := by rw [hS11]; exact hL_car1
      have hf74 : S11.2 car1 = .inr (8, [.ref cab1, .int (nI 0)]) := by rw [hS11]; exact (pup_n (ne_cells hf_car1 hf_lk (by nofun))).trans hf_car1
      have hL75 : car1 ∈ S9.1 := by rw [hS16]; exact hL73
      have hf76 : S9.2 car1 = .inr (8, [.ref cab1, .int (nI 0)]) := by rw [hS16]; exact (pup_n (ne_cells hf74 hf15 (by nofun))).trans hf74
      have hL77 : cab1 ∈ S11.1 := by rw [hS11]; exact hL_cab1
      have hf78 : S11.2 cab1 = aN (cy 0) 320 (fun _ => 0) := by rw [hS11]; exact (pup_n (ne_cells hf_cab1 hf_lk ne_NQ)).trans hf_cab1
      have hL79 : cab1 ∈ S9.1 := by rw [hS16]; exact hL77
      have hf80 : S9.2 cab1 = aN (cy 0) 320 (fun _ => 0) := by rw [hS16]; exact (pup_n (ne_cells hf78 hf15 (by nofun))).trans hf78
      have hL81 : lt ∈ S11.1 := by rw [hS11]; exact hL_lt
      have hf82 : S11.2 lt = .inr (4, [.ref lf, .ref lx, .ref lw]) := by rw [hS11]; exact (pup_n (ne_cells hf_lt hf_lk (by nofun))).trans hf_lt
      have hL83 : lt ∈ S9.1 := by rw [hS16]; exact hL81
      have hf84 : S9.2 lt = .inr (4, [.ref lf, .ref lx, .ref lw]) := by rw [hS16]; exact (pup_n (ne_cells hf82 hf15 (by nofun))).trans hf82
      have hL85 : lf ∈ S11.1 := by rw [hS11]; exact hL_lf
      have hf86 : S11.2 lf = aN (cy 0) 16 lg := by rw [hS11]; exact (pup_n (ne_cells hf_lf hf_lk ne_NQ)).trans hf_lf
      have hL87 : lf ∈ S9.1 := by rw [hS16]; exact hL85
      have hf88 : S9.2 lf = aN (cy 0) 16 lg := by rw [hS16]; exact (pup_n (ne_cells hf86 hf15 (by nofun))).trans hf86
      have hL89 : st ∈ S11.1 := by rw [hS11]; exact hL_st
      have hf90 : S11.2 st = .inr (9, [.int (nI sa), .int (nI sb), .ref sw, .ref lt]) := by rw [hS11]; exact (pup_n (ne_cells hf_st hf_lk (by nofun))).trans hf_st
      have hL91 : st ∈ S9.1 := by rw [hS16]; exact hL89
      have hf92 : S9.2 st = .inr (9, [.int (nI sa), .int (nI sb), .ref sw, .ref lt]) := by rw [hS16]; exact (pup_n (ne_cells hf90 hf15 (by nofun))).trans hf90
      refine p_callv (va_runV (As := []) (rest := []) C.fix (e_X11_settle1trl l D cy S9 H.size x ch ln sl mk co ca su lt lk mb col con cor0 cor1 cor2 cor3 cor4 cob0 cob1 cal can car0 car1 car2 car3 car4 cab0 cab1 lf lx lw st sw (va_up (fun _ => none) 0 (some st)) sa sb lg hL21 hf22 hL17 hf18 hL23 hf24 hL27 hf28 hL31 hf32 hL35 hf36 hL39 hf40 hL43 hf44 hL47 hf48 hL51 hf52 hL55 hf56 hL59 hf60 hL63 hf64 hL67 hf68 hL71 hf72 hL75 hf76 hL79 hf80 hL83 hf84 hL87 hf88 hL91 hf92 hne_cor0_cor1 hne_mk_cor1 hne_car1_cor1 hne_cob1_cab1 hne_mk_car1 hne_mb_cab1 hne_lf_cab1 hne_cor0_car1 hne_car0_cor1 hne_car0_car1 hne_cab0_cab1 (by first | assumption | rfl | simp [va_up])) (cwV 0 C.2.2.2.2.1 (gU_V mw_187 mw_188 mw_189 mw_2 (subU mw_190)) rfl rfl rfl hde_X11_putBehindtrl_V_5 ⟨Nat.le_of_ble_eq_true rfl, Nat.le_of_ble_eq_true rfl⟩) (p_preV C hw hL21 hf22 rfl) rfl rfl hl.1 rfl (lv_room (Nat.le_of_ble_eq_true rfl)) dX11_putBehind_62 ⟨Nat.le_of_ble_eq_true rfl, Nat.le_of_ble_eq_true rfl⟩) hw hA (fun S93 H locs hpost hw => ?_)
      obtain ⟨hS95, hfr96, hf97⟩ := hpost
      have hL98 : cor1 ∈ S93.1 := by rw [hS95]; exact List.mem_append_left _ hL51
      refine lv_aload_n hx hb dX11_putBehind_65 rfl (lv_at hl 0 rfl) ?_
      refine lv_aload_n hx hb dX11_putBehind_66 rfl (lv_at hl 0 rfl) ?_
      have hL99 : x ∈ S93.1 := by rw [hS95]; exact List.mem_append_left _ hL21
      have hf100 : S93.2 x = .inr (11, [.ref ch, .ref ln, .ref sl, .ref mk, .ref co, .ref ca, .ref su, .ref lt]) := (hfr96 x hL21 (ne_cells hf22 hf52 (by nofun)) (ne_cells hf22 hf76 (by nofun)) (ne_cells hf22 hf80 (by nofun)) (ne_cells hf22 hf68 (by nofun)) (ne_cells hf22 hf88 (by nofun))).trans hf22
      refine p_get C hw (ci := 11) (Cn := RX11) (T := TX11) (N := 8) hL99 hf100 rfl hin_RX11 4 (by decide) (mU mw_30) rfl rfl dX11_putBehind_67 ?_
      have hL101 : ch ∈ S93.1 := by rw [hS95]; exact List.mem_append_left _ hL17
      have hf102 : S93.2 ch = .inr (2, [.ref lk, .int (nI 1)]) := (hfr96 ch hL17 (ne_cells hf18 hf52 (by nofun)) (ne_cells hf18 hf76 (by nofun)) (ne_cells hf18 hf80 (by nofun)) (ne_cells hf18 hf68 (by nofun)) (ne_cells hf18 hf88 (by nofun))).trans hf18
      have hL103 : co ∈ S93.1 := by rw [hS95]; exact List.mem_append_left _ hL39
      have hf104 : S93.2 co = .inr (5, [.ref col, .ref con]) := (hfr96 co hL39 (ne_cells hf40 hf52 (by nofun)) (ne_cells hf40 hf76 (by nofun)) (ne_cells hf40 hf80 (by nofun)) (ne_cells hf40 hf68 (by nofun)) (ne_cells hf40 hf88 (by nofun))).trans hf40
      have hL105 : col ∈ S93.1 := by rw [hS95]; exact List.mem_append_left _ hL43
      have hf106 : S93.2 col = aQ (cy 2) 5 (va_up (va_up (va_up (va_up (va_up (fun _ => none) 0 (some cor0)) 1 (some cor1)) 2 (some cor2)) 3 (some cor3)) 4 (some cor4)) := (hfr96 col hL43 (ne_cells hf44 hf52 (by nofun)) (ne_cells hf44 hf76 (by nofun)) (ne_cells hf44 hf80 ne_QN) (ne_cells hf44 hf68 (by nofun)) (ne_cells hf44 hf88 ne_QN)).trans hf44
      refine p_callq (va_runV (As := [.ref co]) (rest := []) C.fix (e_X11_last1 l D cy S93 H.size x co ch ln sl mk co ca su lt lk col con (va_up (va_up (va_up (va_up (va_up (fun _ => none) 0 (some cor0)) 1 (some cor1)) 2 (some cor2)) 3 (some cor3)) 4 (some cor4)) cor1 hL99 hf100 hL101 hf102 hL103 hf104 hL105 hf106 (by first | assumption | rfl | simp [va_up])) (cwV 1 C.2.2.2.2.1 (gU_V mw_256 mw_257 mw_258 mw_2 (subU mw_259)) rfl rfl rfl hde_X11_putBehindtrl_V_1 ⟨Nat.le_of_ble_eq_true rfl, Nat.le_of_ble_eq_true rfl⟩) (p_preV C hw hL99 hf100 rfl) rfl rfl hl.1 rfl (lv_room (Nat.le_of_ble_eq_true rfl)) dX11_putBehind_70 ⟨Nat.le_of_ble_eq_true rfl, Nat.le_of_ble_eq_true rfl⟩) hw hA (fun r108 S107 H locs hpost hw => ?_)
      obtain ⟨hr_, hS_⟩ := hpost
      subst hr_
      subst hS_
      refine p_calli (va_runV (As := []) (rest := []) C.fix (c_X7_size l D cy S93 H.size cor1 cob1 0 hL98 hf97) (cwV 0 C.2.2.2.2.1 (gU_V mw_130 mw_131 mw_132 mw_25 sub_X7_size) rfl rfl rfl hde_X11_putBehindtrl_V_2 ⟨Nat.le_of_ble_eq_true rfl, Nat.le_of_ble_eq_true rfl⟩) (p_preV C hw hL98 hf97 rfl) rfl rfl hl.1 rfl (lv_room (Nat.le_of_ble_eq_true rfl)) dX11_putBehind_73 ⟨Nat.le_of_ble_eq_true rfl, Nat.le_of_ble_eq_true rfl⟩) hw hA (fun r110 S109 H locs hpost hw => ?_)
      obtain ⟨hr_, hS_⟩ := hpost
      subst hr_
      subst hS_
      exact (p_iret C hw (⟨rfl, (by simp only [hS95, hS16, hS11, pup, pnew, List.append_nil, List.append_assoc, List.cons_append, List.nil_append]), (fun a_ ha_ hn_0 hn_1 hn_2 hn_3 hn_4 hn_5 hn_6 => ((hfr96 a_ (show a_ ∈ S9.1 from by rw [hS16]; exact (show a_ ∈ S11.1 from by rw [hS11]; exact ha_)) hn_2 hn_3 hn_4 hn_5 hn_6).trans ((show S9.2 a_ = S11.2 a_ from by rw [hS16]; exact pup_n hn_1).trans (show S11.2 a_ = S.2 a_ from by rw [hS11]; exact pup_n hn_0))))⟩) hr hlocks dX11_putBehind_76)
    · exact absurd h_40 (by first | decide | omega)
  · exact absurd h_8 (by first | decide | omega)

theorem hde_X10_sizeOf0_S_0 : yX11_blocksOf.cls ≠ "java/lang/invoke/MethodHandle" ∧ yX11_blocksOf.cls ≠ "java/lang/invoke/VarHandle" ∧ (parseMethodDescriptor yX11_blocksOf.desc).map (fun d => d.parameters.length) = some 2 := by decide +kernel
set_option maxHeartbeats 4000000 in
set_option maxRecDepth 100000 in
theorem e_X10_sizeOf0 (l : Launch) (D : va_G) (cy : Nat → ClassId) (S : pS) (sz : Nat) (st : Nat) (sa : Nat) (sb : Nat) (hL_st : st ∈ S.1) (hf_st : S.2 st = .inr (10, [.int (nI sa), .int (nI sb)])) (hsa : sa * sb < 2 ^ 31) : Met l yX10_sizeOf (Cond.code yX10_sizeOf cX10_sizeOf 2 (some .int) :: lwU) ({ frames := 1, cells := 0, slots := 0, locals := 21 }) (pPc D cy S sz [.ref st, .int (nI 0)]) (pQi D cy S sz (fun r S' => r = (nI 0) ∧ S = S')) 0 0 (pA S sz) := by
  refine Met.ofW (cc := cX10_sizeOf) (maxL := 2) (ret := (some .int)) (by decide) rfl ?_
  intro p e s m args below meth c s₁ B hml hv
  obtain ⟨rfl, rfl, C, hw, hA, hr, hlocks⟩ := p_start B hml hv
  have hx := C.1
  have hb := C.2.1
  have hl := lv_entry ([.ref st, .int (nI 0)]) (n := 2) (Nat.le_of_ble_eq_true rfl)
  rw [lg_entry_eq]
  generalize (lg_sl ([.ref st, .int (nI 0)]) ++ List.replicate (2 - (lg_sl ([.ref st, .int (nI 0)])).length) Slot.unset).toArray = ls at hl ⊢
  have hl : lv_has ls 2 [(0, .ref st), (1, .int (nI 0))] := hl
  have hin_RX10 : ∀ w ∈ u_ws RX10 TX10 2, w ∈ (Cond.code yX10_sizeOf cX10_sizeOf 2 (some .int) :: lwU) := fun w h => mU (sub_RX10 w h)
  refine lv_iload_n hx hb dX10_sizeOf_0 rfl (lv_at hl 1 rfl) ?_
  refine lv_aload_n hx hb dX10_sizeOf_1 rfl (lv_at hl 0 rfl) ?_
  refine p_get C hw (ci := 10) (Cn := RX10) (T := TX10) (N := 2) hL_st hf_st rfl hin_RX10 0 (by decide) (mU mw_177) rfl rfl dX10_sizeOf_2 ?_
  refine lv_aload_n hx hb dX10_sizeOf_5 rfl (lv_at hl 0 rfl) ?_
  refine p_get C hw (ci := 10) (Cn := RX10) (T := TX10) (N := 2) hL_st hf_st rfl hin_RX10 1 (by decide) (mU mw_178) rfl rfl dX10_sizeOf_6 ?_
  refine n_imul hx hb dX10_sizeOf_9 ?_
  refine p_calli (va_runSN (As := [.int (nI 0), .int (nI (sa * sb))]) (rest := []) C.fix (e_X11_blocksOf0 l D cy S s.heap.size (sa * sb)  (by first | assumption | decide | omega)) ⟨va_cnB 2 C.2.2.2.2.1 (gU_sub (subU mw_151)) rfl rfl rfl (show va_Nw (.methodLinkNest RX10 18 yX11_blocksOf "SoundingLine") s from C.nst 5 (RX10, 18, yX11_blocksOf) rfl) (C.2.2.2.2.1 (.initialized RX11) (mU mw_2)) hde_X10_sizeOf0_S_0 ⟨Nat.le_of_ble_eq_true rfl, Nat.le_of_ble_eq_true rfl⟩, C.2.2.2.2.1 (.static yX11_blocksOf) (mU mw_150), trivial⟩ (p_preS C hw) rfl rfl hl.1 rfl (lv_room (Nat.le_of_ble_eq_true rfl)) dX10_sizeOf_10 ⟨Nat.le_of_ble_eq_true rfl, Nat.le_of_ble_eq_true rfl⟩) hw hA (fun r2 S1 H locs hpost hw => ?_)
  obtain ⟨hr_, hS_⟩ := hpost
  subst hr_
  subst hS_
  refine lv_aload_n hx hb dX10_sizeOf_13 rfl (lv_at hl 0 rfl) ?_
  refine p_get C hw (ci := 10) (Cn := RX10) (T := TX10) (N := 2) hL_st hf_st rfl hin_RX10 0 (by decide) (mU mw_177) rfl rfl dX10_sizeOf_14 ?_
  refine n_imul hx hb dX10_sizeOf_17 ?_
  refine n_ren (b := 0) (by first | rfl | omega | simp) ?_
  refine lv_aload_n hx hb dX10_sizeOf_18 rfl (lv_at hl 0 rfl) ?_
  refine p_get C hw (ci := 10) (Cn := RX10) (T := TX10) (N := 2) hL_st hf_st rfl hin_RX10 1 (by decide) (mU mw_178) rfl rfl dX10_sizeOf_19 ?_
  refine n_imul hx hb dX10_sizeOf_22 ?_
  refine n_ren (b := 0) (by first | rfl | omega | simp) ?_
  exact (p_iret C hw (⟨rfl, rfl⟩) hr hlocks dX10_sizeOf_23)

theorem hde_X10_code0_V_0 : yX7_size.cls = RX7 ∧ yX7_size.cls ≠ "java/lang/invoke/MethodHandle" ∧ yX7_size.cls ≠ "java/lang/invoke/VarHandle" ∧ (parseMethodDescriptor yX7_size.desc).map (fun d => d.parameters.length) = some 0 := by decide +kernel
set_option maxHeartbeats 4000000 in
set_option maxRecDepth 100000 in
theorem e_X10_code0 (l : Launch) (D : va_G) (cy : Nat → ClassId) (S : pS) (sz : Nat) (st : Nat) (f : Nat) (o : Nat) (obb : Nat) (hL_o : o ∈ S.1) (hf_o : S.2 o = .inr (8, [.ref obb, .int (nI 0)]))  : Met l yX10_code (Cond.code yX10_code cX10_code 4 none :: lwU) ({ frames := 1, cells := 0, slots := 0, locals := 20 }) (pPc D cy S sz [.ref st, .ref f, .ref o]) (pQv D cy S sz (fun S' => S = S')) 0 0 (pA S sz) := by
  refine Met.ofW (cc := cX10_code) (maxL := 4) (ret := none) (by decide) rfl ?_
  intro p e s m args below meth c s₁ B hml hv
  obtain ⟨rfl, rfl, C, hw, hA, hr, hlocks⟩ := p_start B hml hv
  have hx := C.1
  have hb := C.2.1
  have hl := lv_entry ([.ref st, .ref f, .ref o]) (n := 4) (Nat.le_of_ble_eq_true rfl)
  rw [lg_entry_eq]
  generalize (lg_sl ([.ref st, .ref f, .ref o]) ++ List.replicate (4 - (lg_sl ([.ref st, .ref f, .ref o])).length) Slot.unset).toArray = ls at hl ⊢
  have hl : lv_has ls 4 [(0, .ref st), (1, .ref f), (2, .ref o)] := hl
  refine lv_iconst (v := nI 0) hx hb dX10_code_0 (by decide) ?_
  refine lv_istore_n (lv' := [(3, .int (nI 0)), (0, .ref st), (1, .ref f), (2, .ref o)]) hx hb dX10_code_1 rfl hl (by decide) rfl (fun ls hl => ?_)
  refine lv_iload_n hx hb dX10_code_2 rfl (lv_at hl 0 rfl) ?_
  refine lv_aload_n hx hb dX10_code_3 rfl (lv_at hl 3 rfl) ?_
  refine p_calli (va_runV (As := []) (rest := [.int (nI 0)]) C.fix (c_X7_size l D cy S s.heap.size o obb 0 hL_o hf_o) (cwV 0 C.2.2.2.2.1 (gU_V mw_245 mw_131 mw_132 mw_25 sub_X7_size) rfl rfl rfl hde_X10_code0_V_0 ⟨Nat.le_of_ble_eq_true rfl, Nat.le_of_ble_eq_true rfl⟩) (p_preV C hw hL_o hf_o rfl) rfl rfl hl.1 rfl (lv_room (Nat.le_of_ble_eq_true rfl)) dX10_code_4 ⟨Nat.le_of_ble_eq_true rfl, Nat.le_of_ble_eq_true rfl⟩) hw hA (fun r2 S1 H locs hpost hw => ?_)
  obtain ⟨hr_, hS_⟩ := hpost
  subst hr_
  subst hS_
  refine n_icmp_ge (tgt := 31) hx hb (by first | decide | omega) (by first | decide | omega) dX10_code_7 (by decide) (fun h_7 => ?_) (fun h_7 => ?_)
  · skip
    exact (p_vret C hw (rfl) hr hlocks dX10_code_31)
  · exact absurd h_7 (by first | decide | omega)

theorem hde_X10_decode0_V_0 : yX7_size.cls = RX7 ∧ yX7_size.cls ≠ "java/lang/invoke/MethodHandle" ∧ yX7_size.cls ≠ "java/lang/invoke/VarHandle" ∧ (parseMethodDescriptor yX7_size.desc).map (fun d => d.parameters.length) = some 0 := by decide +kernel
set_option maxHeartbeats 4000000 in
set_option maxRecDepth 100000 in
theorem e_X10_decode0 (l : Launch) (D : va_G) (cy : Nat → ClassId) (S : pS) (sz : Nat) (st : Nat) (f : Nat) (o : Nat) (fb : Nat) (hL_f : f ∈ S.1) (hf_f : S.2 f = .inr (8, [.ref fb, .int (nI 0)]))  : Met l yX10_decode (Cond.code yX10_decode cX10_decode 4 none :: lwU) ({ frames := 1, cells := 0, slots := 0, locals := 20 }) (pPc D cy S sz [.ref st, .ref f, .ref o]) (pQv D cy S sz (fun S' => S = S')) 0 0 (pA S sz) := by
  refine Met.ofW (cc := cX10_decode) (maxL := 4) (ret := none) (by decide) rfl ?_
  intro p e s m args below meth c s₁ B hml hv
  obtain ⟨rfl, rfl, C, hw, hA, hr, hlocks⟩ := p_start B hml hv
  have hx := C.1
  have hb := C.2.1
  have hl := lv_entry ([.ref st, .ref f, .ref o]) (n := 4) (Nat.le_of_ble_eq_true rfl)
  rw [lg_entry_eq]
  generalize (lg_sl ([.ref st, .ref f, .ref o]) ++ List.replicate (4 - (lg_sl ([.ref st, .ref f, .ref o])).length) Slot.unset).toArray = ls at hl ⊢
  have hl : lv_has ls 4 [(0, .ref st), (1, .ref f), (2, .ref o)] := hl
  refine lv_iconst (v := nI 0) hx hb dX10_decode_0 (by decide) ?_
  refine lv_istore_n (lv' := [(3, .int (nI 0)), (0, .ref st), (1, .ref f), (2, .ref o)]) hx hb dX10_decode_1 rfl hl (by decide) rfl (fun ls hl => ?_)
  refine lv_iload_n hx hb dX10_decode_2 rfl (lv_at hl 0 rfl) ?_
  refine lv_aload_n hx hb dX10_decode_3 rfl (lv_at hl 2 rfl) ?_
  refine p_calli (va_runV (As := []) (rest := [.int (nI 0)]) C.fix (c_X7_size l D cy S s.heap.size f fb 0 hL_f hf_f) (cwV 0 C.2.2.2.2.1 (gU_V mw_245 mw_131 mw_132 mw_25 sub_X7_size) rfl rfl rfl hde_X10_decode0_V_0 ⟨Nat.le_of_ble_eq_true rfl, Nat.le_of_ble_eq_true rfl⟩) (p_preV C hw hL_f hf_f rfl) rfl rfl hl.1 rfl (lv_room (Nat.le_of_ble_eq_true rfl)) dX10_decode_4 ⟨Nat.le_of_ble_eq_true rfl, Nat.le_of_ble_eq_true rfl⟩) hw hA (fun r2 S1 H locs hpost hw => ?_)
  obtain ⟨hr_, hS_⟩ := hpost
  subst hr_
  subst hS_
  refine n_icmp_ge (tgt := 30) hx hb (by first | decide | omega) (by first | decide | omega) dX10_decode_7 (by decide) (fun h_7 => ?_) (fun h_7 => ?_)
  · skip
    exact (p_vret C hw (rfl) hr hlocks dX10_decode_30)
  · exact absurd h_7 (by first | decide | omega)

theorem hde_X1_code1wev_V_0 : yX1_stageAt.cls = RX1 ∧ yX1_stageAt.cls ≠ "java/lang/invoke/MethodHandle" ∧ yX1_stageAt.cls ≠ "java/lang/invoke/VarHandle" ∧ (parseMethodDescriptor yX1_stageAt.desc).map (fun d => d.parameters.length) = some 1 := by decide +kernel
theorem hde_X1_code1wev_V_1 : yX4_at.cls = RX4 ∧ yX4_at.cls ≠ "java/lang/invoke/MethodHandle" ∧ yX4_at.cls ≠ "java/lang/invoke/VarHandle" ∧ (parseMethodDescriptor yX4_at.desc).map (fun d => d.parameters.length) = some 1 := by decide +kernel
theorem hde_X1_code1wev_V_2 : yX7_size.cls = RX7 ∧ yX7_size.cls ≠ "java/lang/invoke/MethodHandle" ∧ yX7_size.cls ≠ "java/lang/invoke/VarHandle" ∧ (parseMethodDescriptor yX7_size.desc).map (fun d => d.parameters.length) = some 0 := by decide +kernel
theorem hdue_X1_code1wev_3 : "SoundingLine$Stage" ≠ "java/lang/invoke/MethodHandle" ∧ "SoundingLine$Stage" ≠ "java/lang/invoke/VarHandle" ∧ (parseMethodDescriptor "(I)I").map (fun d => d.parameters.length) = some 1 := by decide +kernel
theorem hde_X1_code1wev_V_4 : yX7_resize.cls = RX7 ∧ yX7_resize.cls ≠ "java/lang/invoke/MethodHandle" ∧ yX7_resize.cls ≠ "java/lang/invoke/VarHandle" ∧ (parseMethodDescriptor yX7_resize.desc).map (fun d => d.parameters.length) = some 1 := by decide +kernel
theorem hdue_X1_code1wev_5 : "SoundingLine$Stage" ≠ "java/lang/invoke/MethodHandle" ∧ "SoundingLine$Stage" ≠ "java/lang/invoke/VarHandle" ∧ (parseMethodDescriptor "(LSoundingLine$Row;LSoundingLine$Row;)V").map (fun d => d.parameters.length) = some 2 := by decide +kernel
set_option maxHeartbeats 4000000 in
set_option maxRecDepth 100000 in
theorem e_X1_code1wev (l : Launch) (D : va_G) (cy : Nat → ClassId) (S : pS) (sz : Nat) (ch : Nat) (co : Nat) (lk : Nat) (st : Nat) (col : Nat) (con : Nat) (c0 : Nat) (c0b : Nat) (c1 : Nat) (c1b : Nat) (lq : Nat → Option Nat) (cq : Nat → Option Nat) (n1 : Nat) (g1 : Nat → Nat) (sa : Nat) (sb : Nat) (hL_ch : ch ∈ S.1) (hf_ch : S.2 ch = .inr (2, [.ref lk, .int (nI 1)])) (hL_lk : lk ∈ S.1) (hf_lk : S.2 lk = aQ (cy 3) 4 lq) (hL_st : st ∈ S.1) (hf_st : S.2 st = .inr (10, [.int (nI sa), .int (nI sb)])) (hL_co : co ∈ S.1) (hf_co : S.2 co = .inr (5, [.ref col, .ref con])) (hL_col : col ∈ S.1) (hf_col : S.2 col = aQ (cy 2) 5 cq) (hL_c0 : c0 ∈ S.1) (hf_c0 : S.2 c0 = .inr (8, [.ref c0b, .int (nI 0)])) (hL_c1 : c1 ∈ S.1) (hf_c1 : S.2 c1 = .inr (8, [.ref c1b, .int (nI n1)])) (hL_c1b : c1b ∈ S.1) (hf_c1b : S.2 c1b = aN (cy 0) 320 g1) (hlq : lq 0 = some st) (hcq : cq 0 = some c0) (hcq1 : cq 1 = some c1) (hsa : sa * sb < 2 ^ 31) : Met l yX1_code (Cond.code yX1_code cX1_code 6 none :: lwU) ({ frames := 2, cells := 0, slots := 0, locals := 43 }) (pPc D cy S sz [.ref ch, .ref co]) (pQv D cy S sz (fun S' => S'.1 = S.1 ++ [] ∧ (∀ a_, a_ ∈ S.1 → a_ ≠ c1 → S'.2 a_ = S.2 a_) ∧ S'.2 c1 = .inr (8, [.ref c1b, .int (nI 0)]))) 0 0 (pA S sz) := by
  refine Met.ofW (cc := cX1_code) (maxL := 6) (ret := none) (by decide) rfl ?_
  intro p e s m args below meth c s₁ B hml hv
  obtain ⟨rfl, rfl, C, hw, hA, hr, hlocks⟩ := p_start B hml hv
  have hx := C.1
  have hb := C.2.1
  have hl := lv_entry ([.ref ch, .ref co]) (n := 6) (Nat.le_of_ble_eq_true rfl)
  rw [lg_entry_eq]
  generalize (lg_sl ([.ref ch, .ref co]) ++ List.replicate (6 - (lg_sl ([.ref ch, .ref co])).length) Slot.unset).toArray = ls at hl ⊢
  have hl : lv_has ls 6 [(0, .ref ch), (1, .ref co)] := hl
  have hin_RX1 : ∀ w ∈ u_ws RX1 TX1 2, w ∈ (Cond.code yX1_code cX1_code 6 none :: lwU) := fun w h => mU (sub_RX1 w h)
  refine lv_iconst (v := nI 0) hx hb dX1_code_0 (by decide) ?_
  refine lv_istore_n (lv' := [(2, .int (nI 0)), (0, .ref ch), (1, .ref co)]) hx hb dX1_code_1 rfl hl (by decide) rfl (fun ls hl => ?_)
  refine lv_iload_n hx hb dX1_code_2 rfl (lv_at hl 0 rfl) ?_
  refine lv_aload_n hx hb dX1_code_3 rfl (lv_at hl 1 rfl) ?_
  refine p_get C hw (ci := 2) (Cn := RX1) (T := TX1) (N := 2) hL_ch hf_ch rfl hin_RX1 1 (by decide) (mU mw_42) rfl rfl dX1_code_4 ?_
  refine n_icmp_ge (tgt := 64) hx hb (by first | decide | omega) (by first | decide | omega) dX1_code_7 (by decide) (fun h_7 => ?_) (fun h_7 => ?_)
  · exact absurd h_7 (by first | decide | omega)
  · skip
    refine lv_aload_n hx hb dX1_code_10 rfl (lv_at hl 1 rfl) ?_
    refine lv_iload_n hx hb dX1_code_11 rfl (lv_at hl 0 rfl) ?_
    refine p_callq (va_runV (As := [.int (nI 0)]) (rest := []) C.fix (e_X1_stageAt1 l D cy S s.heap.size ch lk lq st hL_ch hf_ch hL_lk hf_lk (by first | assumption | rfl | simp [va_up])) (cwV 1 C.2.2.2.2.1 (gU_V mw_138 mw_139 mw_140 mw_16 (subU mw_141)) rfl rfl rfl hde_X1_code1wev_V_0 ⟨Nat.le_of_ble_eq_true rfl, Nat.le_of_ble_eq_true rfl⟩) (p_preV C hw hL_ch hf_ch rfl) rfl rfl hl.1 rfl (lv_room (Nat.le_of_ble_eq_true rfl)) dX1_code_12 ⟨Nat.le_of_ble_eq_true rfl, Nat.le_of_ble_eq_true rfl⟩) hw hA (fun r2 S1 H locs hpost hw => ?_)
    obtain ⟨hr_, hS_⟩ := hpost
    subst hr_
    subst hS_
    refine lv_astore_n (lv' := [(3, .ref st), (2, .int (nI 0)), (0, .ref ch), (1, .ref co)]) hx hb dX1_code_15 rfl hl (by decide) rfl (fun ls hl => ?_)
    refine lv_aload_n hx hb dX1_code_16 rfl (lv_at hl 0 rfl) ?_
    refine lv_ifnull hx hb dX1_code_17 ?_
    refine lv_aload_n hx hb dX1_code_20 rfl (lv_at hl 3 rfl) ?_
    refine lv_iload_n hx hb dX1_code_21 rfl (lv_at hl 1 rfl) ?_
    refine p_callq (va_runV (As := [.int (nI 0)]) (rest := []) C.fix (c_X4_at l D cy S H.size co col con 0 c0 cq hL_co hf_co hL_col hf_col (by first | assumption | decide | omega) (by first | assumption | rfl | simp [va_up])) (cwV 1 C.2.2.2.2.1 (gU_V mw_195 mw_127 mw_128 mw_29 sub_X4_at) rfl rfl rfl hde_X1_code1wev_V_1 ⟨Nat.le_of_ble_eq_true rfl, Nat.le_of_ble_eq_true rfl⟩) (p_preV C hw hL_co hf_co rfl) rfl rfl hl.1 rfl (lv_room (Nat.le_of_ble_eq_true rfl)) dX1_code_22 ⟨Nat.le_of_ble_eq_true rfl, Nat.le_of_ble_eq_true rfl⟩) hw hA (fun r4 S3 H locs hpost hw => ?_)
    obtain ⟨hr_, hS_⟩ := hpost
    subst hr_
    subst hS_
    refine lv_astore (lv' := [(4, .ref c0), (3, .ref st), (2, .int (nI 0)), (0, .ref ch), (1, .ref co)]) hx hb dX1_code_25 hl (by decide) rfl (fun ls hl => ?_)
    refine lv_aload_n hx hb dX1_code_27 rfl (lv_at hl 4 rfl) ?_
    refine lv_iload_n hx hb dX1_code_28 rfl (lv_at hl 2 rfl) ?_
    refine lv_iconst (v := nI 1) hx hb dX1_code_29 (by decide) ?_
    refine n_iadd hx hb dX1_code_30 ?_
    refine n_ren (b := 1) (by first | rfl | omega | simp) ?_
    refine p_callq (va_runV (As := [.int (nI 1)]) (rest := []) C.fix (c_X4_at l D cy S H.size co col con 1 c1 cq hL_co hf_co hL_col hf_col (by first | assumption | decide | omega) (by first | assumption | rfl | simp [va_up])) (cwV 1 C.2.2.2.2.1 (gU_V mw_195 mw_127 mw_128 mw_29 sub_X4_at) rfl rfl rfl hde_X1_code1wev_V_1 ⟨Nat.le_of_ble_eq_true rfl, Nat.le_of_ble_eq_true rfl⟩) (p_preV C hw hL_co hf_co rfl) rfl rfl hl.1 rfl (lv_room (Nat.le_of_ble_eq_true rfl)) dX1_code_31 ⟨Nat.le_of_ble_eq_true rfl, Nat.le_of_ble_eq_true rfl⟩) hw hA (fun r6 S5 H locs hpost hw => ?_)
    obtain ⟨hr_, hS_⟩ := hpost
    subst hr_
    subst hS_
    refine lv_astore (lv' := [(5, .ref c1), (4, .ref c0), (3, .ref st), (2, .int (nI 0)), (0, .ref ch), (1, .ref co)]) hx hb dX1_code_34 hl (by decide) rfl (fun ls hl => ?_)
    refine lv_aload hx hb dX1_code_36 (lv_at hl 0 rfl) ?_
    refine lv_aload_n hx hb dX1_code_38 rfl (lv_at hl 2 rfl) ?_
    refine lv_aload hx hb dX1_code_39 (lv_at hl 1 rfl) ?_
    refine p_calli (va_runV (As := []) (rest := [.ref st, .ref c1]) C.fix (c_X7_size l D cy S H.size c0 c0b 0 hL_c0 hf_c0) (cwV 0 C.2.2.2.2.1 (gU_V mw_196 mw_131 mw_132 mw_25 sub_X7_size) rfl rfl rfl hde_X1_code1wev_V_2 ⟨Nat.le_of_ble_eq_true rfl, Nat.le_of_ble_eq_true rfl⟩) (p_preV C hw hL_c0 hf_c0 rfl) rfl rfl hl.1 rfl (lv_room (Nat.le_of_ble_eq_true rfl)) dX1_code_41 ⟨Nat.le_of_ble_eq_true rfl, Nat.le_of_ble_eq_true rfl⟩) hw hA (fun r8 S7 H locs hpost hw => ?_)
    obtain ⟨hr_, hS_⟩ := hpost
    subst hr_
    subst hS_
    refine p_calli (va_runU (x := ⟨"SoundingLine$Stage", "sizeOf", "(I)I"⟩) (As := [.int (nI 0)]) (rest := [.ref c1]) C.fix (e_X10_sizeOf0 l D cy S H.size st sa sb hL_st hf_st (by first | assumption | decide | omega)) (va_cwA 1 C.2.2.2.2.1 (gU_U mw_142 mw_143 mw_173 mw_174 mw_175 (subU mw_176)) rfl rfl rfl (C.dcl 0 _ rfl) hdue_X1_code1wev_3 ⟨Nat.le_of_ble_eq_true rfl, Nat.le_of_ble_eq_true rfl⟩) (p_preV C hw hL_st hf_st rfl) rfl rfl hl.1 rfl (lv_room (Nat.le_of_ble_eq_true rfl)) dX1_code_44 ⟨Nat.le_of_ble_eq_true rfl, Nat.le_of_ble_eq_true rfl⟩) hw hA (fun r10 S9 H locs hpost hw => ?_)
    obtain ⟨hr_, hS_⟩ := hpost
    subst hr_
    subst hS_
    refine p_callv (va_runV (As := [.int (nI 0)]) (rest := []) C.fix (c_X7_resize l D cy S H.size c1 c1b 320 n1 0 g1 hL_c1 hf_c1 hL_c1b hf_c1b (by first | assumption | decide | omega) (by first | assumption | decide | omega)) (cwV 1 C.2.2.2.2.1 (gU_V mw_197 mw_62 mw_63 mw_25 sub_X7_resize) rfl rfl rfl hde_X1_code1wev_V_4 ⟨Nat.le_of_ble_eq_true rfl, Nat.le_of_ble_eq_true rfl⟩) (p_preV C hw hL_c1 hf_c1 rfl) rfl rfl hl.1 rfl (lv_room (Nat.le_of_ble_eq_true rfl)) dX1_code_47 ⟨Nat.le_of_ble_eq_true rfl, Nat.le_of_ble_eq_true rfl⟩) hw hA (fun S11 H locs hpost hw => ?_)
    have hS_ := hpost
    try rw [show min 0 320 = 0 from rfl] at hS_
    have hS13 := hS_
    have hL14 : c1 ∈ S11.1 := by rw [hS13]; exact hL_c1
    have hf15 : S11.2 c1 = .inr (8, [.ref c1b, .int (nI 0)]) := by rw [hS13]; exact pup_s
    refine lv_aload_n hx hb dX1_code_50 rfl (lv_at hl 2 rfl) ?_
    refine lv_aload hx hb dX1_code_51 (lv_at hl 1 rfl) ?_
    refine lv_aload hx hb dX1_code_53 (lv_at hl 0 rfl) ?_
    have hL16 : st ∈ S11.1 := by rw [hS13]; exact hL_st
    have hf17 : S11.2 st = .inr (10, [.int (nI sa), .int (nI sb)]) := by rw [hS13]; exact (pup_n (ne_cells hf_st hf_c1 (by nofun))).trans hf_st
    refine p_callv (va_runU (x := ⟨"SoundingLine$Stage", "code", "(LSoundingLine$Row;LSoundingLine$Row;)V"⟩) (As := [.ref c0, .ref c1]) (rest := []) C.fix (e_X10_code0 l D cy S11 H.size st c0 c1 c1b hL14 hf15 ) (va_cwA 2 C.2.2.2.2.1 (gU_U mw_198 mw_199 mw_242 mw_243 mw_175 (subU mw_244)) rfl rfl rfl (C.dcl 1 _ rfl) hdue_X1_code1wev_5 ⟨Nat.le_of_ble_eq_true rfl, Nat.le_of_ble_eq_true rfl⟩) (p_preV C hw hL16 hf17 rfl) rfl rfl hl.1 rfl (lv_room (Nat.le_of_ble_eq_true rfl)) dX1_code_55 ⟨Nat.le_of_ble_eq_true rfl, Nat.le_of_ble_eq_true rfl⟩) hw hA (fun S18 H locs hpost hw => ?_)
    have hS_ := hpost
    subst hS_
    refine lv_iinc (v := (nI 1)) (lv' := [(2, .int (nI 1)), (5, .ref c1), (4, .ref c0), (3, .ref st), (0, .ref ch), (1, .ref co)]) hx hb dX1_code_58 hl (k := 3) rfl (by decide) (by decide) rfl (fun ls hl => ?_)
    refine lv_goto (tgt := 2) hx hb dX1_code_61 (by decide) ?_
    refine lv_iload_n hx hb dX1_code_2 rfl (lv_at hl 0 rfl) ?_
    refine lv_aload_n hx hb dX1_code_3 rfl (lv_at hl 4 rfl) ?_
    have hL20 : ch ∈ S11.1 := by rw [hS13]; exact hL_ch
    have hf21 : S11.2 ch = .inr (2, [.ref lk, .int (nI 1)]) := by rw [hS13]; exact (pup_n (ne_cells hf_ch hf_c1 (by nofun))).trans hf_ch
    refine p_get C hw (ci := 2) (Cn := RX1) (T := TX1) (N := 2) hL20 hf21 rfl hin_RX1 1 (by decide) (mU mw_42) rfl rfl dX1_code_4 ?_
    refine n_icmp_ge (tgt := 64) hx hb (by first | decide | omega) (by first | decide | omega) dX1_code_7 (by decide) (fun h_7 => ?_) (fun h_7 => ?_)
    · skip
      exact (p_vret C hw (⟨(by simp only [hS13, pup, pnew, List.append_nil, List.append_assoc, List.cons_append, List.nil_append]), (fun a_ ha_ hn_0 => (show S11.2 a_ = S.2 a_ from by rw [hS13]; exact pup_n hn_0)), hf15⟩) hr hlocks dX1_code_64)
    · exact absurd h_7 (by first | decide | omega)

theorem hde_X1_decode1wev_V_0 : yX1_stageAt.cls = RX1 ∧ yX1_stageAt.cls ≠ "java/lang/invoke/MethodHandle" ∧ yX1_stageAt.cls ≠ "java/lang/invoke/VarHandle" ∧ (parseMethodDescriptor yX1_stageAt.desc).map (fun d => d.parameters.length) = some 1 := by decide +kernel
theorem hde_X1_decode1wev_V_1 : yX4_at.cls = RX4 ∧ yX4_at.cls ≠ "java/lang/invoke/MethodHandle" ∧ yX4_at.cls ≠ "java/lang/invoke/VarHandle" ∧ (parseMethodDescriptor yX4_at.desc).map (fun d => d.parameters.length) = some 1 := by decide +kernel
theorem hde_X1_decode1wev_V_2 : yX7_size.cls = RX7 ∧ yX7_size.cls ≠ "java/lang/invoke/MethodHandle" ∧ yX7_size.cls ≠ "java/lang/invoke/VarHandle" ∧ (parseMethodDescriptor yX7_size.desc).map (fun d => d.parameters.length) = some 0 := by decide +kernel
theorem hde_X1_decode1wev_V_3 : yX7_resize.cls = RX7 ∧ yX7_resize.cls ≠ "java/lang/invoke/MethodHandle" ∧ yX7_resize.cls ≠ "java/lang/invoke/VarHandle" ∧ (parseMethodDescriptor yX7_resize.desc).map (fun d => d.parameters.length) = some 1 := by decide +kernel
theorem hdue_X1_decode1wev_4 : "SoundingLine$Stage" ≠ "java/lang/invoke/MethodHandle" ∧ "SoundingLine$Stage" ≠ "java/lang/invoke/VarHandle" ∧ (parseMethodDescriptor "(LSoundingLine$Row;LSoundingLine$Row;)V").map (fun d => d.parameters.length) = some 2 := by decide +kernel
set_option maxHeartbeats 4000000 in
set_option maxRecDepth 100000 in
theorem e_X1_decode1wev (l : Launch) (D : va_G) (cy : Nat → ClassId) (S : pS) (sz : Nat) (ch : Nat) (v : Nat) (co : Nat) (lk : Nat) (st : Nat) (col : Nat) (con : Nat) (vl : Nat) (vn : Nat) (c0 : Nat) (c0b : Nat) (v0 : Nat) (v0b : Nat) (v1 : Nat) (v1b : Nat) (lq : Nat → Option Nat) (cq : Nat → Option Nat) (vq : Nat → Option Nat) (n0 : Nat) (g0 : Nat → Nat) (sa : Nat) (sb : Nat) (hL_ch : ch ∈ S.1) (hf_ch : S.2 ch = .inr (2, [.ref lk, .int (nI 1)])) (hL_lk : lk ∈ S.1) (hf_lk : S.2 lk = aQ (cy 3) 4 lq) (hL_st : st ∈ S.1) (hf_st : S.2 st = .inr (10, [.int (nI sa), .int (nI sb)])) (hL_co : co ∈ S.1) (hf_co : S.2 co = .inr (5, [.ref col, .ref con])) (hL_col : col ∈ S.1) (hf_col : S.2 col = aQ (cy 2) 5 cq) (hL_v : v ∈ S.1) (hf_v : S.2 v = .inr (5, [.ref vl, .ref vn])) (hL_vl : vl ∈ S.1) (hf_vl : S.2 vl = aQ (cy 2) 5 vq) (hL_c0 : c0 ∈ S.1) (hf_c0 : S.2 c0 = .inr (8, [.ref c0b, .int (nI 0)])) (hL_v0 : v0 ∈ S.1) (hf_v0 : S.2 v0 = .inr (8, [.ref v0b, .int (nI n0)])) (hL_v0b : v0b ∈ S.1) (hf_v0b : S.2 v0b = aN (cy 0) 32 g0) (hL_v1 : v1 ∈ S.1) (hf_v1 : S.2 v1 = .inr (8, [.ref v1b, .int (nI 0)])) (hne_v1_v0 : v1 ≠ v0) (hlq : lq 0 = some st) (hcq : cq 0 = some c0) (hvq : vq 0 = some v0) (hvq1 : vq 1 = some v1) (hsa : sa * sb < 2 ^ 31) : Met l yX1_decode (Cond.code yX1_decode cX1_decode 6 none :: lwU) ({ frames := 2, cells := 0, slots := 0, locals := 43 }) (pPc D cy S sz [.ref ch, .ref v, .ref co]) (pQv D cy S sz (fun S' => S'.1 = S.1 ++ [] ∧ (∀ a_, a_ ∈ S.1 → a_ ≠ v0 → S'.2 a_ = S.2 a_))) 0 0 (pA S sz) := by
  refine Met.ofW (cc := cX1_decode) (maxL := 6) (ret := none) (by decide) rfl ?_
  intro p e s m args below meth c s₁ B hml hv
  obtain ⟨rfl, rfl, C, hw, hA, hr, hlocks⟩ := p_start B hml hv
  have hx := C.1
  have hb := C.2.1
  have hl := lv_entry ([.ref ch, .ref v, .ref co]) (n := 6) (Nat.le_of_ble_eq_true rfl)
  rw [lg_entry_eq]
  generalize (lg_sl ([.ref ch, .ref v, .ref co]) ++ List.replicate (6 - (lg_sl ([.ref ch, .ref v, .ref co])).length) Slot.unset).toArray = ls at hl ⊢
  have hl : lv_has ls 6 [(0, .ref ch), (1, .ref v), (2, .ref co)] := hl
  have hin_RX1 : ∀ w ∈ u_ws RX1 TX1 2, w ∈ (Cond.code yX1_decode cX1_decode 6 none :: lwU) := fun w h => mU (sub_RX1 w h)
  refine lv_aload_n hx hb dX1_decode_0 rfl (lv_at hl 0 rfl) ?_
  refine p_get C hw (ci := 2) (Cn := RX1) (T := TX1) (N := 2) hL_ch hf_ch rfl hin_RX1 1 (by decide) (mU mw_42) rfl rfl dX1_decode_1 ?_
  refine lv_iconst (v := nI 1) hx hb dX1_decode_4 (by decide) ?_
  refine n_isub hx hb (by first | decide | omega) dX1_decode_5 ?_
  refine n_ren (b := 0) (by first | rfl | omega | simp) ?_
  refine lv_istore_n (lv' := [(3, .int (nI 0)), (0, .ref ch), (1, .ref v), (2, .ref co)]) hx hb dX1_decode_6 rfl hl (by decide) rfl (fun ls hl => ?_)
  refine lv_iload_n hx hb dX1_decode_7 rfl (lv_at hl 0 rfl) ?_
  refine n_if_lt (tgt := 63) hx hb (by first | decide | omega) dX1_decode_8 (by decide) ?_
  refine lv_aload_n hx hb dX1_decode_11 rfl (lv_at hl 1 rfl) ?_
  refine lv_iload_n hx hb dX1_decode_12 rfl (lv_at hl 0 rfl) ?_
  refine p_callq (va_runV (As := [.int (nI 0)]) (rest := []) C.fix (e_X1_stageAt1 l D cy S s.heap.size ch lk lq st hL_ch hf_ch hL_lk hf_lk (by first | assumption | rfl | simp [va_up])) (cwV 1 C.2.2.2.2.1 (gU_V mw_138 mw_139 mw_140 mw_16 (subU mw_141)) rfl rfl rfl hde_X1_decode1wev_V_0 ⟨Nat.le_of_ble_eq_true rfl, Nat.le_of_ble_eq_true rfl⟩) (p_preV C hw hL_ch hf_ch rfl) rfl rfl hl.1 rfl (lv_room (Nat.le_of_ble_eq_true rfl)) dX1_decode_13 ⟨Nat.le_of_ble_eq_true rfl, Nat.le_of_ble_eq_true rfl⟩) hw hA (fun r2 S1 H locs hpost hw => ?_)
  obtain ⟨hr_, hS_⟩ := hpost
  subst hr_
  subst hS_
  refine lv_astore (lv' := [(4, .ref st), (3, .int (nI 0)), (0, .ref ch), (1, .ref v), (2, .ref co)]) hx hb dX1_decode_16 hl (by decide) rfl (fun ls hl => ?_)
  refine lv_aload hx hb dX1_decode_18 (lv_at hl 0 rfl) ?_
  refine lv_ifnull hx hb dX1_decode_20 ?_
  refine lv_aload_n hx hb dX1_decode_23 rfl (lv_at hl 3 rfl) ?_
  refine lv_iload_n hx hb dX1_decode_24 rfl (lv_at hl 1 rfl) ?_
  refine p_callq (va_runV (As := [.int (nI 0)]) (rest := []) C.fix (c_X4_at l D cy S H.size v vl vn 0 v0 vq hL_v hf_v hL_vl hf_vl (by first | assumption | decide | omega) (by first | assumption | rfl | simp [va_up])) (cwV 1 C.2.2.2.2.1 (gU_V mw_195 mw_127 mw_128 mw_29 sub_X4_at) rfl rfl rfl hde_X1_decode1wev_V_1 ⟨Nat.le_of_ble_eq_true rfl, Nat.le_of_ble_eq_true rfl⟩) (p_preV C hw hL_v hf_v rfl) rfl rfl hl.1 rfl (lv_room (Nat.le_of_ble_eq_true rfl)) dX1_decode_25 ⟨Nat.le_of_ble_eq_true rfl, Nat.le_of_ble_eq_true rfl⟩) hw hA (fun r4 S3 H locs hpost hw => ?_)
  obtain ⟨hr_, hS_⟩ := hpost
  subst hr_
  subst hS_
  refine lv_astore (lv' := [(5, .ref v0), (4, .ref st), (3, .int (nI 0)), (0, .ref ch), (1, .ref v), (2, .ref co)]) hx hb dX1_decode_28 hl (by decide) rfl (fun ls hl => ?_)
  refine lv_aload hx hb dX1_decode_30 (lv_at hl 0 rfl) ?_
  refine lv_aload_n hx hb dX1_decode_32 rfl (lv_at hl 5 rfl) ?_
  refine lv_iload_n hx hb dX1_decode_33 rfl (lv_at hl 2 rfl) ?_
  refine p_callq (va_runV (As := [.int (nI 0)]) (rest := [.ref v0]) C.fix (c_X4_at l D cy S H.size co col con 0 c0 cq hL_co hf_co hL_col hf_col (by first | assumption | decide | omega) (by first | assumption | rfl | simp [va_up])) (cwV 1 C.2.2.2.2.1 (gU_V mw_195 mw_127 mw_128 mw_29 sub_X4_at) rfl rfl rfl hde_X1_decode1wev_V_1 ⟨Nat.le_of_ble_eq_true rfl, Nat.le_of_ble_eq_true rfl⟩) (p_preV C hw hL_co hf_co rfl) rfl rfl hl.1 rfl (lv_room (Nat.le_of_ble_eq_true rfl)) dX1_decode_34 ⟨Nat.le_of_ble_eq_true rfl, Nat.le_of_ble_eq_true rfl⟩) hw hA (fun r6 S5 H locs hpost hw => ?_)
  obtain ⟨hr_, hS_⟩ := hpost
  subst hr_
  subst hS_
  refine p_calli (va_runV (As := []) (rest := [.ref v0]) C.fix (c_X7_size l D cy S H.size c0 c0b 0 hL_c0 hf_c0) (cwV 0 C.2.2.2.2.1 (gU_V mw_196 mw_131 mw_132 mw_25 sub_X7_size) rfl rfl rfl hde_X1_decode1wev_V_2 ⟨Nat.le_of_ble_eq_true rfl, Nat.le_of_ble_eq_true rfl⟩) (p_preV C hw hL_c0 hf_c0 rfl) rfl rfl hl.1 rfl (lv_room (Nat.le_of_ble_eq_true rfl)) dX1_decode_37 ⟨Nat.le_of_ble_eq_true rfl, Nat.le_of_ble_eq_true rfl⟩) hw hA (fun r8 S7 H locs hpost hw => ?_)
  obtain ⟨hr_, hS_⟩ := hpost
  subst hr_
  subst hS_
  refine p_callv (va_runV (As := [.int (nI 0)]) (rest := []) C.fix (c_X7_resize l D cy S H.size v0 v0b 32 n0 0 g0 hL_v0 hf_v0 hL_v0b hf_v0b (by first | assumption | decide | omega) (by first | assumption | decide | omega)) (cwV 1 C.2.2.2.2.1 (gU_V mw_197 mw_62 mw_63 mw_25 sub_X7_resize) rfl rfl rfl hde_X1_decode1wev_V_3 ⟨Nat.le_of_ble_eq_true rfl, Nat.le_of_ble_eq_true rfl⟩) (p_preV C hw hL_v0 hf_v0 rfl) rfl rfl hl.1 rfl (lv_room (Nat.le_of_ble_eq_true rfl)) dX1_decode_40 ⟨Nat.le_of_ble_eq_true rfl, Nat.le_of_ble_eq_true rfl⟩) hw hA (fun S9 H locs hpost hw => ?_)
  have hS_ := hpost
  try rw [show min 0 32 = 0 from rfl] at hS_
  have hS11 := hS_
  have hL12 : v0 ∈ S9.1 := by rw [hS11]; exact hL_v0
  have hf13 : S9.2 v0 = .inr (8, [.ref v0b, .int (nI 0)]) := by rw [hS11]; exact pup_s
  refine lv_aload hx hb dX1_decode_43 (lv_at hl 1 rfl) ?_
  refine lv_aload_n hx hb dX1_decode_45 rfl (lv_at hl 4 rfl) ?_
  refine lv_iload_n hx hb dX1_decode_46 rfl (lv_at hl 2 rfl) ?_
  refine lv_iconst (v := nI 1) hx hb dX1_decode_47 (by decide) ?_
  refine n_iadd hx hb dX1_decode_48 ?_
  refine n_ren (b := 1) (by first | rfl | omega | simp) ?_
  have hL14 : v ∈ S9.1 := by rw [hS11]; exact hL_v
  have hf15 : S9.2 v = .inr (5, [.ref vl, .ref vn]) := by rw [hS11]; exact (pup_n (ne_cells hf_v hf_v0 (by nofun))).trans hf_v
  have hL16 : vl ∈ S9.1 := by rw [hS11]; exact hL_vl
  have hf17 : S9.2 vl = aQ (cy 2) 5 vq := by rw [hS11]; exact (pup_n (ne_cells hf_vl hf_v0 (by nofun))).trans hf_vl
  refine p_callq (va_runV (As := [.int (nI 1)]) (rest := [.ref st]) C.fix (c_X4_at l D cy S9 H.size v vl vn 1 v1 vq hL14 hf15 hL16 hf17 (by first | assumption | decide | omega) (by first | assumption | rfl | simp [va_up])) (cwV 1 C.2.2.2.2.1 (gU_V mw_195 mw_127 mw_128 mw_29 sub_X4_at) rfl rfl rfl hde_X1_decode1wev_V_1 ⟨Nat.le_of_ble_eq_true rfl, Nat.le_of_ble_eq_true rfl⟩) (p_preV C hw hL14 hf15 rfl) rfl rfl hl.1 rfl (lv_room (Nat.le_of_ble_eq_true rfl)) dX1_decode_49 ⟨Nat.le_of_ble_eq_true rfl, Nat.le_of_ble_eq_true rfl⟩) hw hA (fun r19 S18 H locs hpost hw => ?_)
  obtain ⟨hr_, hS_⟩ := hpost
  subst hr_
  subst hS_
  refine lv_aload hx hb dX1_decode_52 (lv_at hl 0 rfl) ?_
  have hL20 : st ∈ S9.1 := by rw [hS11]; exact hL_st
  have hf21 : S9.2 st = .inr (10, [.int (nI sa), .int (nI sb)]) := by rw [hS11]; exact (pup_n (ne_cells hf_st hf_v0 (by nofun))).trans hf_st
  have hL22 : v1 ∈ S9.1 := by rw [hS11]; exact hL_v1
  have hf23 : S9.2 v1 = .inr (8, [.ref v1b, .int (nI 0)]) := by rw [hS11]; exact (pup_n hne_v1_v0).trans hf_v1
  refine p_callv (va_runU (x := ⟨"SoundingLine$Stage", "decode", "(LSoundingLine$Row;LSoundingLine$Row;)V"⟩) (As := [.ref v1, .ref v0]) (rest := []) C.fix (e_X10_decode0 l D cy S9 H.size st v1 v0 v1b hL22 hf23 ) (va_cwA 2 C.2.2.2.2.1 (gU_U mw_303 mw_304 mw_382 mw_383 mw_175 (subU mw_384)) rfl rfl rfl (C.dcl 2 _ rfl) hdue_X1_decode1wev_4 ⟨Nat.le_of_ble_eq_true rfl, Nat.le_of_ble_eq_true rfl⟩) (p_preV C hw hL20 hf21 rfl) rfl rfl hl.1 rfl (lv_room (Nat.le_of_ble_eq_true rfl)) dX1_decode_54 ⟨Nat.le_of_ble_eq_true rfl, Nat.le_of_ble_eq_true rfl⟩) hw hA (fun S24 H locs hpost hw => ?_)
  have hS_ := hpost
  subst hS_
  refine lv_iinc (v := (-1)) (lv' := [(3, .int (-1)), (5, .ref v0), (4, .ref st), (0, .ref ch), (1, .ref v), (2, .ref co)]) hx hb dX1_decode_57 hl (k := 2) rfl (by decide) (by decide) rfl (fun ls hl => ?_)
  refine lv_goto (tgt := 7) hx hb dX1_decode_60 (by decide) ?_
  refine lv_iload_n hx hb dX1_decode_7 rfl (lv_at hl 0 rfl) ?_
  refine z_if_lt (tgt := 63) hx hb (show (-1 : Int32).toInt = -1 from by decide) dX1_decode_8 (by decide) (fun h_8 => ?_) (fun h_8 => ?_)
  · skip
    exact (p_vret C hw (⟨(by simp only [hS11, pup, pnew, List.append_nil, List.append_assoc, List.cons_append, List.nil_append]), (fun a_ ha_ hn_0 => (show S9.2 a_ = S.2 a_ from by rw [hS11]; exact pup_n hn_0))⟩) hr hlocks dX1_decode_63)
  · exact absurd h_8 (by first | decide | omega)

theorem hde_X11_settle1wev_V_0 : yX1_code.cls = RX1 ∧ yX1_code.cls ≠ "java/lang/invoke/MethodHandle" ∧ yX1_code.cls ≠ "java/lang/invoke/VarHandle" ∧ (parseMethodDescriptor yX1_code.desc).map (fun d => d.parameters.length) = some 1 := by decide +kernel
theorem hde_X11_settle1wev_V_1 : yX11_send.cls = RX11 ∧ yX11_send.cls ≠ "java/lang/invoke/MethodHandle" ∧ yX11_send.cls ≠ "java/lang/invoke/VarHandle" ∧ (parseMethodDescriptor yX11_send.desc).map (fun d => d.parameters.length) = some 2 := by decide +kernel
theorem hde_X11_settle1wev_V_2 : yX1_decode.cls = RX1 ∧ yX1_decode.cls ≠ "java/lang/invoke/MethodHandle" ∧ yX1_decode.cls ≠ "java/lang/invoke/VarHandle" ∧ (parseMethodDescriptor yX1_decode.desc).map (fun d => d.parameters.length) = some 2 := by decide +kernel
set_option maxHeartbeats 4000000 in
set_option maxRecDepth 100000 in
theorem e_X11_settle1wev (l : Launch) (D : va_G) (cy : Nat → ClassId) (S : pS) (sz : Nat) (x : Nat) (ch : Nat) (ln : Nat) (sl : Nat) (mk : Nat) (co : Nat) (ca : Nat) (su : Nat) (lt : Nat) (lk : Nat) (mb : Nat) (col : Nat) (con : Nat) (cor0 : Nat) (cor1 : Nat) (cor2 : Nat) (cor3 : Nat) (cor4 : Nat) (cob0 : Nat) (cob1 : Nat) (cal : Nat) (can : Nat) (car0 : Nat) (car1 : Nat) (car2 : Nat) (car3 : Nat) (car4 : Nat) (cab0 : Nat) (cab1 : Nat) (st : Nat) (lq : Nat → Option Nat) (sa : Nat) (sb : Nat) (hL_x : x ∈ S.1) (hf_x : S.2 x = .inr (11, [.ref ch, .ref ln, .ref sl, .ref mk, .ref co, .ref ca, .ref su, .ref lt])) (hL_ch : ch ∈ S.1) (hf_ch : S.2 ch = .inr (2, [.ref lk, .int (nI 1)])) (hL_lk : lk ∈ S.1) (hf_lk : S.2 lk = aQ (cy 3) 4 lq) (hL_ln : ln ∈ S.1) (hf_ln : S.2 ln = .inr (6, [.int (nI 0), .int (nI 0), .int (nI 0), .int (nI 0)])) (hL_mk : mk ∈ S.1) (hf_mk : S.2 mk = .inr (8, [.ref mb, .int (nI 320)])) (hL_mb : mb ∈ S.1) (hf_mb : S.2 mb = aN (cy 0) 320 (fun _ => 0)) (hL_co : co ∈ S.1) (hf_co : S.2 co = .inr (5, [.ref col, .ref con])) (hL_col : col ∈ S.1) (hf_col : S.2 col = aQ (cy 2) 5 (va_up (va_up (va_up (va_up (va_up (fun _ => none) 0 (some cor0)) 1 (some cor1)) 2 (some cor2)) 3 (some cor3)) 4 (some cor4))) (hL_cor0 : cor0 ∈ S.1) (hf_cor0 : S.2 cor0 = .inr (8, [.ref cob0, .int (nI 0)])) (hL_cor1 : cor1 ∈ S.1) (hf_cor1 : S.2 cor1 = .inr (8, [.ref cob1, .int (nI 0)])) (hL_cob1 : cob1 ∈ S.1) (hf_cob1 : S.2 cob1 = aN (cy 0) 320 (fun _ => 0)) (hL_ca : ca ∈ S.1) (hf_ca : S.2 ca = .inr (5, [.ref cal, .ref can])) (hL_cal : cal ∈ S.1) (hf_cal : S.2 cal = aQ (cy 2) 5 (va_up (va_up (va_up (va_up (va_up (fun _ => none) 0 (some car0)) 1 (some car1)) 2 (some car2)) 3 (some car3)) 4 (some car4))) (hL_car0 : car0 ∈ S.1) (hf_car0 : S.2 car0 = .inr (8, [.ref cab0, .int (nI 0)])) (hL_cab0 : cab0 ∈ S.1) (hf_cab0 : S.2 cab0 = aN (cy 0) 32 (fun _ => 0)) (hL_car1 : car1 ∈ S.1) (hf_car1 : S.2 car1 = .inr (8, [.ref cab1, .int (nI 0)])) (hL_cab1 : cab1 ∈ S.1) (hf_cab1 : S.2 cab1 = aN (cy 0) 320 (fun _ => 0)) (hL_st : st ∈ S.1) (hf_st : S.2 st = .inr (10, [.int (nI sa), .int (nI sb)])) (hne_mk_cor1 : mk ≠ cor1) (hne_car1_cor1 : car1 ≠ cor1) (hne_cob1_cab1 : cob1 ≠ cab1) (hne_mk_car1 : mk ≠ car1) (hne_mb_cab1 : mb ≠ cab1) (hne_cor0_cor1 : cor0 ≠ cor1) (hne_cor0_car1 : cor0 ≠ car1) (hne_car0_cor1 : car0 ≠ cor1) (hne_car0_car1 : car0 ≠ car1) (hne_cab0_cab1 : cab0 ≠ cab1) (hlq : lq 0 = some st) (hsa : sa * sb < 2 ^ 31) : Met l yX11_settle (Cond.code yX11_settle cX11_settle 1 none :: lwU) ({ frames := 5, cells := 0, slots := 0, locals := 111 }) (pPc D cy S sz [.ref x]) (pQv D cy S sz (fun S' => S'.1 = S.1 ++ [] ∧ (∀ a_, a_ ∈ S.1 → a_ ≠ cor1 → a_ ≠ car1 → a_ ≠ cab1 → a_ ≠ car0 → S'.2 a_ = S.2 a_) ∧ S'.2 cor1 = .inr (8, [.ref cob1, .int (nI 0)]))) 0 0 (pA S sz) := by
  refine Met.ofW (cc := cX11_settle) (maxL := 1) (ret := none) (by decide) rfl ?_
  intro p e s m args below meth c s₁ B hml hv
  obtain ⟨rfl, rfl, C, hw, hA, hr, hlocks⟩ := p_start B hml hv
  have hx := C.1
  have hb := C.2.1
  have hl := lv_entry ([.ref x]) (n := 1) (Nat.le_of_ble_eq_true rfl)
  rw [lg_entry_eq]
  generalize (lg_sl ([.ref x]) ++ List.replicate (1 - (lg_sl ([.ref x])).length) Slot.unset).toArray = ls at hl ⊢
  have hl : lv_has ls 1 [(0, .ref x)] := hl
  have hin_RX11 : ∀ w ∈ u_ws RX11 TX11 8, w ∈ (Cond.code yX11_settle cX11_settle 1 none :: lwU) := fun w h => mU (sub_RX11 w h)
  refine lv_aload_n hx hb dX11_settle_0 rfl (lv_at hl 0 rfl) ?_
  refine p_get C hw (ci := 11) (Cn := RX11) (T := TX11) (N := 8) hL_x hf_x rfl hin_RX11 0 (by decide) (mU mw_17) rfl rfl dX11_settle_1 ?_
  refine lv_aload_n hx hb dX11_settle_4 rfl (lv_at hl 0 rfl) ?_
  refine p_get C hw (ci := 11) (Cn := RX11) (T := TX11) (N := 8) hL_x hf_x rfl hin_RX11 4 (by decide) (mU mw_30) rfl rfl dX11_settle_5 ?_
  refine p_callv (va_runV (As := [.ref co]) (rest := []) C.fix (e_X1_code1wev l D cy S s.heap.size ch co lk st col con cor0 cob0 cor1 cob1 lq (va_up (va_up (va_up (va_up (va_up (fun _ => none) 0 (some cor0)) 1 (some cor1)) 2 (some cor2)) 3 (some cor3)) 4 (some cor4)) 0 (fun _ => 0) sa sb hL_ch hf_ch hL_lk hf_lk hL_st hf_st hL_co hf_co hL_col hf_col hL_cor0 hf_cor0 hL_cor1 hf_cor1 hL_cob1 hf_cob1 (by first | assumption | rfl | simp [va_up]) (by first | assumption | rfl | simp [va_up]) (by first | assumption | rfl | simp [va_up]) (by first | assumption | decide | omega)) (cwV 1 C.2.2.2.2.1 (gU_V mw_191 mw_192 mw_193 mw_16 (subU mw_194)) rfl rfl rfl hde_X11_settle1wev_V_0 ⟨Nat.le_of_ble_eq_true rfl, Nat.le_of_ble_eq_true rfl⟩) (p_preV C hw hL_ch hf_ch rfl) rfl rfl hl.1 rfl (lv_room (Nat.le_of_ble_eq_true rfl)) dX11_settle_8 ⟨Nat.le_of_ble_eq_true rfl, Nat.le_of_ble_eq_true rfl⟩) hw hA (fun S1 H locs hpost hw => ?_)
  obtain ⟨hS3, hfr4, hf5⟩ := hpost
  have hL6 : cor1 ∈ S1.1 := by rw [hS3]; exact List.mem_append_left _ hL_cor1
  refine lv_aload_n hx hb dX11_settle_11 rfl (lv_at hl 0 rfl) ?_
  refine lv_aload_n hx hb dX11_settle_12 rfl (lv_at hl 0 rfl) ?_
  have hL7 : x ∈ S1.1 := by rw [hS3]; exact List.mem_append_left _ hL_x
  have hf8 : S1.2 x = .inr (11, [.ref ch, .ref ln, .ref sl, .ref mk, .ref co, .ref ca, .ref su, .ref lt]) := (hfr4 x hL_x (ne_cells hf_x hf_cor1 (by nofun))).trans hf_x
  refine p_get C hw (ci := 11) (Cn := RX11) (T := TX11) (N := 8) hL7 hf8 rfl hin_RX11 1 (by decide) (mU mw_21) rfl rfl dX11_settle_13 ?_
  refine lv_aload_n hx hb dX11_settle_16 rfl (lv_at hl 0 rfl) ?_
  refine p_get C hw (ci := 11) (Cn := RX11) (T := TX11) (N := 8) hL7 hf8 rfl hin_RX11 5 (by decide) (mU mw_31) rfl rfl dX11_settle_17 ?_
  have hL9 : ch ∈ S1.1 := by rw [hS3]; exact List.mem_append_left _ hL_ch
  have hf10 : S1.2 ch = .inr (2, [.ref lk, .int (nI 1)]) := (hfr4 ch hL_ch (ne_cells hf_ch hf_cor1 (by nofun))).trans hf_ch
  have hL11 : mk ∈ S1.1 := by rw [hS3]; exact List.mem_append_left _ hL_mk
  have hf12 : S1.2 mk = .inr (8, [.ref mb, .int (nI 320)]) := (hfr4 mk hL_mk hne_mk_cor1).trans hf_mk
  have hL13 : mb ∈ S1.1 := by rw [hS3]; exact List.mem_append_left _ hL_mb
  have hf14 : S1.2 mb = aN (cy 0) 320 (fun _ => 0) := (hfr4 mb hL_mb (ne_cells hf_mb hf_cor1 (by nofun))).trans hf_mb
  have hL15 : ln ∈ S1.1 := by rw [hS3]; exact List.mem_append_left _ hL_ln
  have hf16 : S1.2 ln = .inr (6, [.int (nI 0), .int (nI 0), .int (nI 0), .int (nI 0)]) := (hfr4 ln hL_ln (ne_cells hf_ln hf_cor1 (by nofun))).trans hf_ln
  have hL17 : co ∈ S1.1 := by rw [hS3]; exact List.mem_append_left _ hL_co
  have hf18 : S1.2 co = .inr (5, [.ref col, .ref con]) := (hfr4 co hL_co (ne_cells hf_co hf_cor1 (by nofun))).trans hf_co
  have hL19 : col ∈ S1.1 := by rw [hS3]; exact List.mem_append_left _ hL_col
  have hf20 : S1.2 col = aQ (cy 2) 5 (va_up (va_up (va_up (va_up (va_up (fun _ => none) 0 (some cor0)) 1 (some cor1)) 2 (some cor2)) 3 (some cor3)) 4 (some cor4)) := (hfr4 col hL_col (ne_cells hf_col hf_cor1 (by nofun))).trans hf_col
  have hL21 : ca ∈ S1.1 := by rw [hS3]; exact List.mem_append_left _ hL_ca
  have hf22 : S1.2 ca = .inr (5, [.ref cal, .ref can]) := (hfr4 ca hL_ca (ne_cells hf_ca hf_cor1 (by nofun))).trans hf_ca
  have hL23 : cal ∈ S1.1 := by rw [hS3]; exact List.mem_append_left _ hL_cal
  have hf24 : S1.2 cal = aQ (cy 2) 5 (va_up (va_up (va_up (va_up (va_up (fun _ => none) 0 (some car0)) 1 (some car1)) 2 (some car2)) 3 (some car3)) 4 (some car4)) := (hfr4 cal hL_cal (ne_cells hf_cal hf_cor1 (by nofun))).trans hf_cal
  have hL25 : cob1 ∈ S1.1 := by rw [hS3]; exact List.mem_append_left _ hL_cob1
  have hf26 : S1.2 cob1 = aN (cy 0) 320 (fun _ => 0) := (hfr4 cob1 hL_cob1 (ne_cells hf_cob1 hf_cor1 (by nofun))).trans hf_cob1
  have hL27 : car1 ∈ S1.1 := by rw [hS3]; exact List.mem_append_left _ hL_car1
  have hf28 : S1.2 car1 = .inr (8, [.ref cab1, .int (nI 0)]) := (hfr4 car1 hL_car1 hne_car1_cor1).trans hf_car1
  have hL29 : cab1 ∈ S1.1 := by rw [hS3]; exact List.mem_append_left _ hL_cab1
  have hf30 : S1.2 cab1 = aN (cy 0) 320 (fun _ => 0) := (hfr4 cab1 hL_cab1 (ne_cells hf_cab1 hf_cor1 (by nofun))).trans hf_cab1
  refine p_callv (va_runV (As := [.ref ln, .ref ca]) (rest := []) C.fix (e_X11_send1 l D cy S1 H.size x ln ca ch ln sl mk co ca su lt lk mb col con cal can cor1 cob1 car1 cab1 (va_up (va_up (va_up (va_up (va_up (fun _ => none) 0 (some cor0)) 1 (some cor1)) 2 (some cor2)) 3 (some cor3)) 4 (some cor4)) (va_up (va_up (va_up (va_up (va_up (fun _ => none) 0 (some car0)) 1 (some car1)) 2 (some car2)) 3 (some car3)) 4 (some car4)) (fun _ => 0) (fun _ => 0) (fun _ => 0) 0 0 (nI 0) (nI 0) (nI 0) 0 0 0 hL7 hf8 hL9 hf10 hL11 hf12 hL13 hf14 hL15 hf16 hL17 hf18 hL19 hf20 hL21 hf22 hL23 hf24 hL6 hf5 hL25 hf26 hL27 hf28 hL29 hf30 hne_cob1_cab1 (Ne.symm hne_car1_cor1) hne_mk_car1 hne_mb_cab1 (by first | assumption | rfl | simp [va_up]) (by first | assumption | rfl | simp [va_up]) (by first | assumption | exact (fun _ => Nat.zero_le 2) | exact rnum_le (fun _ => Nat.zero_le 2) | exact rcop_le (by first | assumption | exact (fun _ => Nat.zero_le 2)) (by first | assumption | exact (fun _ => Nat.zero_le 2)) | exact rharm_le (rcop_le (by first | assumption | exact (fun _ => Nat.zero_le 2)) (by first | assumption | exact (fun _ => Nat.zero_le 2))) | exact rturn_le (fun _ => Nat.zero_le 2)) (by first | assumption | exact (fun _ => Nat.zero_le 2) | exact rnum_le (fun _ => Nat.zero_le 2) | exact rcop_le (by first | assumption | exact (fun _ => Nat.zero_le 2)) (by first | assumption | exact (fun _ => Nat.zero_le 2)) | exact rharm_le (rcop_le (by first | assumption | exact (fun _ => Nat.zero_le 2)) (by first | assumption | exact (fun _ => Nat.zero_le 2))) | exact rturn_le (fun _ => Nat.zero_le 2)) (by first | assumption | exact (fun _ => Nat.zero_le 2) | exact rnum_le (fun _ => Nat.zero_le 2) | exact rcop_le (by first | assumption | exact (fun _ => Nat.zero_le 2)) (by first | assumption | exact (fun _ => Nat.zero_le 2)) | exact rharm_le (rcop_le (by first | assumption | exact (fun _ => Nat.zero_le 2)) (by first | assumption | exact (fun _ => Nat.zero_le 2))) | exact rturn_le (fun _ => Nat.zero_le 2)) (by first | assumption | decide | omega) (by first | assumption | decide | omega) (by first | assumption | decide | omega) (by first | assumption | decide | omega) (by first | assumption | decide | omega) (by first | assumption | (intro h; exact absurd h (by decide)) | (intro h; exact absurd h (by omega))) (by first | assumption | (intro h; exact absurd h (by decide)) | (intro h; exact absurd h (by omega)))) (cwV 2 C.2.2.2.2.1 (gU_V mw_252 mw_253 mw_254 mw_2 (subU mw_255)) rfl rfl rfl hde_X11_settle1wev_V_1 ⟨Nat.le_of_ble_eq_true rfl, Nat.le_of_ble_eq_true rfl⟩) (p_preV C hw hL7 hf8 rfl) rfl rfl hl.1 rfl (lv_room (Nat.le_of_ble_eq_true rfl)) dX11_settle_20 ⟨Nat.le_of_ble_eq_true rfl, Nat.le_of_ble_eq_true rfl⟩) hw hA (fun S31 H locs hpost hw => ?_)
  obtain ⟨wg33, hc34, hS35, hfr36, hf37, hf38⟩ := hpost
  have hL39 : car1 ∈ S31.1 := by rw [hS35]; exact List.mem_append_left _ hL27
  have hL40 : cab1 ∈ S31.1 := by rw [hS35]; exact List.mem_append_left _ hL29
  refine lv_aload_n hx hb dX11_settle_23 rfl (lv_at hl 0 rfl) ?_
  have hL41 : x ∈ S31.1 := by rw [hS35]; exact List.mem_append_left _ hL7
  have hf42 : S31.2 x = .inr (11, [.ref ch, .ref ln, .ref sl, .ref mk, .ref co, .ref ca, .ref su, .ref lt]) := (hfr36 x hL7 (ne_cells hf8 hf28 (by nofun)) (ne_cells hf8 hf30 (by nofun))).trans hf8
  refine p_get C hw (ci := 11) (Cn := RX11) (T := TX11) (N := 8) hL41 hf42 rfl hin_RX11 0 (by decide) (mU mw_17) rfl rfl dX11_settle_24 ?_
  refine lv_aload_n hx hb dX11_settle_27 rfl (lv_at hl 0 rfl) ?_
  refine p_get C hw (ci := 11) (Cn := RX11) (T := TX11) (N := 8) hL41 hf42 rfl hin_RX11 5 (by decide) (mU mw_31) rfl rfl dX11_settle_28 ?_
  refine lv_aload_n hx hb dX11_settle_31 rfl (lv_at hl 0 rfl) ?_
  refine p_get C hw (ci := 11) (Cn := RX11) (T := TX11) (N := 8) hL41 hf42 rfl hin_RX11 4 (by decide) (mU mw_30) rfl rfl dX11_settle_32 ?_
  have hL43 : ch ∈ S31.1 := by rw [hS35]; exact List.mem_append_left _ hL9
  have hf44 : S31.2 ch = .inr (2, [.ref lk, .int (nI 1)]) := (hfr36 ch hL9 (ne_cells hf10 hf28 (by nofun)) (ne_cells hf10 hf30 (by nofun))).trans hf10
  have hL45 : lk ∈ S1.1 := by rw [hS3]; exact List.mem_append_left _ hL_lk
  have hf46 : S1.2 lk = aQ (cy 3) 4 lq := (hfr4 lk hL_lk (ne_cells hf_lk hf_cor1 (by nofun))).trans hf_lk
  have hL47 : lk ∈ S31.1 := by rw [hS35]; exact List.mem_append_left _ hL45
  have hf48 : S31.2 lk = aQ (cy 3) 4 lq := (hfr36 lk hL45 (ne_cells hf46 hf28 (by nofun)) (ne_cells hf46 hf30 ne_QN)).trans hf46
  have hL49 : st ∈ S1.1 := by rw [hS3]; exact List.mem_append_left _ hL_st
  have hf50 : S1.2 st = .inr (10, [.int (nI sa), .int (nI sb)]) := (hfr4 st hL_st (ne_cells hf_st hf_cor1 (by nofun))).trans hf_st
  have hL51 : st ∈ S31.1 := by rw [hS35]; exact List.mem_append_left _ hL49
  have hf52 : S31.2 st = .inr (10, [.int (nI sa), .int (nI sb)]) := (hfr36 st hL49 (ne_cells hf50 hf28 (by nofun)) (ne_cells hf50 hf30 (by nofun))).trans hf50
  have hL53 : co ∈ S31.1 := by rw [hS35]; exact List.mem_append_left _ hL17
  have hf54 : S31.2 co = .inr (5, [.ref col, .ref con]) := (hfr36 co hL17 (ne_cells hf18 hf28 (by nofun)) (ne_cells hf18 hf30 (by nofun))).trans hf18
  have hL55 : col ∈ S31.1 := by rw [hS35]; exact List.mem_append_left _ hL19
  have hf56 : S31.2 col = aQ (cy 2) 5 (va_up (va_up (va_up (va_up (va_up (fun _ => none) 0 (some cor0)) 1 (some cor1)) 2 (some cor2)) 3 (some cor3)) 4 (some cor4)) := (hfr36 col hL19 (ne_cells hf20 hf28 (by nofun)) (ne_cells hf20 hf30 ne_QN)).trans hf20
  have hL57 : ca ∈ S31.1 := by rw [hS35]; exact List.mem_append_left _ hL21
  have hf58 : S31.2 ca = .inr (5, [.ref cal, .ref can]) := (hfr36 ca hL21 (ne_cells hf22 hf28 (by nofun)) (ne_cells hf22 hf30 (by nofun))).trans hf22
  have hL59 : cal ∈ S31.1 := by rw [hS35]; exact List.mem_append_left _ hL23
  have hf60 : S31.2 cal = aQ (cy 2) 5 (va_up (va_up (va_up (va_up (va_up (fun _ => none) 0 (some car0)) 1 (some car1)) 2 (some car2)) 3 (some car3)) 4 (some car4)) := (hfr36 cal hL23 (ne_cells hf24 hf28 (by nofun)) (ne_cells hf24 hf30 ne_QN)).trans hf24
  have hL61 : cor0 ∈ S1.1 := by rw [hS3]; exact List.mem_append_left _ hL_cor0
  have hf62 : S1.2 cor0 = .inr (8, [.ref cob0, .int (nI 0)]) := (hfr4 cor0 hL_cor0 hne_cor0_cor1).trans hf_cor0
  have hL63 : cor0 ∈ S31.1 := by rw [hS35]; exact List.mem_append_left _ hL61
  have hf64 : S31.2 cor0 = .inr (8, [.ref cob0, .int (nI 0)]) := (hfr36 cor0 hL61 hne_cor0_car1 (ne_cells hf62 hf30 (by nofun))).trans hf62
  have hL65 : car0 ∈ S1.1 := by rw [hS3]; exact List.mem_append_left _ hL_car0
  have hf66 : S1.2 car0 = .inr (8, [.ref cab0, .int (nI 0)]) := (hfr4 car0 hL_car0 hne_car0_cor1).trans hf_car0
  have hL67 : car0 ∈ S31.1 := by rw [hS35]; exact List.mem_append_left _ hL65
  have hf68 : S31.2 car0 = .inr (8, [.ref cab0, .int (nI 0)]) := (hfr36 car0 hL65 hne_car0_car1 (ne_cells hf66 hf30 (by nofun))).trans hf66
  have hL69 : cab0 ∈ S1.1 := by rw [hS3]; exact List.mem_append_left _ hL_cab0
  have hf70 : S1.2 cab0 = aN (cy 0) 32 (fun _ => 0) := (hfr4 cab0 hL_cab0 (ne_cells hf_cab0 hf_cor1 (by nofun))).trans hf_cab0
  have hL71 : cab0 ∈ S31.1 := by rw [hS35]; exact List.mem_append_left _ hL69
  have hf72 : S31.2 cab0 = aN (cy 0) 32 (fun _ => 0) := (hfr36 cab0 hL69 (ne_cells hf70 hf28 (by nofun)) hne_cab0_cab1).trans hf70
  refine p_callv (va_runV (As := [.ref ca, .ref co]) (rest := []) C.fix (e_X1_decode1wev l D cy S31 H.size ch ca co lk st col con cal can cor0 cob0 car0 cab0 car1 cab1 lq (va_up (va_up (va_up (va_up (va_up (fun _ => none) 0 (some cor0)) 1 (some cor1)) 2 (some cor2)) 3 (some cor3)) 4 (some cor4)) (va_up (va_up (va_up (va_up (va_up (fun _ => none) 0 (some car0)) 1 (some car1)) 2 (some car2)) 3 (some car3)) 4 (some car4)) 0 (fun _ => 0) sa sb hL43 hf44 hL47 hf48 hL51 hf52 hL53 hf54 hL55 hf56 hL57 hf58 hL59 hf60 hL63 hf64 hL67 hf68 hL71 hf72 hL39 hf37 (Ne.symm hne_car0_car1) (by first | assumption | rfl | simp [va_up]) (by first | assumption | rfl | simp [va_up]) (by first | assumption | rfl | simp [va_up]) (by first | assumption | rfl | simp [va_up]) (by first | assumption | decide | omega)) (cwV 2 C.2.2.2.2.1 (gU_V mw_299 mw_300 mw_301 mw_16 (subU mw_302)) rfl rfl rfl hde_X11_settle1wev_V_2 ⟨Nat.le_of_ble_eq_true rfl, Nat.le_of_ble_eq_true rfl⟩) (p_preV C hw hL43 hf44 rfl) rfl rfl hl.1 rfl (lv_room (Nat.le_of_ble_eq_true rfl)) dX11_settle_35 ⟨Nat.le_of_ble_eq_true rfl, Nat.le_of_ble_eq_true rfl⟩) hw hA (fun S73 H locs hpost hw => ?_)
  obtain ⟨hS75, hfr76⟩ := hpost
  have hL77 : cor1 ∈ S31.1 := by rw [hS35]; exact List.mem_append_left _ hL6
  have hf78 : S31.2 cor1 = .inr (8, [.ref cob1, .int (nI 0)]) := (hfr36 cor1 hL6 (Ne.symm hne_car1_cor1) (ne_cells hf5 hf30 (by nofun))).trans hf5
  have hL79 : cor1 ∈ S73.1 := by rw [hS75]; exact List.mem_append_left _ hL77
  have hf80 : S73.2 cor1 = .inr (8, [.ref cob1, .int (nI 0)]) := (hfr76 cor1 hL77 (Ne.symm hne_car0_cor1)).trans hf78
  exact (p_vret C hw (⟨(by simp only [hS75, hS35, hS3, pup, pnew, List.append_nil, List.append_assoc, List.cons_append, List.nil_append]), (fun a_ ha_ hn_0 hn_1 hn_2 hn_3 => ((hfr76 a_ (show a_ ∈ S31.1 from by rw [hS35]; exact List.mem_append_left _ (show a_ ∈ S1.1 from by rw [hS3]; exact List.mem_append_left _ ha_)) hn_3).trans ((hfr36 a_ (show a_ ∈ S1.1 from by rw [hS3]; exact List.mem_append_left _ ha_) hn_1 hn_2).trans (hfr4 a_ ha_ hn_0)))), hf80⟩) hr hlocks dX11_settle_38)

theorem hde_X11_putBehindwev_V_0 : yX1_count.cls = RX1 ∧ yX1_count.cls ≠ "java/lang/invoke/MethodHandle" ∧ yX1_count.cls ≠ "java/lang/invoke/VarHandle" ∧ (parseMethodDescriptor yX1_count.desc).map (fun d => d.parameters.length) = some 0 := by decide +kernel
theorem hde_X11_putBehindwev_V_1 : yX11_last.cls = RX11 ∧ yX11_last.cls ≠ "java/lang/invoke/MethodHandle" ∧ yX11_last.cls ≠ "java/lang/invoke/VarHandle" ∧ (parseMethodDescriptor yX11_last.desc).map (fun d => d.parameters.length) = some 1 := by decide +kernel
theorem hde_X11_putBehindwev_V_2 : yX7_size.cls = RX7 ∧ yX7_size.cls ≠ "java/lang/invoke/MethodHandle" ∧ yX7_size.cls ≠ "java/lang/invoke/VarHandle" ∧ (parseMethodDescriptor yX7_size.desc).map (fun d => d.parameters.length) = some 0 := by decide +kernel
theorem hdue_X11_putBehindwev_3 : "SoundingLine$Stage" ≠ "java/lang/invoke/MethodHandle" ∧ "SoundingLine$Stage" ≠ "java/lang/invoke/VarHandle" ∧ (parseMethodDescriptor "(I)I").map (fun d => d.parameters.length) = some 1 := by decide +kernel
theorem hde_X11_putBehindwev_V_4 : yX1_append.cls = RX1 ∧ yX1_append.cls ≠ "java/lang/invoke/MethodHandle" ∧ yX1_append.cls ≠ "java/lang/invoke/VarHandle" ∧ (parseMethodDescriptor yX1_append.desc).map (fun d => d.parameters.length) = some 1 := by decide +kernel
theorem hde_X11_putBehindwev_V_5 : yX11_settle.cls = RX11 ∧ yX11_settle.cls ≠ "java/lang/invoke/MethodHandle" ∧ yX11_settle.cls ≠ "java/lang/invoke/VarHandle" ∧ (parseMethodDescriptor yX11_settle.desc).map (fun d => d.parameters.length) = some 0 := by decide +kernel
set_option maxHeartbeats 4000000 in
set_option maxRecDepth 100000 in
theorem e_X11_putBehindwev (l : Launch) (D : va_G) (cy : Nat → ClassId) (S : pS) (sz : Nat) (x : Nat) (st : Nat) (ch : Nat) (ln : Nat) (sl : Nat) (mk : Nat) (co : Nat) (ca : Nat) (su : Nat) (lt : Nat) (lk : Nat) (mb : Nat) (col : Nat) (con : Nat) (cor0 : Nat) (cor1 : Nat) (cor2 : Nat) (cor3 : Nat) (cor4 : Nat) (cob0 : Nat) (cob1 : Nat) (cal : Nat) (can : Nat) (car0 : Nat) (car1 : Nat) (car2 : Nat) (car3 : Nat) (car4 : Nat) (cab0 : Nat) (cab1 : Nat) (sa : Nat) (sb : Nat) (hL_x : x ∈ S.1) (hf_x : S.2 x = .inr (11, [.ref ch, .ref ln, .ref sl, .ref mk, .ref co, .ref ca, .ref su, .ref lt])) (hL_ch : ch ∈ S.1) (hf_ch : S.2 ch = .inr (2, [.ref lk, .int (nI 0)])) (hL_lk : lk ∈ S.1) (hf_lk : S.2 lk = aQ (cy 3) 4 (fun _ => none)) (hL_ln : ln ∈ S.1) (hf_ln : S.2 ln = .inr (6, [.int (nI 0), .int (nI 0), .int (nI 0), .int (nI 0)])) (hL_mk : mk ∈ S.1) (hf_mk : S.2 mk = .inr (8, [.ref mb, .int (nI 320)])) (hL_mb : mb ∈ S.1) (hf_mb : S.2 mb = aN (cy 0) 320 (fun _ => 0)) (hL_co : co ∈ S.1) (hf_co : S.2 co = .inr (5, [.ref col, .ref con])) (hL_col : col ∈ S.1) (hf_col : S.2 col = aQ (cy 2) 5 (va_up (va_up (va_up (va_up (va_up (fun _ => none) 0 (some cor0)) 1 (some cor1)) 2 (some cor2)) 3 (some cor3)) 4 (some cor4))) (hL_cor0 : cor0 ∈ S.1) (hf_cor0 : S.2 cor0 = .inr (8, [.ref cob0, .int (nI 0)])) (hL_cor1 : cor1 ∈ S.1) (hf_cor1 : S.2 cor1 = .inr (8, [.ref cob1, .int (nI 0)])) (hL_cob1 : cob1 ∈ S.1) (hf_cob1 : S.2 cob1 = aN (cy 0) 320 (fun _ => 0)) (hL_ca : ca ∈ S.1) (hf_ca : S.2 ca = .inr (5, [.ref cal, .ref can])) (hL_cal : cal ∈ S.1) (hf_cal : S.2 cal = aQ (cy 2) 5 (va_up (va_up (va_up (va_up (va_up (fun _ => none) 0 (some car0)) 1 (some car1)) 2 (some car2)) 3 (some car3)) 4 (some car4))) (hL_car0 : car0 ∈ S.1) (hf_car0 : S.2 car0 = .inr (8, [.ref cab0, .int (nI 0)])) (hL_cab0 : cab0 ∈ S.1) (hf_cab0 : S.2 cab0 = aN (cy 0) 32 (fun _ => 0)) (hL_car1 : car1 ∈ S.1) (hf_car1 : S.2 car1 = .inr (8, [.ref cab1, .int (nI 0)])) (hL_cab1 : cab1 ∈ S.1) (hf_cab1 : S.2 cab1 = aN (cy 0) 320 (fun _ => 0)) (hL_st : st ∈ S.1) (hf_st : S.2 st = .inr (10, [.int (nI sa), .int (nI sb)])) (hne_col_lk : col ≠ lk) (hne_cal_lk : cal ≠ lk) (hne_mk_cor1 : mk ≠ cor1) (hne_car1_cor1 : car1 ≠ cor1) (hne_cob1_cab1 : cob1 ≠ cab1) (hne_mk_car1 : mk ≠ car1) (hne_mb_cab1 : mb ≠ cab1) (hne_cor0_cor1 : cor0 ≠ cor1) (hne_cor0_car1 : cor0 ≠ car1) (hne_car0_cor1 : car0 ≠ cor1) (hne_car0_car1 : car0 ≠ car1) (hne_cab0_cab1 : cab0 ≠ cab1) (hsa : sa * sb < 2 ^ 31) : Met l yX11_putBehind (Cond.code yX11_putBehind cX11_putBehind 2 (some .int) :: lwU) ({ frames := 6, cells := 0, slots := 0, locals := 131 }) (pPc D cy S sz [.ref x, .ref st]) (pQi D cy S sz (fun r S' => r = (nI 0) ∧ S'.1 = S.1 ++ [] ∧ (∀ a_, a_ ∈ S.1 → a_ ≠ lk → a_ ≠ ch → a_ ≠ cor1 → a_ ≠ car1 → a_ ≠ cab1 → a_ ≠ car0 → S'.2 a_ = S.2 a_))) 0 0 (pA S sz) := by
  refine Met.ofW (cc := cX11_putBehind) (maxL := 2) (ret := (some .int)) (by decide) rfl ?_
  intro p e s m args below meth c s₁ B hml hv
  obtain ⟨rfl, rfl, C, hw, hA, hr, hlocks⟩ := p_start B hml hv
  have hx := C.1
  have hb := C.2.1
  have hl := lv_entry ([.ref x, .ref st]) (n := 2) (Nat.le_of_ble_eq_true rfl)
  rw [lg_entry_eq]
  generalize (lg_sl ([.ref x, .ref st]) ++ List.replicate (2 - (lg_sl ([.ref x, .ref st])).length) Slot.unset).toArray = ls at hl ⊢
  have hl : lv_has ls 2 [(0, .ref x), (1, .ref st)] := hl
  have hin_RX11 : ∀ w ∈ u_ws RX11 TX11 8, w ∈ (Cond.code yX11_putBehind cX11_putBehind 2 (some .int) :: lwU) := fun w h => mU (sub_RX11 w h)
  refine lv_aload_n hx hb dX11_putBehind_0 rfl (lv_at hl 0 rfl) ?_
  refine p_get C hw (ci := 11) (Cn := RX11) (T := TX11) (N := 8) hL_x hf_x rfl hin_RX11 0 (by decide) (mU mw_17) rfl rfl dX11_putBehind_1 ?_
  refine p_calli (va_runV (As := []) (rest := []) C.fix (c_X1_count l D cy S s.heap.size ch lk 0 hL_ch hf_ch) (cwV 0 C.2.2.2.2.1 (gU_V mw_260 mw_261 mw_262 mw_16 sub_X1_count) rfl rfl rfl hde_X11_putBehindwev_V_0 ⟨Nat.le_of_ble_eq_true rfl, Nat.le_of_ble_eq_true rfl⟩) (p_preV C hw hL_ch hf_ch rfl) rfl rfl hl.1 rfl (lv_room (Nat.le_of_ble_eq_true rfl)) dX11_putBehind_4 ⟨Nat.le_of_ble_eq_true rfl, Nat.le_of_ble_eq_true rfl⟩) hw hA (fun r2 S1 H locs hpost hw => ?_)
  obtain ⟨hr_, hS_⟩ := hpost
  subst hr_
  subst hS_
  refine lv_iconst (v := nI 4) hx hb dX11_putBehind_7 (by decide) ?_
  refine n_icmp_lt (tgt := 22) hx hb (by first | decide | omega) (by first | decide | omega) dX11_putBehind_8 (by decide) (fun h_8 => ?_) (fun h_8 => ?_)
  · skip
    refine lv_aload_n hx hb dX11_putBehind_22 rfl (lv_at hl 1 rfl) ?_
    refine lv_aload_n hx hb dX11_putBehind_23 rfl (lv_at hl 0 rfl) ?_
    refine lv_aload_n hx hb dX11_putBehind_24 rfl (lv_at hl 0 rfl) ?_
    refine p_get C hw (ci := 11) (Cn := RX11) (T := TX11) (N := 8) hL_x hf_x rfl hin_RX11 4 (by decide) (mU mw_30) rfl rfl dX11_putBehind_25 ?_
    refine p_callq (va_runV (As := [.ref co]) (rest := [.ref st]) C.fix (e_X11_last0 l D cy S H.size x co ch ln sl mk co ca su lt lk col con (va_up (va_up (va_up (va_up (va_up (fun _ => none) 0 (some cor0)) 1 (some cor1)) 2 (some cor2)) 3 (some cor3)) 4 (some cor4)) cor0 hL_x hf_x hL_ch hf_ch hL_co hf_co hL_col hf_col (by first | assumption | rfl | simp [va_up])) (cwV 1 C.2.2.2.2.1 (gU_V mw_256 mw_257 mw_258 mw_2 (subU mw_259)) rfl rfl rfl hde_X11_putBehindwev_V_1 ⟨Nat.le_of_ble_eq_true rfl, Nat.le_of_ble_eq_true rfl⟩) (p_preV C hw hL_x hf_x rfl) rfl rfl hl.1 rfl (lv_room (Nat.le_of_ble_eq_true rfl)) dX11_putBehind_28 ⟨Nat.le_of_ble_eq_true rfl, Nat.le_of_ble_eq_true rfl⟩) hw hA (fun r4 S3 H locs hpost hw => ?_)
    obtain ⟨hr_, hS_⟩ := hpost
    subst hr_
    subst hS_
    refine p_calli (va_runV (As := []) (rest := [.ref st]) C.fix (c_X7_size l D cy S H.size cor0 cob0 0 hL_cor0 hf_cor0) (cwV 0 C.2.2.2.2.1 (gU_V mw_130 mw_131 mw_132 mw_25 sub_X7_size) rfl rfl rfl hde_X11_putBehindwev_V_2 ⟨Nat.le_of_ble_eq_true rfl, Nat.le_of_ble_eq_true rfl⟩) (p_preV C hw hL_cor0 hf_cor0 rfl) rfl rfl hl.1 rfl (lv_room (Nat.le_of_ble_eq_true rfl)) dX11_putBehind_31 ⟨Nat.le_of_ble_eq_true rfl, Nat.le_of_ble_eq_true rfl⟩) hw hA (fun r6 S5 H locs hpost hw => ?_)
    obtain ⟨hr_, hS_⟩ := hpost
    subst hr_
    subst hS_
    refine p_calli (va_runU (x := ⟨"SoundingLine$Stage", "sizeOf", "(I)I"⟩) (As := [.int (nI 0)]) (rest := []) C.fix (e_X10_sizeOf0 l D cy S H.size st sa sb hL_st hf_st (by first | assumption | decide | omega)) (va_cwA 1 C.2.2.2.2.1 (gU_U mw_580 mw_143 mw_173 mw_174 mw_175 (subU mw_176)) rfl rfl rfl (C.dcl 0 _ rfl) hdue_X11_putBehindwev_3 ⟨Nat.le_of_ble_eq_true rfl, Nat.le_of_ble_eq_true rfl⟩) (p_preV C hw hL_st hf_st rfl) rfl rfl hl.1 rfl (lv_room (Nat.le_of_ble_eq_true rfl)) dX11_putBehind_34 ⟨Nat.le_of_ble_eq_true rfl, Nat.le_of_ble_eq_true rfl⟩) hw hA (fun r8 S7 H locs hpost hw => ?_)
    obtain ⟨hr_, hS_⟩ := hpost
    subst hr_
    subst hS_
    refine lv_sipush (v := nI 320) hx hb dX11_putBehind_37 (by decide) ?_
    refine n_icmp_le (tgt := 53) hx hb (by first | decide | omega) (by first | decide | omega) dX11_putBehind_40 (by decide) (fun h_40 => ?_) (fun h_40 => ?_)
    · skip
      refine lv_aload_n hx hb dX11_putBehind_53 rfl (lv_at hl 0 rfl) ?_
      refine p_get C hw (ci := 11) (Cn := RX11) (T := TX11) (N := 8) hL_x hf_x rfl hin_RX11 0 (by decide) (mU mw_17) rfl rfl dX11_putBehind_54 ?_
      refine lv_aload_n hx hb dX11_putBehind_57 rfl (lv_at hl 1 rfl) ?_
      refine p_callv (va_runV (As := [.ref st]) (rest := []) C.fix (c_X1_append l D cy S H.size ch lk 0 st 10 4 2 (fun _ => none) RX10 TX10 ([.int (nI sa), .int (nI sb)]) hL_ch hf_ch hL_lk hf_lk (by first | assumption | decide | omega) hL_st hf_st rfl rfl) (cwV 1 C.2.2.2.2.1 (gU_V mw_581 mw_582 mw_583 mw_16 sub_X1_append) rfl rfl rfl hde_X11_putBehindwev_V_4 ⟨Nat.le_of_ble_eq_true rfl, Nat.le_of_ble_eq_true rfl⟩) (p_preV C hw hL_ch hf_ch rfl) rfl rfl hl.1 rfl (lv_room (Nat.le_of_ble_eq_true rfl)) dX11_putBehind_58 ⟨Nat.le_of_ble_eq_true rfl, Nat.le_of_ble_eq_true rfl⟩) hw hA (fun S9 H locs hpost hw => ?_)
      have hS_ := hpost
      obtain ⟨S11, hS11⟩ : ∃ z, z = pup S lk (aQ (cy 3) 4 (va_up (fun _ => none) 0 (some st))) := ⟨_, rfl⟩
      rw [← hS11] at hS_
      have hL12 : lk ∈ S11.1 := by rw [hS11]; exact hL_lk
      have hf13 : S11.2 lk = aQ (cy 3) 4 (va_up (fun _ => none) 0 (some st)) := by rw [hS11]; exact pup_s
      try rw [show 0 + 1 = 1 from rfl] at hS_
      have hL14 : ch ∈ S11.1 := by rw [hS11]; exact hL_ch
      have hf15 : S11.2 ch = .inr (2, [.ref lk, .int (nI 0)]) := by rw [hS11]; exact (pup_n (ne_cells hf_ch hf_lk (by nofun))).trans hf_ch
      have hS16 := hS_
      have hL17 : ch ∈ S9.1 := by rw [hS16]; exact hL14
      have hf18 : S9.2 ch = .inr (2, [.ref lk, .int (nI 1)]) := by rw [hS16]; exact pup_s
      refine lv_aload_n hx hb dX11_putBehind_61 rfl (lv_at hl 0 rfl) ?_
      have hL19 : x ∈ S11.1 := by rw [hS11]; exact hL_x
      have hf20 : S11.2 x = .inr (11, [.ref ch, .ref ln, .ref sl, .ref mk, .ref co, .ref ca, .ref su, .ref lt]) := by rw [hS11]; exact (pup_n (ne_cells hf_x hf_lk (by nofun))).trans hf_x
      have hL21 : x ∈ S9.1 := by rw [hS16]; exact hL19
      have hf22 : S9.2 x = .inr (11, [.ref ch, .ref ln, .ref sl, .ref mk, .ref co, .ref ca, .ref su, .ref lt]) := by rw [hS16]; exact (pup_n (ne_cells hf20 hf15 (by nofun))).trans hf20
      have hL23 : lk ∈ S9.1 := by rw [hS16]; exact hL12
      have hf24 : S9.2 lk = aQ (cy 3) 4 (va_up (fun _ => none) 0 (some st)) := by rw [hS16]; exact (pup_n (ne_cells hf13 hf15 (by nofun))).trans hf13
      have hL25 : ln ∈ S11.1 := by rw [hS11]; exact hL_ln
      have hf26 : S11.2 ln = .inr (6, [.int (nI 0), .int (nI 0), .int (nI 0), .int (nI 0)]) := by rw [hS11]; exact (pup_n (ne_cells hf_ln hf_lk (by nofun))).trans hf_ln
      have hL27 : ln ∈ S9.1 := by rw [hS16]; exact hL25
      have hf28 : S9.2 ln = .inr (6, [.int (nI 0), .int (nI 0), .int (nI 0), .int (nI 0)]) := by rw [hS16]; exact (pup_n (ne_cells hf26 hf15 (by nofun))).trans hf26
      have hL29 : mk ∈ S11.1 := by rw [hS11]; exact hL_mk
      have hf30 : S11.2 mk = .inr (8, [.ref mb, .int (nI 320)]) := by rw [hS11]; exact (pup_n (ne_cells hf_mk hf_lk (by nofun))).trans hf_mk
      have hL31 : mk ∈ S9.1 := by rw [hS16]; exact hL29
      have hf32 : S9.2 mk = .inr (8, [.ref mb, .int (nI 320)]) := by rw [hS16]; exact (pup_n (ne_cells hf30 hf15 (by nofun))).trans hf30
      have hL33 : mb ∈ S11.1 := by rw [hS11]; exact hL_mb
      have hf34 : S11.2 mb = aN (cy 0) 320 (fun _ => 0) := by rw [hS11]; exact (pup_n (ne_cells hf_mb hf_lk ne_NQ)).trans hf_mb
      have hL35 : mb ∈ S9.1 := by rw [hS16]; exact hL33
      have hf36 : S9.2 mb = aN (cy 0) 320 (fun _ => 0) := by rw [hS16]; exact (pup_n (ne_cells hf34 hf15 (by nofun))).trans hf34
      have hL37 : co ∈ S11.1 := by rw [hS11]; exact hL_co
      have hf38 : S11.2 co = .inr (5, [.ref col, .ref con]) := by rw [hS11]; exact (pup_n (ne_cells hf_co hf_lk (by nofun))).trans hf_co
      have hL39 : co ∈ S9.1 := by rw [hS16]; exact hL37
      have hf40 : S9.2 co = .inr (5, [.ref col, .ref con]) := by rw [hS16]; exact (pup_n (ne_cells hf38 hf15 (by nofun))).trans hf38
      have hL41 : col ∈ S11.1 := by rw [hS11]; exact hL_col
      have hf42 : S11.2 col = aQ (cy 2) 5 (va_up (va_up (va_up (va_up (va_up (fun _ => none) 0 (some cor0)) 1 (some cor1)) 2 (some cor2)) 3 (some cor3)) 4 (some cor4)) := by rw [hS11]; exact (pup_n hne_col_lk).trans hf_col
      have hL43 : col ∈ S9.1 := by rw [hS16]; exact hL41
      have hf44 : S9.2 col = aQ (cy 2) 5 (va_up (va_up (va_up (va_up (va_up (fun _ => none) 0 (some cor0)) 1 (some cor1)) 2 (some cor2)) 3 (some cor3)) 4 (some cor4)) := by rw [hS16]; exact (pup_n (ne_cells hf42 hf15 (by nofun))).trans hf42
      have hL45 : cor0 ∈ S11.1 := by rw [hS11]; exact hL_cor0
      have hf46 : S11.2 cor0 = .inr (8, [.ref cob0, .int (nI 0)]) := by rw [hS11]; exact (pup_n (ne_cells hf_cor0 hf_lk (by nofun))).trans hf_cor0
      have hL47 : cor0 ∈ S9.1 := by rw [hS16]; exact hL45
      have hf48 : S9.2 cor0 = .inr (8, [.ref cob0, .int (nI 0)]) := by rw [hS16]; exact (pup_n (ne_cells hf46 hf15 (by nofun))).trans hf46
      have hL49 : cor1 ∈ S11.1 := by rw [hS11]; exact hL_cor1
      have hf50 : S11.2 cor1 = .inr (8, [.ref cob1, .int (nI 0)]) := by rw [hS11]; exact (pup_n (ne_cells hf_cor1 hf_lk (by nofun))).trans hf_cor1
      have hL51 : cor1 ∈ S9.1 := by rw [hS16]; exact hL49
      have hf52 : S9.2 cor1 = .inr (8, [.ref cob1, .int (nI 0)]) := by rw [hS16]; exact (pup_n (ne_cells hf50 hf15 (by nofun))).trans hf50
      have hL53 : cob1 ∈ S11.1 := by rw [hS11]; exact hL_cob1
      have hf54 : S11.2 cob1 = aN (cy 0) 320 (fun _ => 0) := by rw [hS11]; exact (pup_n (ne_cells hf_cob1 hf_lk ne_NQ)).trans hf_cob1
      have hL55 : cob1 ∈ S9.1 := by rw [hS16]; exact hL53
      have hf56 : S9.2 cob1 = aN (cy 0) 320 (fun _ => 0) := by rw [hS16]; exact (pup_n (ne_cells hf54 hf15 (by nofun))).trans hf54
      have hL57 : ca ∈ S11.1 := by rw [hS11]; exact hL_ca
      have hf58 : S11.2 ca = .inr (5, [.ref cal, .ref can]) := by rw [hS11]; exact (pup_n (ne_cells hf_ca hf_lk (by nofun))).trans hf_ca
      have hL59 : ca ∈ S9.1 := by rw [hS16]; exact hL57
      have hf60 : S9.2 ca = .inr (5, [.ref cal, .ref can]) := by rw [hS16]; exact (pup_n (ne_cells hf58 hf15 (by nofun))).trans hf58
      have hL61 : cal ∈ S11.1 := by rw [hS11]; exact hL_cal
      have hf62 : S11.2 cal = aQ (cy 2) 5 (va_up (va_up (va_up (va_up (va_up (fun _ => none) 0 (some car0)) 1 (some car1)) 2 (some car2)) 3 (some car3)) 4 (some car4)) := by rw [hS11]; exact (pup_n hne_cal_lk).trans hf_cal
      have hL63 : cal ∈ S9.1 := by rw [hS16]; exact hL61
      have hf64 : S9.2 cal = aQ (cy 2) 5 (va_up (va_up (va_up (va_up (va_up (fun _ => none) 0 (some car0)) 1 (some car1)) 2 (some car2)) 3 (some car3)) 4 (some car4)) := by rw [hS16]; exact (pup_n (ne_cells hf62 hf15 (by nofun))).trans hf62
      have hL65 : car0 ∈ S11.1 := by rw [hS11]; exact hL_car0
      have hf66 : S11.2 car0 = .inr (8, [.ref cab0, .int (nI 0)]) := by rw [hS11]; exact (pup_n (ne_cells hf_car0 hf_lk (by nofun))).trans hf_car0
      have hL67 : car0 ∈ S9.1 := by rw [hS16]; exact hL65
      have hf68 : S9.2 car0 = .inr (8, [.ref cab0, .int (nI 0)]) := by rw [hS16]; exact (pup_n (ne_cells hf66 hf15 (by nofun))).trans hf66
      have hL69 : cab0 ∈ S11.1 := by rw [hS11]; exact hL_cab0
      have hf70 : S11.2 cab0 = aN (cy 0) 32 (fun _ => 0) := by rw [hS11]; exact (pup_n (ne_cells hf_cab0 hf_lk ne_NQ)).trans hf_cab0
      have hL71 : cab0 ∈ S9.1 := by rw [hS16]; exact hL69
      have hf72 : S9.2 cab0 = aN (cy 0) 32 (fun _ => 0) := by rw [hS16]; exact (pup_n (ne_cells hf70 hf15 (by nofun))).trans hf70
      have hL73 : car1 ∈ S11.1 := by rw [hS11]; exact hL_car1
      have hf74 : S11.2 car1 = .inr (8, [.ref cab1, .int (nI 0)]) := by rw [hS11]; exact (pup_n (ne_cells hf_car1 hf_lk (by nofun))).trans hf_car1
      have hL75 : car1 ∈ S9.1 := by rw [hS16]; exact hL73
      have hf76 : S9.2 car1 = .inr (8, [.ref cab1, .int (nI 0)]) := by rw [hS16]; exact (pup_n (ne_cells hf74 hf15 (by nofun))).trans hf74
      have hL77 : cab1 ∈ S11.1 := by rw [hS11]; exact hL_cab1
      have hf78 : S11.2 cab1 = aN (cy 0) 320 (fun _ => 0) := by rw [hS11]; exact (pup_n (ne_cells hf_cab1 hf_lk ne_NQ)).trans hf_cab1
      have hL79 : cab1 ∈ S9.1 := by rw [hS16]; exact hL77
      have hf80 : S9.2 cab1 = aN (cy 0) 320 (fun _ => 0) := by rw [hS16]; exact (pup_n (ne_cells hf78 hf15 (by nofun))).trans hf78
      have hL81 : st ∈ S11.1 := by rw [hS11]; exact hL_st
      have hf82 : S11.2 st = .inr (10, [.int (nI sa), .int (nI sb)]) := by rw [hS11]; exact (pup_n (ne_cells hf_st hf_lk (by nofun))).trans hf_st
      have hL83 : st ∈ S9.1 := by rw [hS16]; exact hL81
      have hf84 : S9.2 st = .inr (10, [.int (nI sa), .int (nI sb)]) := by rw [hS16]; exact (pup_n (ne_cells hf82 hf15 (by nofun))).trans hf82
      refine p_callv (va_runV (As := []) (rest := []) C.fix (e_X11_settle1wev l D cy S9 H.size x ch ln sl mk co ca su lt lk mb col con cor0 cor1 cor2 cor3 cor4 cob0 cob1 cal can car0 car1 car2 car3 car4 cab0 cab1 st (va_up (fun _ => none) 0 (some st)) sa sb hL21 hf22 hL17 hf18 hL23 hf24 hL27 hf28 hL31 hf32 hL35 hf36 hL39 hf40 hL43 hf44 hL47 hf48 hL51 hf52 hL55 hf56 hL59 hf60 hL63 hf64 hL67 hf68 hL71 hf72 hL75 hf76 hL79 hf80 hL83 hf84 hne_mk_cor1 hne_car1_cor1 hne_cob1_cab1 hne_mk_car1 hne_mb_cab1 hne_cor0_cor1 hne_cor0_car1 hne_car0_cor1 hne_car0_car1 hne_cab0_cab1 (by first | assumption | rfl | simp [va_up]) (by first | assumption | decide | omega)) (cwV 0 C.2.2.2.2.1 (gU_V mw_187 mw_188 mw_189 mw_2 (subU mw_190)) rfl rfl rfl hde_X11_putBehindwev_V_5 ⟨Nat.le_of_ble_eq_true rfl, Nat.le_of_ble_eq_true rfl⟩) (p_preV C hw hL21 hf22 rfl) rfl rfl hl.1 rfl (lv_room (Nat.le_of_ble_eq_true rfl)) dX11_putBehind_62 ⟨Nat.le_of_ble_eq_true rfl, Nat.le_of_ble_eq_true rfl⟩) hw hA (fun S85 H locs hpost hw => ?_)
      obtain ⟨hS87, hfr88, hf89⟩ := hpost
      have hL90 : cor1 ∈ S85.1 := by rw [hS87]; exact List.mem_append_left _ hL51
      refine lv_aload_n hx hb dX11_putBehind_65 rfl (lv_at hl 0 rfl) ?_
      refine lv_aload_n hx hb dX11_putBehind_66 rfl (lv_at hl 0 rfl) ?_
      have hL91 : x ∈ S85.1 := by rw [hS87]; exact List.mem_append_left _ hL21
      have hf92 : S85.2 x = .inr (11, [.ref ch, .ref ln, .ref sl, .ref mk, .ref co, .ref ca, .ref su, .ref lt]) := (hfr88 x hL21 (ne_cells hf22 hf52 (by nofun)) (ne_cells hf22 hf76 (by nofun)) (ne_cells hf22 hf80 (by nofun)) (ne_cells hf22 hf68 (by nofun))).trans hf22
      refine p_get C hw (ci := 11) (Cn := RX11) (T := TX11) (N := 8) hL91 hf92 rfl hin_RX11 4 (by decide) (mU mw_30) rfl rfl dX11_putBehind_67 ?_
      have hL93 : ch ∈ S85.1 := by rw [hS87]; exact List.mem_append_left _ hL17
      have hf94 : S85.2 ch = .inr (2, [.ref lk, .int (nI 1)]) := (hfr88 ch hL17 (ne_cells hf18 hf52 (by nofun)) (ne_cells hf18 hf76 (by nofun)) (ne_cells hf18 hf80 (by nofun)) (ne_cells hf18 hf68 (by nofun))).trans hf18
      have hL95 : co ∈ S85.1 := by rw [hS87]; exact List.mem_append_left _ hL39
      have hf96 : S85.2 co = .inr (5, [.ref col, .ref con]) := (hfr88 co hL39 (ne_cells hf40 hf52 (by nofun)) (ne_cells hf40 hf76 (by nofun)) (ne_cells hf40 hf80 (by nofun)) (ne_cells hf40 hf68 (by nofun))).trans hf40
      have hL97 : col ∈ S85.1 := by rw [hS87]; exact List.mem_append_left _ hL43
      have hf98 : S85.2 col = aQ (cy 2) 5 (va_up (va_up (va_up (va_up (va_up (fun _ => none) 0 (some cor0)) 1 (some cor1)) 2 (some cor2)) 3 (some cor3)) 4 (some cor4)) := (hfr88 col hL43 (ne_cells hf44 hf52 (by nofun)) (ne_cells hf44 hf76 (by nofun)) (ne_cells hf44 hf80 ne_QN) (ne_cells hf44 hf68 (by nofun))).trans hf44
      refine p_callq (va_runV (As := [.ref co]) (rest := []) C.fix (e_X11_last1 l D cy S85 H.size x co ch ln sl mk co ca su lt lk col con (va_up (va_up (va_up (va_up (va_up (fun _ => none) 0 (some cor0)) 1 (some cor1)) 2 (some cor2)) 3 (some cor3)) 4 (some cor4)) cor1 hL91 hf92 hL93 hf94 hL95 hf96 hL97 hf98 (by first | assumption | rfl | simp [va_up])) (cwV 1 C.2.2.2.2.1 (gU_V mw_256 mw_257 mw_258 mw_2 (subU mw_259)) rfl rfl rfl hde_X11_putBehindwev_V_1 ⟨Nat.le_of_ble_eq_true rfl, Nat.le_of_ble_eq_true rfl⟩) (p_preV C hw hL91 hf92 rfl) rfl rfl hl.1 rfl (lv_room (Nat.le_of_ble_eq_true rfl)) dX11_putBehind_70 ⟨Nat.le_of_ble_eq_true rfl, Nat.le_of_ble_eq_true rfl⟩) hw hA (fun r100 S99 H locs hpost hw => ?_)
      obtain ⟨hr_, hS_⟩ := hpost
      subst hr_
      subst hS_
      refine p_calli (va_runV (As := []) (rest := []) C.fix (c_X7_size l D cy S85 H.size cor1 cob1 0 hL90 hf89) (cwV 0 C.2.2.2.2.1 (gU_V mw_130 mw_131 mw_132 mw_25 sub_X7_size) rfl rfl rfl hde_X11_putBehindwev_V_2 ⟨Nat.le_of_ble_eq_true rfl, Nat.le_of_ble_eq_true rfl⟩) (p_preV C hw hL90 hf89 rfl) rfl rfl hl.1 rfl (lv_room (Nat.le_of_ble_eq_true rfl)) dX11_putBehind_73 ⟨Nat.le_of_ble_eq_true rfl, Nat.le_of_ble_eq_true rfl⟩) hw hA (fun r102 S101 H locs hpost hw => ?_)
      obtain ⟨hr_, hS_⟩ := hpost
      subst hr_
      subst hS_
      exact (p_iret C hw (⟨rfl, (by simp only [hS87, hS16, hS11, pup, pnew, List.append_nil, List.append_assoc, List.cons_append, List.nil_append]), (fun a_ ha_ hn_0 hn_1 hn_2 hn_3 hn_4 hn_5 => ((hfr88 a_ (show a_ ∈ S9.1 from by rw [hS16]; exact (show a_ ∈ S11.1 from by rw [hS11]; exact ha_)) hn_2 hn_3 hn_4 hn_5).trans ((show S9.2 a_ = S11.2 a_ from by rw [hS16]; exact pup_n hn_1).trans (show S11.2 a_ = S.2 a_ from by rw [hS11]; exact pup_n hn_0))))⟩) hr hlocks dX11_putBehind_76)
    · exact absurd h_40 (by first | decide | omega)
  · exact absurd h_8 (by first | decide | omega)
