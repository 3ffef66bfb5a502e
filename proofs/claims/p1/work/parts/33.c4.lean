def okC (k a b c : Int32) : Prop := (0 ≤ k.toInt ∧ k.toInt ≤ 3) ∧ ((k.toInt = 1 ∨ k.toInt = 3) → 0 ≤ a.toInt ∧ a.toInt ≤ 1000 ∧ 0 ≤ b.toInt ∧ b.toInt ≤ 1000000) ∧ (k.toInt = 2 → 0 ≤ a.toInt ∧ a.toInt ≤ 320 ∧ 1 ≤ b.toInt ∧ b.toInt ≤ 50 ∧ b.toInt ≤ c.toInt ∧ c.toInt ≤ 320)
def okM (j : Int32) : Prop := 0 ≤ j.toInt ∧ j.toInt ≤ 319
def okE (p r : Int32) : Prop := 0 ≤ p.toInt ∧ p.toInt ≤ 1000 ∧ 1 ≤ r.toInt ∧ r.toInt ≤ 20
/-- an int as a number where it is small enough -/
def zc (x : Int32) : Nat := if 0 ≤ x.toInt ∧ x.toInt ≤ 1000000 then x.toInt.toNat else 0
theorem zc_lt (x : Int32) : zc x < 2 ^ 30 := by unfold zc; split <;> omega
theorem zc_eq {x : Int32} (h1 : 0 ≤ x.toInt) (h2 : x.toInt ≤ 1000000) : x = nI (zc x) := by
  unfold zc
  rw [if_pos ⟨h1, h2⟩]
  apply Int32.toInt_inj.mp
  rw [nI_toInt (by omega)]
  omega
theorem fb_t {x : Int32} {k : Nat} (h : (if fitsB x k = true then 1 else 0) ≠ 0) : fitsB x k = true := by
  by_cases q : fitsB x k = true
  · exact q
  · exact absurd (if_neg q) h
theorem fb_f {x : Int32} {k : Nat} (h : (if fitsB x k = true then 1 else 0) = 0) : ¬ fitsB x k = true := fun q => by rw [if_pos q] at h; cases h
theorem zmean {k : Nat} (h1 : 1 ≤ k) (h2 : k ≤ 20) : vf_n64 (FP.ddiv (FP.i2d (nI 0)) (FP.i2d (nI k))) ∧ FP.ddiv (FP.i2d (nI 0)) (FP.i2d (nI k)) = FP.dconst0 := by
  have : ∀ n, n < 21 → 1 ≤ n → vf_n64 (FP.ddiv (FP.i2d (nI 0)) (FP.i2d (nI n))) ∧ FP.ddiv (FP.i2d (nI 0)) (FP.i2d (nI n)) = FP.dconst0 := by
    unfold vf_n64
    decide +kernel
  exact this k (by omega) h1
theorem hde_X11_write_S_0 : yX11_fits.cls ≠ "java/lang/invoke/MethodHandle" ∧ yX11_fits.cls ≠ "java/lang/invoke/VarHandle" ∧ (parseMethodDescriptor yX11_fits.desc).map (fun d => d.parameters.length) = some 2 := by decide +kernel
theorem hde_X11_write_V_1 : yX4_at.cls = RX4 ∧ yX4_at.cls ≠ "java/lang/invoke/MethodHandle" ∧ yX4_at.cls ≠ "java/lang/invoke/VarHandle" ∧ (parseMethodDescriptor yX4_at.desc).map (fun d => d.parameters.length) = some 1 := by decide +kernel
theorem hde_X11_write_V_2 : yX7_size.cls = RX7 ∧ yX7_size.cls ≠ "java/lang/invoke/MethodHandle" ∧ yX7_size.cls ≠ "java/lang/invoke/VarHandle" ∧ (parseMethodDescriptor yX7_size.desc).map (fun d => d.parameters.length) = some 0 := by decide +kernel
theorem hde_X11_write_V_3 : yX1_sizeAtEnd.cls = RX1 ∧ yX1_sizeAtEnd.cls ≠ "java/lang/invoke/MethodHandle" ∧ yX1_sizeAtEnd.cls ≠ "java/lang/invoke/VarHandle" ∧ (parseMethodDescriptor yX1_sizeAtEnd.desc).map (fun d => d.parameters.length) = some 1 := by decide +kernel
theorem hde_X11_write_V_4 : yX7_resize.cls = RX7 ∧ yX7_resize.cls ≠ "java/lang/invoke/MethodHandle" ∧ yX7_resize.cls ≠ "java/lang/invoke/VarHandle" ∧ (parseMethodDescriptor yX7_resize.desc).map (fun d => d.parameters.length) = some 1 := by decide +kernel
theorem hde_X11_write_V_5 : yX7_putNumber.cls = RX7 ∧ yX7_putNumber.cls ≠ "java/lang/invoke/MethodHandle" ∧ yX7_putNumber.cls ≠ "java/lang/invoke/VarHandle" ∧ (parseMethodDescriptor yX7_putNumber.desc).map (fun d => d.parameters.length) = some 3 := by decide +kernel
theorem hde_X11_write_V_6 : yX11_settle.cls = RX11 ∧ yX11_settle.cls ≠ "java/lang/invoke/MethodHandle" ∧ yX11_settle.cls ≠ "java/lang/invoke/VarHandle" ∧ (parseMethodDescriptor yX11_settle.desc).map (fun d => d.parameters.length) = some 0 := by decide +kernel
set_option maxHeartbeats 4000000 in
set_option maxRecDepth 100000 in
/-- write -/
theorem e_X11_write (l : Launch) (hflags : l.stackTraces = false) (D : va_G) (cy : Nat → ClassId) (ed : Nat) (S : pS) (sz : Nat) (x : Nat) (ch : Nat) (ln : Nat) (sl : Nat) (mk : Nat) (co : Nat) (ca : Nat) (su : Nat) (lt : Nat) (lk : Nat) (mb : Nat) (col : Nat) (con : Nat) (cor0 : Nat) (cor1 : Nat) (cor2 : Nat) (cor3 : Nat) (cor4 : Nat) (cob0 : Nat) (cal : Nat) (can : Nat) (car0 : Nat) (car1 : Nat) (car2 : Nat) (car3 : Nat) (car4 : Nat) (cab0 : Nat) (n : Int32) (many : Int32) (hL_x : x ∈ S.1) (hf_x : S.2 x = .inr (11, [.ref ch, .ref ln, .ref sl, .ref mk, .ref co, .ref ca, .ref su, .ref lt])) (hL_ch : ch ∈ S.1) (hf_ch : S.2 ch = .inr (2, [.ref lk, .int (nI 0)])) (hL_ln : ln ∈ S.1) (hf_ln : S.2 ln = .inr (6, [.int (nI 0), .int (nI 0), .int (nI 0), .int (nI 0)])) (hL_mk : mk ∈ S.1) (hf_mk : S.2 mk = .inr (8, [.ref mb, .int (nI 320)])) (hL_mb : mb ∈ S.1) (hf_mb : S.2 mb = aN (cy 0) 320 (fun _ => 0)) (hL_co : co ∈ S.1) (hf_co : S.2 co = .inr (5, [.ref col, .ref con])) (hL_col : col ∈ S.1) (hf_col : S.2 col = aQ (cy 2) 5 (va_up (va_up (va_up (va_up (va_up (fun _ => none) 0 (some cor0)) 1 (some cor1)) 2 (some cor2)) 3 (some cor3)) 4 (some cor4))) (hL_cor0 : cor0 ∈ S.1) (hf_cor0 : S.2 cor0 = .inr (8, [.ref cob0, .int (nI 0)])) (hL_cob0 : cob0 ∈ S.1) (hf_cob0 : S.2 cob0 = aN (cy 0) 32 (fun _ => 0)) (hL_ca : ca ∈ S.1) (hf_ca : S.2 ca = .inr (5, [.ref cal, .ref can])) (hL_cal : cal ∈ S.1) (hf_cal : S.2 cal = aQ (cy 2) 5 (va_up (va_up (va_up (va_up (va_up (fun _ => none) 0 (some car0)) 1 (some car1)) 2 (some car2)) 3 (some car3)) 4 (some car4))) (hL_car0 : car0 ∈ S.1) (hf_car0 : S.2 car0 = .inr (8, [.ref cab0, .int (nI 0)])) (hL_cab0 : cab0 ∈ S.1) (hf_cab0 : S.2 cab0 = aN (cy 0) 32 (fun _ => 0)) (hne_mk_cor0 : mk ≠ cor0) (hne_mb_cob0 : mb ≠ cob0) (hne_car0_cor0 : car0 ≠ cor0) (hne_cab0_cob0 : cab0 ≠ cob0) (hne_mk_car0 : mk ≠ car0) (hne_mb_cab0 : mb ≠ cab0) : vx_Met l yX11_write (Cond.code yX11_write cX11_write 6 (some .int) :: lwU) ({ frames := 6, cells := 1, slots := 6, locals := 131 }) (ePc D cy ed S sz [.ref x, .int n, .int many]) (pQi D cy S sz (fun r S' => (okW n many) ∧ r = many ∧ S'.1 = S.1 ++ [] ∧ (∀ a_, a_ ∈ S.1 → a_ ≠ cor0 → a_ ≠ cob0 → a_ ≠ car0 → a_ ≠ cab0 → S'.2 a_ = S.2 a_))) (pX D S sz (fun E S' => (E = "java/lang/IllegalArgumentException" ∧ (¬ okW n many) ∧ S = S'))) 1 6 (pA S sz) := by
  refine vx_ofW (cc := cX11_write) (maxL := 6) (ret := (some .int)) (by decide) rfl ?_
  intro p e s m args below meth c s₁ B hml htab hv
  obtain ⟨rfl, rfl, C, hw, hA, hr, hlocks, hE⟩ := e_start B hml hv
  have hx := C.1
  have hb := C.2.1
  have hl := lv_entry ([.ref x, .int n, .int many]) (n := 6) (Nat.le_of_ble_eq_true rfl)
  rw [lg_entry_eq]
  generalize (lg_sl ([.ref x, .int n, .int many]) ++ List.replicate (6 - (lg_sl ([.ref x, .int n, .int many])).length) Slot.unset).toArray = ls at hl ⊢
  have hl : lv_has ls 6 [(0, .ref x), (1, .int n), (2, .int many)] := hl
  have hin_RX11 : ∀ w ∈ u_ws RX11 TX11 8, w ∈ (Cond.code yX11_write cX11_write 6 (some .int) :: lwU) := fun w h => mU (sub_RX11 w h)
  refine lv_iload_n hx hb dX11_write_0 rfl (lv_at hl 2 rfl) ?_
  refine lv_iconst (v := nI 1) hx hb dX11_write_1 (by decide) ?_
  refine z_icmp_lt (tgt := 11) hx hb rfl (nI_toInt (by first | decide | omega)) dX11_write_2 (by decide) (fun h_2 => ?_) (fun h_2 => ?_)
  · skip
    exact x_throw (y := yX11_write) C hflags hw hE (kS := 0) (kT := 0) mw_119 mw_120 tIA_x rfl rfl (by decide) tIA_n tIA_g hl.1.symm dX11_write_11 dX11_write_14 dX11_write_15 dX11_write_17 dX11_write_20 htab (Nat.le_of_ble_eq_true rfl) (Nat.le_of_ble_eq_true rfl) (Nat.le_of_ble_eq_true rfl) (Nat.le_of_ble_eq_true rfl) hlocks (⟨rfl, (fun h => by obtain ⟨h1, h2, h3, h4⟩ := h; omega), rfl⟩) (Nat.le_of_ble_eq_true rfl) (Nat.le_of_ble_eq_true rfl)
  · skip
    refine lv_iload_n hx hb dX11_write_5 rfl (lv_at hl 2 rfl) ?_
    refine lv_bipush (v := nI 16) hx hb dX11_write_6 (by decide) ?_
    refine z_icmp_le (tgt := 21) hx hb rfl (nI_toInt (by first | decide | omega)) dX11_write_8 (by decide) (fun h_8 => ?_) (fun h_8 => ?_)
    · skip
      obtain ⟨wN, hw31, rfl, hwi⟩ := z_nat (x := many) (by omega)
      have hw1 : 1 ≤ wN := by omega
      have hw16 : wN ≤ 16 := by omega
      refine lv_iload_n hx hb dX11_write_21 rfl (lv_at hl 1 rfl) ?_
      refine lv_iload_n hx hb dX11_write_22 rfl (lv_at hl 2 rfl) ?_
      refine p_calli (va_runS (As := [.int n, .int (nI wN)]) (rest := []) C.fix (c_X11_fits l D cy S s.heap.size n wN (by first | assumption | decide | omega)) (va_cwS 2 C.2.2.2.2.1 (gU_S mw_123 mw_124 mw_2 sub_X11_fits) rfl rfl rfl hde_X11_write_S_0 ⟨Nat.le_of_ble_eq_true rfl, Nat.le_of_ble_eq_true rfl⟩) (p_preS C hw) rfl rfl hl.1 rfl (lv_room (Nat.le_of_ble_eq_true rfl)) dX11_write_23 ⟨Nat.le_of_ble_eq_true rfl, Nat.le_of_ble_eq_true rfl⟩) hw hA (fun r2 S1 H locs hpost hw => ?_)
      obtain ⟨hr_, hS_⟩ := hpost
      subst hr_
      subst hS_
      refine n_if_ne (tgt := 39) hx hb (by split <;> decide) dX11_write_26 (by decide) (fun h_26 => ?_) (fun h_26 => ?_)
      · skip
        have hf := fb_t h_26
        rw [fitsB_z hw16] at hf
        obtain ⟨vN, hv31, rfl, hvi⟩ := z_nat (x := n) hf.1
        refine lv_aload_n hx hb dX11_write_39 rfl (lv_at hl 0 rfl) ?_
        refine p_get C hw (ci := 11) (Cn := RX11) (T := TX11) (N := 8) hL_x hf_x rfl hin_RX11 4 (by decide) (mU mw_30) rfl rfl dX11_write_40 ?_
        refine lv_iconst (v := nI 0) hx hb dX11_write_43 (by decide) ?_
        refine p_callq (va_runV (As := [.int (nI 0)]) (rest := []) C.fix (c_X4_at l D cy S H.size co col con 0 cor0 (va_up (va_up (va_up (va_up (va_up (fun _ => none) 0 (some cor0)) 1 (some cor1)) 2 (some cor2)) 3 (some cor3)) 4 (some cor4)) hL_co hf_co hL_col hf_col (by first | assumption | decide | omega) (by first | assumption | rfl | simp [va_up])) (cwV 1 C.2.2.2.2.1 (gU_V mw_126 mw_127 mw_128 mw_29 sub_X4_at) rfl rfl rfl hde_X11_write_V_1 ⟨Nat.le_of_ble_eq_true rfl, Nat.le_of_ble_eq_true rfl⟩) (p_preV C hw hL_co hf_co rfl) rfl rfl hl.1 rfl (lv_room (Nat.le_of_ble_eq_true rfl)) dX11_write_44 ⟨Nat.le_of_ble_eq_true rfl, Nat.le_of_ble_eq_true rfl⟩) hw hA (fun r4 S3 H locs hpost hw => ?_)
        obtain ⟨hr_, hS_⟩ := hpost
        subst hr_
        subst hS_
        refine lv_astore_n (lv' := [(3, .ref cor0), (0, .ref x), (1, .int (nI vN)), (2, .int (nI wN))]) hx hb dX11_write_47 rfl hl (by decide) rfl (fun ls hl => ?_)
        refine lv_aload_n hx hb dX11_write_48 rfl (lv_at hl 0 rfl) ?_
        refine p_calli (va_runV (As := []) (rest := []) C.fix (c_X7_size l D cy S H.size cor0 cob0 0 hL_cor0 hf_cor0) (cwV 0 C.2.2.2.2.1 (gU_V mw_130 mw_131 mw_132 mw_25 sub_X7_size) rfl rfl rfl hde_X11_write_V_2 ⟨Nat.le_of_ble_eq_true rfl, Nat.le_of_ble_eq_true rfl⟩) (p_preV C hw hL_cor0 hf_cor0 rfl) rfl rfl hl.1 rfl (lv_room (Nat.le_of_ble_eq_true rfl)) dX11_write_49 ⟨Nat.le_of_ble_eq_true rfl, Nat.le_of_ble_eq_true rfl⟩) hw hA (fun r6 S5 H locs hpost hw => ?_)
        obtain ⟨hr_, hS_⟩ := hpost
        subst hr_
        subst hS_
        refine lv_istore (lv' := [(4, .int (nI 0)), (3, .ref cor0), (0, .ref x), (1, .int (nI vN)), (2, .int (nI wN))]) hx hb dX11_write_52 hl (by decide) rfl (fun ls hl => ?_)
        refine lv_iload hx hb dX11_write_54 (lv_at hl 0 rfl) ?_
        refine lv_iload_n hx hb dX11_write_56 rfl (lv_at hl 4 rfl) ?_
        refine n_iadd hx hb dX11_write_57 ?_
        refine n_ren (b := wN) (by first | rfl | omega | simp) ?_
        refine lv_istore (lv' := [(5, .int (nI wN)), (4, .int (nI 0)), (3, .ref cor0), (0, .ref x), (1, .int (nI vN)), (2, .int (nI wN))]) hx hb dX11_write_58 hl (by decide) rfl (fun ls hl => ?_)
        refine lv_iload hx hb dX11_write_60 (lv_at hl 0 rfl) ?_
        refine lv_bipush (v := nI 32) hx hb dX11_write_62 (by decide) ?_
        refine n_icmp_le (tgt := 77) hx hb (by first | decide | omega) (by first | decide | omega) dX11_write_64 (by decide) (fun h_64 => ?_) (fun h_64 => ?_)
        · skip
          refine lv_aload_n hx hb dX11_write_77 rfl (lv_at hl 3 rfl) ?_
          refine p_get C hw (ci := 11) (Cn := RX11) (T := TX11) (N := 8) hL_x hf_x rfl hin_RX11 0 (by decide) (mU mw_17) rfl rfl dX11_write_78 ?_
          refine lv_iload hx hb dX11_write_81 (lv_at hl 0 rfl) ?_
          refine p_calli (va_runV (As := [.int (nI wN)]) (rest := []) C.fix (e_X1_sizeAtEnd0 l D cy S H.size ch lk wN hL_ch hf_ch ) (cwV 1 C.2.2.2.2.1 (gU_V mw_134 mw_135 mw_136 mw_16 (subU mw_137)) rfl rfl rfl hde_X11_write_V_3 ⟨Nat.le_of_ble_eq_true rfl, Nat.le_of_ble_eq_true rfl⟩) (p_preV C hw hL_ch hf_ch rfl) rfl rfl hl.1 rfl (lv_room (Nat.le_of_ble_eq_true rfl)) dX11_write_83 ⟨Nat.le_of_ble_eq_true rfl, Nat.le_of_ble_eq_true rfl⟩) hw hA (fun r8 S7 H locs hpost hw => ?_)
          obtain ⟨hr_, hS_⟩ := hpost
          subst hr_
          subst hS_
          refine lv_sipush (v := nI 320) hx hb dX11_write_86 (by decide) ?_
          refine n_icmp_le (tgt := 102) hx hb (by first | decide | omega) (by first | decide | omega) dX11_write_89 (by decide) (fun h_89 => ?_) (fun h_89 => ?_)
          · skip
            refine lv_aload_n hx hb dX11_write_102 rfl (lv_at hl 2 rfl) ?_
            refine lv_iload hx hb dX11_write_103 (lv_at hl 0 rfl) ?_
            refine p_callv (va_runV (As := [.int (nI wN)]) (rest := []) C.fix (c_X7_resize l D cy S H.size cor0 cob0 32 0 wN (fun _ => 0) hL_cor0 hf_cor0 hL_cob0 hf_cob0 (by first | assumption | decide | omega) (by first | assumption | decide | omega)) (cwV 1 C.2.2.2.2.1 (gU_V mw_61 mw_62 mw_63 mw_25 sub_X7_resize) rfl rfl rfl hde_X11_write_V_4 ⟨Nat.le_of_ble_eq_true rfl, Nat.le_of_ble_eq_true rfl⟩) (p_preV C hw hL_cor0 hf_cor0 rfl) rfl rfl hl.1 rfl (lv_room (Nat.le_of_ble_eq_true rfl)) dX11_write_105 ⟨Nat.le_of_ble_eq_true rfl, Nat.le_of_ble_eq_true rfl⟩) hw hA (fun S9 H locs hpost hw => ?_)
            have hS_ := hpost
            try rw [show min wN 32 = wN from (by omega)] at hS_
            have hS11 := hS_
            have hL12 : cor0 ∈ S9.1 := by rw [hS11]; exact hL_cor0
            have hf13 : S9.2 cor0 = .inr (8, [.ref cob0, .int (nI wN)]) := by rw [hS11]; exact pup_s
            refine lv_aload_n hx hb dX11_write_108 rfl (lv_at hl 2 rfl) ?_
            refine lv_iload hx hb dX11_write_109 (lv_at hl 1 rfl) ?_
            refine lv_iload_n hx hb dX11_write_111 rfl (lv_at hl 4 rfl) ?_
            refine lv_iload_n hx hb dX11_write_112 rfl (lv_at hl 5 rfl) ?_
            have hL14 : cob0 ∈ S9.1 := by rw [hS11]; exact hL_cob0
            have hf15 : S9.2 cob0 = aN (cy 0) 32 (fun _ => 0) := by rw [hS11]; exact (pup_n (ne_cells hf_cob0 hf_cor0 (by nofun))).trans hf_cob0
            refine p_callv (va_runV (As := [.int (nI 0), .int (nI vN), .int (nI wN)]) (rest := []) C.fix (c_X7_putNumber l D cy S9 H.size cor0 cob0 32 wN 0 vN wN (fun _ => 0) hL12 hf13 hL14 hf15 (by first | assumption | decide | omega) (by first | assumption | decide | omega) (by first | assumption | decide | omega) (by first | assumption | decide | omega) (by first | assumption | decide | omega)) (cwV 3 C.2.2.2.2.1 (gU_V mw_179 mw_180 mw_181 mw_25 sub_X7_putNumber) rfl rfl rfl hde_X11_write_V_5 ⟨Nat.le_of_ble_eq_true rfl, Nat.le_of_ble_eq_true rfl⟩) (p_preV C hw hL12 hf13 rfl) rfl rfl hl.1 rfl (lv_room (Nat.le_of_ble_eq_true rfl)) dX11_write_113 ⟨Nat.le_of_ble_eq_true rfl, Nat.le_of_ble_eq_true rfl⟩) hw hA (fun S16 H locs hpost hw => ?_)
            have hS_ := hpost
            have hS18 := hS_
            have hL19 : cob0 ∈ S16.1 := by rw [hS18]; exact hL14
            have hf20 : S16.2 cob0 = aN (cy 0) 32 (rnum (fun _ => 0) wN 0 vN wN wN) := by rw [hS18]; exact pup_s
            refine lv_aload_n hx hb dX11_write_116 rfl (lv_at hl 3 rfl) ?_
            have hL21 : x ∈ S9.1 := by rw [hS11]; exact hL_x
            have hf22 : S9.2 x = .inr (11, [.ref ch, .ref ln, .ref sl, .ref mk, .ref co, .ref ca, .ref su, .ref lt]) := by rw [hS11]; exact (pup_n (ne_cells hf_x hf_cor0 (by nofun))).trans hf_x
            have hL23 : x ∈ S16.1 := by rw [hS18]; exact hL21
            have hf24 : S16.2 x = .inr (11, [.ref ch, .ref ln, .ref sl, .ref mk, .ref co, .ref ca, .ref su, .ref lt]) := by rw [hS18]; exact (pup_n (ne_cells hf22 hf15 (by nofun))).trans hf22
            have hL25 : ch ∈ S9.1 := by rw [hS11]; exact hL_ch
            have hf26 : S9.2 ch = .inr (2, [.ref lk, .int (nI 0)]) := by rw [hS11]; exact (pup_n (ne_cells hf_ch hf_cor0 (by nofun))).trans hf_ch
            have hL27 : ch ∈ S16.1 := by rw [hS18]; exact hL25
            have hf28 : S16.2 ch = .inr (2, [.ref lk, .int (nI 0)]) := by rw [hS18]; exact (pup_n (ne_cells hf26 hf15 (by nofun))).trans hf26
            have hL29 : mk ∈ S9.1 := by rw [hS11]; exact hL_mk
            have hf30 : S9.2 mk = .inr (8, [.ref mb, .int (nI 320)]) := by rw [hS11]; exact (pup_n hne_mk_cor0).trans hf_mk
            have hL31 : mk ∈ S16.1 := by rw [hS18]; exact hL29
            have hf32 : S16.2 mk = .inr (8, [.ref mb, .int (nI 320)]) := by rw [hS18]; exact (pup_n (ne_cells hf30 hf15 (by nofun))).trans hf30
            have hL33 : mb ∈ S9.1 := by rw [hS11]; exact hL_mb
            have hf34 : S9.2 mb = aN (cy 0) 320 (fun _ => 0) := by rw [hS11]; exact (pup_n (ne_cells hf_mb hf_cor0 (by nofun))).trans hf_mb
            have hL35 : mb ∈ S16.1 := by rw [hS18]; exact hL33
            have hf36 : S16.2 mb = aN (cy 0) 320 (fun _ => 0) := by rw [hS18]; exact (pup_n hne_mb_cob0).trans hf34
            have hL37 : ln ∈ S9.1 := by rw [hS11]; exact hL_ln
            have hf38 : S9.2 ln = .inr (6, [.int (nI 0), .int (nI 0), .int (nI 0), .int (nI 0)]) := by rw [hS11]; exact (pup_n (ne_cells hf_ln hf_cor0 (by nofun))).trans hf_ln
            have hL39 : ln ∈ S16.1 := by rw [hS18]; exact hL37
            have hf40 : S16.2 ln = .inr (6, [.int (nI 0), .int (nI 0), .int (nI 0), .int (nI 0)]) := by rw [hS18]; exact (pup_n (ne_cells hf38 hf15 (by nofun))).trans hf38
            have hL41 : co ∈ S9.1 := by rw [hS11]; exact hL_co
            have hf42 : S9.2 co = .inr (5, [.ref col, .ref con]) := by rw [hS11]; exact (pup_n (ne_cells hf_co hf_cor0 (by nofun))).trans hf_co
            have hL43 : co ∈ S16.1 := by rw [hS18]; exact hL41
            have hf44 : S16.2 co = .inr (5, [.ref col, .ref con]) := by rw [hS18]; exact (pup_n (ne_cells hf42 hf15 (by nofun))).trans hf42
            have hL45 : col ∈ S9.1 := by rw [hS11]; exact hL_col
            have hf46 : S9.2 col = aQ (cy 2) 5 (va_up (va_up (va_up (va_up (va_up (fun _ => none) 0 (some cor0)) 1 (some cor1)) 2 (some cor2)) 3 (some cor3)) 4 (some cor4)) := by rw [hS11]; exact (pup_n (ne_cells hf_col hf_cor0 (by nofun))).trans hf_col
            have hL47 : col ∈ S16.1 := by rw [hS18]; exact hL45
            have hf48 : S16.2 col = aQ (cy 2) 5 (va_up (va_up (va_up (va_up (va_up (fun _ => none) 0 (some cor0)) 1 (some cor1)) 2 (some cor2)) 3 (some cor3)) 4 (some cor4)) := by rw [hS18]; exact (pup_n (ne_cells hf46 hf15 ne_QN)).trans hf46
            have hL49 : ca ∈ S9.1 := by rw [hS11]; exact hL_ca
            have hf50 : S9.2 ca = .inr (5, [.ref cal, .ref can]) := by rw [hS11]; exact (pup_n (ne_cells hf_ca hf_cor0 (by nofun))).trans hf_ca
            have hL51 : ca ∈ S16.1 := by rw [hS18]; exact hL49
            have hf52 : S16.2 ca = .inr (5, [.ref cal, .ref can]) := by rw [hS18]; exact (pup_n (ne_cells hf50 hf15 (by nofun))).trans hf50
            have hL53 : cal ∈ S9.1 := by rw [hS11]; exact hL_cal
            have hf54 : S9.2 cal = aQ (cy 2) 5 (va_up (va_up (va_up (va_up (va_up (fun _ => none) 0 (some car0)) 1 (some car1)) 2 (some car2)) 3 (some car3)) 4 (some car4)) := by rw [hS11]; exact (pup_n (ne_cells hf_cal hf_cor0 (by nofun))).trans hf_cal
            have hL55 : cal ∈ S16.1 := by rw [hS18]; exact hL53
            have hf56 : S16.2 cal = aQ (cy 2) 5 (va_up (va_up (va_up (va_up (va_up (fun _ => none) 0 (some car0)) 1 (some car1)) 2 (some car2)) 3 (some car3)) 4 (some car4)) := by rw [hS18]; exact (pup_n (ne_cells hf54 hf15 ne_QN)).trans hf54
            have hL57 : cor0 ∈ S16.1 := by rw [hS18]; exact hL12
            have hf58 : S16.2 cor0 = .inr (8, [.ref cob0, .int (nI wN)]) := by rw [hS18]; exact (pup_n (ne_cells hf13 hf15 (by nofun))).trans hf13
            have hL59 : car0 ∈ S9.1 := by rw [hS11]; exact hL_car0
            have hf60 : S9.2 car0 = .inr (8, [.ref cab0, .int (nI 0)]) := by rw [hS11]; exact (pup_n hne_car0_cor0).trans hf_car0
            have hL61 : car0 ∈ S16.1 := by rw [hS18]; exact hL59
            have hf62 : S16.2 car0 = .inr (8, [.ref cab0, .int (nI 0)]) := by rw [hS18]; exact (pup_n (ne_cells hf60 hf15 (by nofun))).trans hf60
            have hL63 : cab0 ∈ S9.1 := by rw [hS11]; exact hL_cab0
            have hf64 : S9.2 cab0 = aN (cy 0) 32 (fun _ => 0) := by rw [hS11]; exact (pup_n (ne_cells hf_cab0 hf_cor0 (by nofun))).trans hf_cab0
            have hL65 : cab0 ∈ S16.1 := by rw [hS18]; exact hL63
            have hf66 : S16.2 cab0 = aN (cy 0) 32 (fun _ => 0) := by rw [hS18]; exact (pup_n hne_cab0_cob0).trans hf64
            refine p_callv (va_runV (As := []) (rest := []) C.fix (e_X11_settle0 l D cy S16 H.size x ch ln sl mk co ca su lt lk mb col con cal can cor0 cob0 car0 cab0 (va_up (va_up (va_up (va_up (va_up (fun _ => none) 0 (some cor0)) 1 (some cor1)) 2 (some cor2)) 3 (some cor3)) 4 (some cor4)) (va_up (va_up (va_up (va_up (va_up (fun _ => none) 0 (some car0)) 1 (some car1)) 2 (some car2)) 3 (some car3)) 4 (some car4)) (fun _ => 0) (rnum (fun _ => 0) wN 0 vN wN wN) (fun _ => 0) 0 wN 0 (nI 0) (nI 0) (nI 0) 0 0 0 hL23 hf24 hL27 hf28 hL31 hf32 hL35 hf36 hL39 hf40 hL43 hf44 hL47 hf48 hL51 hf52 hL55 hf56 hL57 hf58 hL19 hf20 hL61 hf62 hL65 hf66 (Ne.symm hne_cab0_cob0) (Ne.symm hne_car0_cor0) hne_mk_car0 hne_mb_cab0 (by first | assumption | rfl | simp [va_up]) (by first | assumption | rfl | simp [va_up]) (by first | assumption | exact (fun _ => Nat.zero_le 2) | exact rnum_le (fun _ => Nat.zero_le 2) | exact rcop_le (by first | assumption | exact (fun _ => Nat.zero_le 2)) (by first | assumption | exact (fun _ => Nat.zero_le 2)) | exact rharm_le (rcop_le (by first | assumption | exact (fun _ => Nat.zero_le 2)) (by first | assumption | exact (fun _ => Nat.zero_le 2))) | exact rturn_le (fun _ => Nat.zero_le 2)) (by first | assumption | exact (fun _ => Nat.zero_le 2) | exact rnum_le (fun _ => Nat.zero_le 2) | exact rcop_le (by first | assumption | exact (fun _ => Nat.zero_le 2)) (by first | assumption | exact (fun _ => Nat.zero_le 2)) | exact rharm_le (rcop_le (by first | assumption | exact (fun _ => Nat.zero_le 2)) (by first | assumption | exact (fun _ => Nat.zero_le 2))) | exact rturn_le (fun _ => Nat.zero_le 2)) (by first | assumption | exact (fun _ => Nat.zero_le 2) | exact rnum_le (fun _ => Nat.zero_le 2) | exact rcop_le (by first | assumption | exact (fun _ => Nat.zero_le 2)) (by first | assumption | exact (fun _ => Nat.zero_le 2)) | exact rharm_le (rcop_le (by first | assumption | exact (fun _ => Nat.zero_le 2)) (by first | assumption | exact (fun _ => Nat.zero_le 2))) | exact rturn_le (fun _ => Nat.zero_le 2)) (by first | assumption | decide | omega) (by first | assumption | decide | omega) (by first | assumption | decide | omega) (by first | assumption | decide | omega) (by first | assumption | decide | omega) (by first | assumption | decide | omega) (by first | assumption | (intro h; exact absurd h (by decide)) | (intro h; exact absurd h (by omega))) (by first | assumption | (intro h; exact absurd h (by decide)) | (intro h; exact absurd h (by omega)))) (cwV 0 C.2.2.2.2.1 (gU_V mw_187 mw_188 mw_189 mw_2 (subU mw_190)) rfl rfl rfl hde_X11_write_V_6 ⟨Nat.le_of_ble_eq_true rfl, Nat.le_of_ble_eq_true rfl⟩) (p_preV C hw hL23 hf24 rfl) rfl rfl hl.1 rfl (lv_room (Nat.le_of_ble_eq_true rfl)) dX11_write_117 ⟨Nat.le_of_ble_eq_true rfl, Nat.le_of_ble_eq_true rfl⟩) hw hA (fun S67 H locs hpost hw => ?_)
            obtain ⟨hS69, hfr70⟩ := hpost
            refine lv_iload hx hb dX11_write_120 (lv_at hl 0 rfl) ?_
            refine vx_ret ?_
            refine W.widen (k := 1) (n := 6) (Nat.le_of_ble_eq_true rfl) (Nat.le_of_ble_eq_true rfl) ?_
            exact (p_iret C hw (⟨⟨by omega, by omega, hf.1, by rw [hwi, Int.toNat_natCast]; exact hf.2⟩, rfl, (by simp only [hS69, hS18, hS11, pup, pnew, List.append_nil, List.append_assoc, List.cons_append, List.nil_append]), (fun a_ ha_ hn_0 hn_1 hn_2 hn_3 => ((hfr70 a_ (show a_ ∈ S16.1 from by rw [hS18]; exact (show a_ ∈ S9.1 from by rw [hS11]; exact ha_)) hn_2 hn_3).trans ((show S16.2 a_ = S9.2 a_ from by rw [hS18]; exact pup_n hn_1).trans (show S9.2 a_ = S.2 a_ from by rw [hS11]; exact pup_n hn_0))))⟩) hr hlocks dX11_write_122)
          · exfalso; omega
        · exfalso; omega
      · skip
        have hf := fb_f h_26
        rw [fitsB_z hw16] at hf
        exact x_throw (y := yX11_write) C hflags hw hE (kS := 1) (kT := 0) mw_119 mw_120 tIA_x rfl rfl (by decide) tIA_n tIA_g hl.1.symm dX11_write_29 dX11_write_32 dX11_write_33 dX11_write_35 dX11_write_38 htab (Nat.le_of_ble_eq_true rfl) (Nat.le_of_ble_eq_true rfl) (Nat.le_of_ble_eq_true rfl) (Nat.le_of_ble_eq_true rfl) hlocks (⟨rfl, (fun h => hf ⟨h.2.2.1, by have h4 := h.2.2.2; rw [hwi, Int.toNat_natCast] at h4; exact h4⟩), rfl⟩) (Nat.le_of_ble_eq_true rfl) (Nat.le_of_ble_eq_true rfl)
    · skip
      exact x_throw (y := yX11_write) C hflags hw hE (kS := 0) (kT := 0) mw_119 mw_120 tIA_x rfl rfl (by decide) tIA_n tIA_g hl.1.symm dX11_write_11 dX11_write_14 dX11_write_15 dX11_write_17 dX11_write_20 htab (Nat.le_of_ble_eq_true rfl) (Nat.le_of_ble_eq_true rfl) (Nat.le_of_ble_eq_true rfl) (Nat.le_of_ble_eq_true rfl) hlocks (⟨rfl, (fun h => by obtain ⟨h1, h2, h3, h4⟩ := h; omega), rfl⟩) (Nat.le_of_ble_eq_true rfl) (Nat.le_of_ble_eq_true rfl)

theorem hde_X11_clear_V_0 : yX4_at.cls = RX4 ∧ yX4_at.cls ≠ "java/lang/invoke/MethodHandle" ∧ yX4_at.cls ≠ "java/lang/invoke/VarHandle" ∧ (parseMethodDescriptor yX4_at.desc).map (fun d => d.parameters.length) = some 1 := by decide +kernel
theorem hde_X11_clear_V_1 : yX7_size.cls = RX7 ∧ yX7_size.cls ≠ "java/lang/invoke/MethodHandle" ∧ yX7_size.cls ≠ "java/lang/invoke/VarHandle" ∧ (parseMethodDescriptor yX7_size.desc).map (fun d => d.parameters.length) = some 0 := by decide +kernel
theorem hde_X11_clear_V_2 : yX7_resize.cls = RX7 ∧ yX7_resize.cls ≠ "java/lang/invoke/MethodHandle" ∧ yX7_resize.cls ≠ "java/lang/invoke/VarHandle" ∧ (parseMethodDescriptor yX7_resize.desc).map (fun d => d.parameters.length) = some 1 := by decide +kernel
theorem hde_X11_clear_V_3 : yX11_settle.cls = RX11 ∧ yX11_settle.cls ≠ "java/lang/invoke/MethodHandle" ∧ yX11_settle.cls ≠ "java/lang/invoke/VarHandle" ∧ (parseMethodDescriptor yX11_settle.desc).map (fun d => d.parameters.length) = some 0 := by decide +kernel
set_option maxHeartbeats 4000000 in
set_option maxRecDepth 100000 in
/-- clear -/
theorem e_X11_clear (l : Launch) (D : va_G) (cy : Nat → ClassId) (S : pS) (sz : Nat) (x : Nat) (ch : Nat) (ln : Nat) (sl : Nat) (mk : Nat) (co : Nat) (ca : Nat) (su : Nat) (lt : Nat) (lk : Nat) (mb : Nat) (col : Nat) (con : Nat) (cor0 : Nat) (cor1 : Nat) (cor2 : Nat) (cor3 : Nat) (cor4 : Nat) (cob0 : Nat) (cal : Nat) (can : Nat) (car0 : Nat) (car1 : Nat) (car2 : Nat) (car3 : Nat) (car4 : Nat) (cab0 : Nat) (hL_x : x ∈ S.1) (hf_x : S.2 x = .inr (11, [.ref ch, .ref ln, .ref sl, .ref mk, .ref co, .ref ca, .ref su, .ref lt])) (hL_ch : ch ∈ S.1) (hf_ch : S.2 ch = .inr (2, [.ref lk, .int (nI 0)])) (hL_ln : ln ∈ S.1) (hf_ln : S.2 ln = .inr (6, [.int (nI 0), .int (nI 0), .int (nI 0), .int (nI 0)])) (hL_mk : mk ∈ S.1) (hf_mk : S.2 mk = .inr (8, [.ref mb, .int (nI 320)])) (hL_mb : mb ∈ S.1) (hf_mb : S.2 mb = aN (cy 0) 320 (fun _ => 0)) (hL_co : co ∈ S.1) (hf_co : S.2 co = .inr (5, [.ref col, .ref con])) (hL_col : col ∈ S.1) (hf_col : S.2 col = aQ (cy 2) 5 (va_up (va_up (va_up (va_up (va_up (fun _ => none) 0 (some cor0)) 1 (some cor1)) 2 (some cor2)) 3 (some cor3)) 4 (some cor4))) (hL_cor0 : cor0 ∈ S.1) (hf_cor0 : S.2 cor0 = .inr (8, [.ref cob0, .int (nI 0)])) (hL_cob0 : cob0 ∈ S.1) (hf_cob0 : S.2 cob0 = aN (cy 0) 32 (fun _ => 0)) (hL_ca : ca ∈ S.1) (hf_ca : S.2 ca = .inr (5, [.ref cal, .ref can])) (hL_cal : cal ∈ S.1) (hf_cal : S.2 cal = aQ (cy 2) 5 (va_up (va_up (va_up (va_up (va_up (fun _ => none) 0 (some car0)) 1 (some car1)) 2 (some car2)) 3 (some car3)) 4 (some car4))) (hL_car0 : car0 ∈ S.1) (hf_car0 : S.2 car0 = .inr (8, [.ref cab0, .int (nI 0)])) (hL_cab0 : cab0 ∈ S.1) (hf_cab0 : S.2 cab0 = aN (cy 0) 32 (fun _ => 0)) (hne_cob0_cab0 : cob0 ≠ cab0) (hne_cor0_car0 : cor0 ≠ car0) (hne_mk_car0 : mk ≠ car0) (hne_mb_cab0 : mb ≠ cab0) : Met l yX11_clear (Cond.code yX11_clear cX11_clear 3 (some .int) :: lwU) ({ frames := 6, cells := 0, slots := 0, locals := 131 }) (pPc D cy S sz [.ref x]) (pQi D cy S sz (fun r S' => r = (nI 0) ∧ S'.1 = S.1 ++ [] ∧ (∀ a_, a_ ∈ S.1 → a_ ≠ car0 → a_ ≠ cab0 → S'.2 a_ = S.2 a_))) 0 0 (pA S sz) := by
  refine Met.ofW (cc := cX11_clear) (maxL := 3) (ret := (some .int)) (by decide) rfl ?_
  intro p e s m args below meth c s₁ B hml hv
  obtain ⟨rfl, rfl, C, hw, hA, hr, hlocks⟩ := p_start B hml hv
  have hx := C.1
  have hb := C.2.1
  have hl := lv_entry ([.ref x]) (n := 3) (Nat.le_of_ble_eq_true rfl)
  rw [lg_entry_eq]
  generalize (lg_sl ([.ref x]) ++ List.replicate (3 - (lg_sl ([.ref x])).length) Slot.unset).toArray = ls at hl ⊢
  have hl : lv_has ls 3 [(0, .ref x)] := hl
  have hin_RX11 : ∀ w ∈ u_ws RX11 TX11 8, w ∈ (Cond.code yX11_clear cX11_clear 3 (some .int) :: lwU) := fun w h => mU (sub_RX11 w h)
  refine lv_aload_n hx hb dX11_clear_0 rfl (lv_at hl 0 rfl) ?_
  refine p_get C hw (ci := 11) (Cn := RX11) (T := TX11) (N := 8) hL_x hf_x rfl hin_RX11 4 (by decide) (mU mw_30) rfl rfl dX11_clear_1 ?_
  refine lv_iconst (v := nI 0) hx hb dX11_clear_4 (by decide) ?_
  refine p_callq (va_runV (As := [.int (nI 0)]) (rest := []) C.fix (c_X4_at l D cy S s.heap.size co col con 0 cor0 (va_up (va_up (va_up (va_up (va_up (fun _ => none) 0 (some cor0)) 1 (some cor1)) 2 (some cor2)) 3 (some cor3)) 4 (some cor4)) hL_co hf_co hL_col hf_col (by first | assumption | decide | omega) (by first | assumption | rfl | simp [va_up])) (cwV 1 C.2.2.2.2.1 (gU_V mw_126 mw_127 mw_128 mw_29 sub_X4_at) rfl rfl rfl hde_X11_clear_V_0 ⟨Nat.le_of_ble_eq_true rfl, Nat.le_of_ble_eq_true rfl⟩) (p_preV C hw hL_co hf_co rfl) rfl rfl hl.1 rfl (lv_room (Nat.le_of_ble_eq_true rfl)) dX11_clear_5 ⟨Nat.le_of_ble_eq_true rfl, Nat.le_of_ble_eq_true rfl⟩) hw hA (fun r2 S1 H locs hpost hw => ?_)
  obtain ⟨hr_, hS_⟩ := hpost
  subst hr_
  subst hS_
  refine lv_astore_n (lv' := [(1, .ref cor0), (0, .ref x)]) hx hb dX11_clear_8 rfl hl (by decide) rfl (fun ls hl => ?_)
  refine lv_aload_n hx hb dX11_clear_9 rfl (lv_at hl 0 rfl) ?_
  refine p_calli (va_runV (As := []) (rest := []) C.fix (c_X7_size l D cy S H.size cor0 cob0 0 hL_cor0 hf_cor0) (cwV 0 C.2.2.2.2.1 (gU_V mw_130 mw_131 mw_132 mw_25 sub_X7_size) rfl rfl rfl hde_X11_clear_V_1 ⟨Nat.le_of_ble_eq_true rfl, Nat.le_of_ble_eq_true rfl⟩) (p_preV C hw hL_cor0 hf_cor0 rfl) rfl rfl hl.1 rfl (lv_room (Nat.le_of_ble_eq_true rfl)) dX11_clear_10 ⟨Nat.le_of_ble_eq_true rfl, Nat.le_of_ble_eq_true rfl⟩) hw hA (fun r4 S3 H locs hpost hw => ?_)
  obtain ⟨hr_, hS_⟩ := hpost
  subst hr_
  subst hS_
  refine lv_istore_n (lv' := [(2, .int (nI 0)), (1, .ref cor0), (0, .ref x)]) hx hb dX11_clear_13 rfl hl (by decide) rfl (fun ls hl => ?_)
  refine lv_aload_n hx hb dX11_clear_14 rfl (lv_at hl 1 rfl) ?_
  refine lv_iconst (v := nI 0) hx hb dX11_clear_15 (by decide) ?_
  refine p_callv (va_runV (As := [.int (nI 0)]) (rest := []) C.fix (c_X7_resize l D cy S H.size cor0 cob0 32 0 0 (fun _ => 0) hL_cor0 hf_cor0 hL_cob0 hf_cob0 (by first | assumption | decide | omega) (by first | assumption | decide | omega)) (cwV 1 C.2.2.2.2.1 (gU_V mw_61 mw_62 mw_63 mw_25 sub_X7_resize) rfl rfl rfl hde_X11_clear_V_2 ⟨Nat.le_of_ble_eq_true rfl, Nat.le_of_ble_eq_true rfl⟩) (p_preV C hw hL_cor0 hf_cor0 rfl) rfl rfl hl.1 rfl (lv_room (Nat.le_of_ble_eq_true rfl)) dX11_clear_16 ⟨Nat.le_of_ble_eq_true rfl, Nat.le_of_ble_eq_true rfl⟩) hw hA (fun S5 H locs hpost hw => ?_)
  have hS_ := hpost
  try rw [show min 0 32 = 0 from rfl] at hS_
  rw [pup_self hf_cor0] at hS_
  replace hS_ := hS_.symm
  subst hS_
  refine lv_aload_n hx hb dX11_clear_19 rfl (lv_at hl 2 rfl) ?_
  refine p_callv (va_runV (As := []) (rest := []) C.fix (e_X11_settle0 l D cy S H.size x ch ln sl mk co ca su lt lk mb col con cal can cor0 cob0 car0 cab0 (va_up (va_up (va_up (va_up (va_up (fun _ => none) 0 (some cor0)) 1 (some cor1)) 2 (some cor2)) 3 (some cor3)) 4 (some cor4)) (va_up (va_up (va_up (va_up (va_up (fun _ => none) 0 (some car0)) 1 (some car1)) 2 (some car2)) 3 (some car3)) 4 (some car4)) (fun _ => 0) (fun _ => 0) (fun _ => 0) 0 0 0 (nI 0) (nI 0) (nI 0) 0 0 0 hL_x hf_x hL_ch hf_ch hL_mk hf_mk hL_mb hf_mb hL_ln hf_ln hL_co hf_co hL_col hf_col hL_ca hf_ca hL_cal hf_cal hL_cor0 hf_cor0 hL_cob0 hf_cob0 hL_car0 hf_car0 hL_cab0 hf_cab0 hne_cob0_cab0 hne_cor0_car0 hne_mk_car0 hne_mb_cab0 (by first | assumption | rfl | simp [va_up]) (by first | assumption | rfl | simp [va_up]) (by first | assumption | exact (fun _ => Nat.zero_le 2) | exact rnum_le (fun _ => Nat.zero_le 2) | exact rcop_le (by first | assumption | exact (fun _ => Nat.zero_le 2)) (by first | assumption | exact (fun _ => Nat.zero_le 2)) | exact rharm_le (rcop_le (by first | assumption | exact (fun _ => Nat.zero_le 2)) (by first | assumption | exact (fun _ => Nat.zero_le 2))) | exact rturn_le (fun _ => Nat.zero_le 2)) (by first | assumption | exact (fun _ => Nat.zero_le 2) | exact rnum_le (fun _ => Nat.zero_le 2) | exact rcop_le (by first | assumption | exact (fun _ => Nat.zero_le 2)) (by first | assumption | exact (fun _ => Nat.zero_le 2)) | exact rharm_le (rcop_le (by first | assumption | exact (fun _ => Nat.zero_le 2)) (by first | assumption | exact (fun _ => Nat.zero_le 2))) | exact rturn_le (fun _ => Nat.zero_le 2)) (by first | assumption | exact (fun _ => Nat.zero_le 2) | exact rnum_le (fun _ => Nat.zero_le 2) | exact rcop_le (by first | assumption | exact (fun _ => Nat.zero_le 2)) (by first | assumption | exact (fun _ => Nat.zero_le 2)) | exact rharm_le (rcop_le (by first | assumption | exact (fun _ => Nat.zero_le 2)) (by first | assumption | exact (fun _ => Nat.zero_le 2))) | exact rturn_le (fun _ => Nat.zero_le 2)) (by first | assumption | decide | omega) (by first | assumption | decide | omega) (by first | assumption | decide | omega) (by first | assumption | decide | omega) (by first | assumption | decide | omega) (by first | assumption | decide | omega) (by first | assumption | (intro h; exact absurd h (by decide)) | (intro h; exact absurd h (by omega))) (by first | assumption | (intro h; exact absurd h (by decide)) | (intro h; exact absurd h (by omega)))) (cwV 0 C.2.2.2.2.1 (gU_V mw_187 mw_188 mw_189 mw_2 (subU mw_190)) rfl rfl rfl hde_X11_clear_V_3 ⟨Nat.le_of_ble_eq_true rfl, Nat.le_of_ble_eq_true rfl⟩) (p_preV C hw hL_x hf_x rfl) rfl rfl hl.1 rfl (lv_room (Nat.le_of_ble_eq_true rfl)) dX11_clear_20 ⟨Nat.le_of_ble_eq_true rfl, Nat.le_of_ble_eq_true rfl⟩) hw hA (fun S7 H locs hpost hw => ?_)
  obtain ⟨hS9, hfr10⟩ := hpost
  refine lv_iload_n hx hb dX11_clear_23 rfl (lv_at hl 0 rfl) ?_
  exact (p_iret C hw (⟨rfl, (by simp only [hS9, pup, pnew, List.append_nil, List.append_assoc, List.cons_append, List.nil_append]), (fun a_ ha_ hn_0 hn_1 => (hfr10 a_ ha_ hn_0 hn_1))⟩) hr hlocks dX11_clear_24)

theorem hde_X11_channel_V_0 : yX5_kind.cls = RX5 ∧ yX5_kind.cls ≠ "java/lang/invoke/MethodHandle" ∧ yX5_kind.cls ≠ "java/lang/invoke/VarHandle" ∧ (parseMethodDescriptor yX5_kind.desc).map (fun d => d.parameters.length) = some 0 := by decide +kernel
theorem hde_X11_channel_V_1 : yX5_become.cls = RX5 ∧ yX5_become.cls ≠ "java/lang/invoke/MethodHandle" ∧ yX5_become.cls ≠ "java/lang/invoke/VarHandle" ∧ (parseMethodDescriptor yX5_become.desc).map (fun d => d.parameters.length) = some 4 := by decide +kernel
theorem hde_X11_channel_V_2 : yX11_settle.cls = RX11 ∧ yX11_settle.cls ≠ "java/lang/invoke/MethodHandle" ∧ yX11_settle.cls ≠ "java/lang/invoke/VarHandle" ∧ (parseMethodDescriptor yX11_settle.desc).map (fun d => d.parameters.length) = some 0 := by decide +kernel
set_option maxHeartbeats 4000000 in
set_option maxRecDepth 100000 in
/-- channel -/
theorem e_X11_channel (l : Launch) (hflags : l.stackTraces = false) (D : va_G) (cy : Nat → ClassId) (ed : Nat) (S : pS) (sz : Nat) (x : Nat) (ch : Nat) (ln : Nat) (sl : Nat) (mk : Nat) (co : Nat) (ca : Nat) (su : Nat) (lt : Nat) (lk : Nat) (mb : Nat) (col : Nat) (con : Nat) (cor0 : Nat) (cor1 : Nat) (cor2 : Nat) (cor3 : Nat) (cor4 : Nat) (cob0 : Nat) (cal : Nat) (can : Nat) (car0 : Nat) (car1 : Nat) (car2 : Nat) (car3 : Nat) (car4 : Nat) (cab0 : Nat) (k : Int32) (a : Int32) (b : Int32) (c9 : Int32) (hL_x : x ∈ S.1) (hf_x : S.2 x = .inr (11, [.ref ch, .ref ln, .ref sl, .ref mk, .ref co, .ref ca, .ref su, .ref lt])) (hL_ch : ch ∈ S.1) (hf_ch : S.2 ch = .inr (2, [.ref lk, .int (nI 0)])) (hL_ln : ln ∈ S.1) (hf_ln : S.2 ln = .inr (6, [.int (nI 0), .int (nI 0), .int (nI 0), .int (nI 0)])) (hL_mk : mk ∈ S.1) (hf_mk : S.2 mk = .inr (8, [.ref mb, .int (nI 320)])) (hL_mb : mb ∈ S.1) (hf_mb : S.2 mb = aN (cy 0) 320 (fun _ => 0)) (hL_co : co ∈ S.1) (hf_co : S.2 co = .inr (5, [.ref col, .ref con])) (hL_col : col ∈ S.1) (hf_col : S.2 col = aQ (cy 2) 5 (va_up (va_up (va_up (va_up (va_up (fun _ => none) 0 (some cor0)) 1 (some cor1)) 2 (some cor2)) 3 (some cor3)) 4 (some cor4))) (hL_cor0 : cor0 ∈ S.1) (hf_cor0 : S.2 cor0 = .inr (8, [.ref cob0, .int (nI 0)])) (hL_cob0 : cob0 ∈ S.1) (hf_cob0 : S.2 cob0 = aN (cy 0) 32 (fun _ => 0)) (hL_ca : ca ∈ S.1) (hf_ca : S.2 ca = .inr (5, [.ref cal, .ref can])) (hL_cal : cal ∈ S.1) (hf_cal : S.2 cal = aQ (cy 2) 5 (va_up (va_up (va_up (va_up (va_up (fun _ => none) 0 (some car0)) 1 (some car1)) 2 (some car2)) 3 (some car3)) 4 (some car4))) (hL_car0 : car0 ∈ S.1) (hf_car0 : S.2 car0 = .inr (8, [.ref cab0, .int (nI 0)])) (hL_cab0 : cab0 ∈ S.1) (hf_cab0 : S.2 cab0 = aN (cy 0) 32 (fun _ => 0)) (hne_cob0_cab0 : cob0 ≠ cab0) (hne_cor0_car0 : cor0 ≠ car0) (hne_mk_car0 : mk ≠ car0) (hne_mb_cab0 : mb ≠ cab0) : vx_Met l yX11_channel (Cond.code yX11_channel cX11_channel 6 (some .int) :: lwU) ({ frames := 6, cells := 1, slots := 6, locals := 131 }) (ePc D cy ed S sz [.ref x, .int k, .int a, .int b, .int c9]) (pQi D cy S sz (fun r S' => (okC k a b c9) ∧ r = (nI 0) ∧ S'.1 = S.1 ++ [] ∧ (∀ a_, a_ ∈ S.1 → a_ ≠ ln → a_ ≠ car0 → a_ ≠ cab0 → S'.2 a_ = S.2 a_))) (pX D S sz (fun E S' => (E = "java/lang/IllegalArgumentException" ∧ (¬ okC k a b c9) ∧ S = S'))) 1 6 (pA S sz) := by
  refine vx_ofW (cc := cX11_channel) (maxL := 6) (ret := (some .int)) (by decide) rfl ?_
  intro p e s m args below meth c s₁ B hml htab hv
  obtain ⟨rfl, rfl, C, hw, hA, hr, hlocks, hE⟩ := e_start B hml hv
  have hx := C.1
  have hb := C.2.1
  have hl := lv_entry ([.ref x, .int k, .int a, .int b, .int c9]) (n := 6) (Nat.le_of_ble_eq_true rfl)
  rw [lg_entry_eq]
  generalize (lg_sl ([.ref x, .int k, .int a, .int b, .int c9]) ++ List.replicate (6 - (lg_sl ([.ref x, .int k, .int a, .int b, .int c9])).length) Slot.unset).toArray = ls at hl ⊢
  have hl : lv_has ls 6 [(0, .ref x), (1, .int k), (2, .int a), (3, .int b), (4, .int c9)] := hl
  have hin_RX11 : ∀ w ∈ u_ws RX11 TX11 8, w ∈ (Cond.code yX11_channel cX11_channel 6 (some .int) :: lwU) := fun w h => mU (sub_RX11 w h)
  refine lv_iload_n hx hb dX11_channel_0 rfl (lv_at hl 1 rfl) ?_
  refine z_if_lt (tgt := 9) hx hb rfl dX11_channel_1 (by decide) (fun h_1 => ?_) (fun h_1 => ?_)
  · skip
    exact x_throw (y := yX11_channel) C hflags hw hE (kS := 15) (kT := 0) mw_119 mw_120 tIA_x rfl rfl (by decide) tIA_n tIA_g hl.1.symm dX11_channel_9 dX11_channel_12 dX11_channel_13 dX11_channel_15 dX11_channel_18 htab (Nat.le_of_ble_eq_true rfl) (Nat.le_of_ble_eq_true rfl) (Nat.le_of_ble_eq_true rfl) (Nat.le_of_ble_eq_true rfl) hlocks (⟨rfl, (fun h => by unfold okC at h; omega), rfl⟩) (Nat.le_of_ble_eq_true rfl) (Nat.le_of_ble_eq_true rfl)
  · skip
    refine lv_iload_n hx hb dX11_channel_4 rfl (lv_at hl 1 rfl) ?_
    refine lv_iconst (v := nI 3) hx hb dX11_channel_5 (by decide) ?_
    refine z_icmp_le (tgt := 19) hx hb rfl (nI_toInt (by first | decide | omega)) dX11_channel_6 (by decide) (fun h_6 => ?_) (fun h_6 => ?_)
    · skip
      refine lv_iload_n hx hb dX11_channel_19 rfl (lv_at hl 1 rfl) ?_
      refine lv_iconst (v := nI 1) hx hb dX11_channel_20 (by decide) ?_
      refine z_icmp_eq (tgt := 29) hx hb rfl (nI_toInt (by first | decide | omega)) dX11_channel_21 (by decide) (fun h_21 => ?_) (fun h_21 => ?_)
      · skip
        refine lv_iload_n hx hb dX11_channel_29 rfl (lv_at hl 2 rfl) ?_
        refine z_if_lt (tgt := 50) hx hb rfl dX11_channel_30 (by decide) (fun h_30 => ?_) (fun h_30 => ?_)
        · skip
          exact x_throw (y := yX11_channel) C hflags hw hE (kS := 16) (kT := 0) mw_119 mw_120 tIA_x rfl rfl (by decide) tIA_n tIA_g hl.1.symm dX11_channel_50 dX11_channel_53 dX11_channel_54 dX11_channel_56 dX11_channel_59 htab (Nat.le_of_ble_eq_true rfl) (Nat.le_of_ble_eq_true rfl) (Nat.le_of_ble_eq_true rfl) (Nat.le_of_ble_eq_true rfl) hlocks (⟨rfl, (fun h => by unfold okC at h; omega), rfl⟩) (Nat.le_of_ble_eq_true rfl) (Nat.le_of_ble_eq_true rfl)
        · skip
          refine lv_iload_n hx hb dX11_channel_33 rfl (lv_at hl 2 rfl) ?_
          refine lv_sipush (v := nI 1000) hx hb dX11_channel_34 (by decide) ?_
          refine z_icmp_gt (tgt := 50) hx hb rfl (nI_toInt (by first | decide | omega)) dX11_channel_37 (by decide) (fun h_37 => ?_) (fun h_37 => ?_)
          · skip
            exact x_throw (y := yX11_channel) C hflags hw hE (kS := 16) (kT := 0) mw_119 mw_120 tIA_x rfl rfl (by decide) tIA_n tIA_g hl.1.symm dX11_channel_50 dX11_channel_53 dX11_channel_54 dX11_channel_56 dX11_channel_59 htab (Nat.le_of_ble_eq_true rfl) (Nat.le_of_ble_eq_true rfl) (Nat.le_of_ble_eq_true rfl) (Nat.le_of_ble_eq_true rfl) hlocks (⟨rfl, (fun h => by unfold okC at h; omega), rfl⟩) (Nat.le_of_ble_eq_true rfl) (Nat.le_of_ble_eq_true rfl)
          · skip
            refine lv_iload_n hx hb dX11_channel_40 rfl (lv_at hl 3 rfl) ?_
            refine z_if_lt (tgt := 50) hx hb rfl dX11_channel_41 (by decide) (fun h_41 => ?_) (fun h_41 => ?_)
            · skip
              exact x_throw (y := yX11_channel) C hflags hw hE (kS := 16) (kT := 0) mw_119 mw_120 tIA_x rfl rfl (by decide) tIA_n tIA_g hl.1.symm dX11_channel_50 dX11_channel_53 dX11_channel_54 dX11_channel_56 dX11_channel_59 htab (Nat.le_of_ble_eq_true rfl) (Nat.le_of_ble_eq_true rfl) (Nat.le_of_ble_eq_true rfl) (Nat.le_of_ble_eq_true rfl) hlocks (⟨rfl, (fun h => by unfold okC at h; omega), rfl⟩) (Nat.le_of_ble_eq_true rfl) (Nat.le_of_ble_eq_true rfl)
            · skip
              refine lv_iload_n hx hb dX11_channel_44 rfl (lv_at hl 3 rfl) ?_
              refine lv_ldc (v := nI 1000000) hx hb C.2.2.2.1 (C.2.2.2.2.1 (.constant RX11 152 (1000000)) (mU mw_711)) dX11_channel_45 ?_
              refine z_icmp_le (tgt := 60) hx hb rfl (nI_toInt (by first | decide | omega)) dX11_channel_47 (by decide) (fun h_47 => ?_) (fun h_47 => ?_)
              · skip
                refine lv_iload_n hx hb dX11_channel_60 rfl (lv_at hl 1 rfl) ?_
                refine lv_iconst (v := nI 2) hx hb dX11_channel_61 (by decide) ?_
                refine z_icmp_ne (tgt := 111) hx hb rfl (nI_toInt (by first | decide | omega)) dX11_channel_62 (by decide) (fun h_62 => ?_) (fun h_62 => ?_)
                · skip
                  obtain ⟨kN, hk31, rfl, hki⟩ := z_nat (x := k) (by omega)
                  have hk3 : kN ≤ 3 := by omega
                  refine lv_aload_n hx hb dX11_channel_111 rfl (lv_at hl 0 rfl) ?_
                  refine p_get C hw (ci := 11) (Cn := RX11) (T := TX11) (N := 8) hL_x hf_x rfl hin_RX11 1 (by decide) (mU mw_21) rfl rfl dX11_channel_112 ?_
                  refine p_calli (va_runV (As := []) (rest := []) C.fix (c_X5_kind l D cy S s.heap.size ln 0 (nI 0) (nI 0) (nI 0) hL_ln hf_ln) (cwV 0 C.2.2.2.2.1 (gU_V mw_712 mw_713 mw_714 mw_20 sub_X5_kind) rfl rfl rfl hde_X11_channel_V_0 ⟨Nat.le_of_ble_eq_true rfl, Nat.le_of_ble_eq_true rfl⟩) (p_preV C hw hL_ln hf_ln rfl) rfl rfl hl.1 rfl (lv_room (Nat.le_of_ble_eq_true rfl)) dX11_channel_115 ⟨Nat.le_of_ble_eq_true rfl, Nat.le_of_ble_eq_true rfl⟩) hw hA (fun r2 S1 H locs hpost hw => ?_)
                  obtain ⟨hr_, hS_⟩ := hpost
                  subst hr_
                  subst hS_
                  refine lv_istore (lv' := [(5, .int (nI 0)), (0, .ref x), (1, .int (nI kN)), (2, .int a), (3, .int b), (4, .int c9)]) hx hb dX11_channel_118 hl (by decide) rfl (fun ls hl => ?_)
                  refine lv_aload_n hx hb dX11_channel_120 rfl (lv_at hl 1 rfl) ?_
                  refine p_get C hw (ci := 11) (Cn := RX11) (T := TX11) (N := 8) hL_x hf_x rfl hin_RX11 1 (by decide) (mU mw_21) rfl rfl dX11_channel_121 ?_
                  refine lv_iload_n hx hb dX11_channel_124 rfl (lv_at hl 2 rfl) ?_
                  refine lv_iload_n hx hb dX11_channel_125 rfl (lv_at hl 3 rfl) ?_
                  refine lv_iload_n hx hb dX11_channel_126 rfl (lv_at hl 4 rfl) ?_
                  refine lv_iload hx hb dX11_channel_127 (lv_at hl 5 rfl) ?_
                  refine p_callv (va_runV (As := [.int (nI kN), .int a, .int b, .int c9]) (rest := []) C.fix (c_X5_become l D cy S H.size ln 0 (nI 0) (nI 0) (nI 0) kN a b c9 hL_ln hf_ln) (cwV 4 C.2.2.2.2.1 (gU_V mw_716 mw_717 mw_718 mw_20 sub_X5_become) rfl rfl rfl hde_X11_channel_V_1 ⟨Nat.le_of_ble_eq_true rfl, Nat.le_of_ble_eq_true rfl⟩) (p_preV C hw hL_ln hf_ln rfl) rfl rfl hl.1 rfl (lv_room (Nat.le_of_ble_eq_true rfl)) dX11_channel_129 ⟨Nat.le_of_ble_eq_true rfl, Nat.le_of_ble_eq_true rfl⟩) hw hA (fun S3 H locs hpost hw => ?_)
                  have hS_ := hpost
                  have hS5 := hS_
                  have hL6 : ln ∈ S3.1 := by rw [hS5]; exact hL_ln
                  have hf7 : S3.2 ln = .inr (6, [.int (nI kN), .int a, .int b, .int c9]) := by rw [hS5]; exact pup_s
                  refine lv_aload_n hx hb dX11_channel_132 rfl (lv_at hl 1 rfl) ?_
                  have hL8 : x ∈ S3.1 := by rw [hS5]; exact hL_x
                  have hf9 : S3.2 x = .inr (11, [.ref ch, .ref ln, .ref sl, .ref mk, .ref co, .ref ca, .ref su, .ref lt]) := by rw [hS5]; exact (pup_n (ne_cells hf_x hf_ln (by nofun))).trans hf_x
                  have hL10 : ch ∈ S3.1 := by rw [hS5]; exact hL_ch
                  have hf11 : S3.2 ch = .inr (2, [.ref lk, .int (nI 0)]) := by rw [hS5]; exact (pup_n (ne_cells hf_ch hf_ln (by nofun))).trans hf_ch
                  have hL12 : mk ∈ S3.1 := by rw [hS5]; exact hL_mk
                  have hf13 : S3.2 mk = .inr (8, [.ref mb, .int (nI 320)]) := by rw [hS5]; exact (pup_n (ne_cells hf_mk hf_ln (by nofun))).trans hf_mk
                  have hL14 : mb ∈ S3.1 := by rw [hS5]; exact hL_mb
                  have hf15 : S3.2 mb = aN (cy 0) 320 (fun _ => 0) := by rw [hS5]; exact (pup_n (ne_cells hf_mb hf_ln (by nofun))).trans hf_mb
                  have hL16 : co ∈ S3.1 := by rw [hS5]; exact hL_co
                  have hf17 : S3.2 co = .inr (5, [.ref col, .ref con]) := by rw [hS5]; exact (pup_n (ne_cells hf_co hf_ln (by nofun))).trans hf_co
                  have hL18 : col ∈ S3.1 := by rw [hS5]; exact hL_col
                  have hf19 : S3.2 col = aQ (cy 2) 5 (va_up (va_up (va_up (va_up (va_up (fun _ => none) 0 (some cor0)) 1 (some cor1)) 2 (some cor2)) 3 (some cor3)) 4 (some cor4)) := by rw [hS5]; exact (pup_n (ne_cells hf_col hf_ln (by nofun))).trans hf_col
                  have hL20 : ca ∈ S3.1 := by rw [hS5]; exact hL_ca
                  have hf21 : S3.2 ca = .inr (5, [.ref cal, .ref can]) := by rw [hS5]; exact (pup_n (ne_cells hf_ca hf_ln (by nofun))).trans hf_ca
                  have hL22 : cal ∈ S3.1 := by rw [hS5]; exact hL_cal
                  have hf23 : S3.2 cal = aQ (cy 2) 5 (va_up (va_up (va_up (va_up (va_up (fun _ => none) 0 (some car0)) 1 (some car1)) 2 (some car2)) 3 (some car3)) 4 (some car4)) := by rw [hS5]; exact (pup_n (ne_cells hf_cal hf_ln (by nofun))).trans hf_cal
                  have hL24 : cor0 ∈ S3.1 := by rw [hS5]; exact hL_cor0
                  have hf25 : S3.2 cor0 = .inr (8, [.ref cob0, .int (nI 0)]) := by rw [hS5]; exact (pup_n (ne_cells hf_cor0 hf_ln (by nofun))).trans hf_cor0
                  have hL26 : cob0 ∈ S3.1 := by rw [hS5]; exact hL_cob0
                  have hf27 : S3.2 cob0 = aN (cy 0) 32 (fun _ => 0) := by rw [hS5]; exact (pup_n (ne_cells hf_cob0 hf_ln (by nofun))).trans hf_cob0
                  have hL28 : car0 ∈ S3.1 := by rw [hS5]; exact hL_car0
                  have hf29 : S3.2 car0 = .inr (8, [.ref cab0, .int (nI 0)]) := by rw [hS5]; exact (pup_n (ne_cells hf_car0 hf_ln (by nofun))).trans hf_car0
                  have hL30 : cab0 ∈ S3.1 := by rw [hS5]; exact hL_cab0
                  have hf31 : S3.2 cab0 = aN (cy 0) 32 (fun _ => 0) := by rw [hS5]; exact (pup_n (ne_cells hf_cab0 hf_ln (by nofun))).trans hf_cab0
                  refine p_callv (va_runV (As := []) (rest := []) C.fix (e_X11_settle0 l D cy S3 H.size x ch ln sl mk co ca su lt lk mb col con cal can cor0 cob0 car0 cab0 (va_up (va_up (va_up (va_up (va_up (fun _ => none) 0 (some cor0)) 1 (some cor1)) 2 (some cor2)) 3 (some cor3)) 4 (some cor4)) (va_up (va_up (va_up (va_up (va_up (fun _ => none) 0 (some car0)) 1 (some car1)) 2 (some car2)) 3 (some car3)) 4 (some car4)) (fun _ => 0) (fun _ => 0) (fun _ => 0) 0 0 kN a b c9 (zc a) (zc b) (zc c9) hL8 hf9 hL10 hf11 hL12 hf13 hL14 hf15 hL6 hf7 hL16 hf17 hL18 hf19 hL20 hf21 hL22 hf23 hL24 hf25 hL26 hf27 hL28 hf29 hL30 hf31 hne_cob0_cab0 hne_cor0_car0 hne_mk_car0 hne_mb_cab0 (by first | assumption | rfl | simp [va_up]) (by first | assumption | rfl | simp [va_up]) (by first | assumption | exact (fun _ => Nat.zero_le 2) | exact rnum_le (fun _ => Nat.zero_le 2) | exact rcop_le (by first | assumption | exact (fun _ => Nat.zero_le 2)) (by first | assumption | exact (fun _ => Nat.zero_le 2)) | exact rharm_le (rcop_le (by first | assumption | exact (fun _ => Nat.zero_le 2)) (by first | assumption | exact (fun _ => Nat.zero_le 2))) | exact rturn_le (fun _ => Nat.zero_le 2)) (by first | assumption | exact (fun _ => Nat.zero_le 2) | exact rnum_le (fun _ => Nat.zero_le 2) | exact rcop_le (by first | assumption | exact (fun _ => Nat.zero_le 2)) (by first | assumption | exact (fun _ => Nat.zero_le 2)) | exact rharm_le (rcop_le (by first | assumption | exact (fun _ => Nat.zero_le 2)) (by first | assumption | exact (fun _ => Nat.zero_le 2))) | exact rturn_le (fun _ => Nat.zero_le 2)) (by first | assumption | exact (fun _ => Nat.zero_le 2) | exact rnum_le (fun _ => Nat.zero_le 2) | exact rcop_le (by first | assumption | exact (fun _ => Nat.zero_le 2)) (by first | assumption | exact (fun _ => Nat.zero_le 2)) | exact rharm_le (rcop_le (by first | assumption | exact (fun _ => Nat.zero_le 2)) (by first | assumption | exact (fun _ => Nat.zero_le 2))) | exact rturn_le (fun _ => Nat.zero_le 2)) (by first | assumption | decide | omega) (by first | assumption | decide | omega) (by first | assumption | decide | omega) (zc_lt _) (zc_lt _) (zc_lt _) (fun h => ⟨zc_eq (by omega) (by omega), zc_eq (by omega) (by omega), zc_eq (by omega) (by omega)⟩) (fun h => ⟨zc_eq (by omega) (by omega), zc_eq (by omega) (by omega)⟩)) (cwV 0 C.2.2.2.2.1 (gU_V mw_187 mw_188 mw_189 mw_2 (subU mw_190)) rfl rfl rfl hde_X11_channel_V_2 ⟨Nat.le_of_ble_eq_true rfl, Nat.le_of_ble_eq_true rfl⟩) (p_preV C hw hL8 hf9 rfl) rfl rfl hl.1 rfl (lv_room (Nat.le_of_ble_eq_true rfl)) dX11_channel_133 ⟨Nat.le_of_ble_eq_true rfl, Nat.le_of_ble_eq_true rfl⟩) hw hA (fun S32 H locs hpost hw => ?_)
                  obtain ⟨hS34, hfr35⟩ := hpost
                  refine lv_iload hx hb dX11_channel_136 (lv_at hl 0 rfl) ?_
                  refine vx_ret ?_
                  refine W.widen (k := 1) (n := 6) (Nat.le_of_ble_eq_true rfl) (Nat.le_of_ble_eq_true rfl) ?_
                  exact (p_iret C hw (⟨(by unfold okC; omega), rfl, (by simp only [hS34, hS5, pup, pnew, List.append_nil, List.append_assoc, List.cons_append, List.nil_append]), (fun a_ ha_ hn_0 hn_1 hn_2 => ((hfr35 a_ (show a_ ∈ S3.1 from by rw [hS5]; exact ha_) hn_1 hn_2).trans (show S3.2 a_ = S.2 a_ from by rw [hS5]; exact pup_n hn_0)))⟩) hr hlocks dX11_channel_138)
                · skip
                  refine lv_iload_n hx hb dX11_channel_65 rfl (lv_at hl 2 rfl) ?_
                  refine z_if_lt (tgt := 101) hx hb rfl dX11_channel_66 (by decide) (fun h_66 => ?_) (fun h_66 => ?_)
                  · skip
                    exact x_throw (y := yX11_channel) C hflags hw hE (kS := 17) (kT := 0) mw_119 mw_120 tIA_x rfl rfl (by decide) tIA_n tIA_g hl.1.symm dX11_channel_101 dX11_channel_104 dX11_channel_105 dX11_channel_107 dX11_channel_110 htab (Nat.le_of_ble_eq_true rfl) (Nat.le_of_ble_eq_true rfl) (Nat.le_of_ble_eq_true rfl) (Nat.le_of_ble_eq_true rfl) hlocks (⟨rfl, (fun h => by unfold okC at h; omega), rfl⟩) (Nat.le_of_ble_eq_true rfl) (Nat.le_of_ble_eq_true rfl)
                  · skip
                    refine lv_iload_n hx hb dX11_channel_69 rfl (lv_at hl 2 rfl) ?_
                    refine lv_sipush (v := nI 320) hx hb dX11_channel_70 (by decide) ?_
                    refine z_icmp_gt (tgt := 101) hx hb rfl (nI_toInt (by first | decide | omega)) dX11_channel_73 (by decide) (fun h_73 => ?_) (fun h_73 => ?_)
                    · skip
                      exact x_throw (y := yX11_channel) C hflags hw hE (kS := 17) (kT := 0) mw_119 mw_120 tIA_x rfl rfl (by decide) tIA_n tIA_g hl.1.symm dX11_channel_101 dX11_channel_104 dX11_channel_105 dX11_channel_107 dX11_channel_110 htab (Nat.le_of_ble_eq_true rfl) (Nat.le_of_ble_eq_true rfl) (Nat.le_of_ble_eq_true rfl) (Nat.le_of_ble_eq_true rfl) hlocks (⟨rfl, (fun h => by unfold okC at h; omega), rfl⟩) (Nat.le_of_ble_eq_true rfl) (Nat.le_of_ble_eq_true rfl)
                    · skip
                      refine lv_iload_n hx hb dX11_channel_76 rfl (lv_at hl 3 rfl) ?_
                      refine lv_iconst (v := nI 1) hx hb dX11_channel_77 (by decide) ?_
                      refine z_icmp_lt (tgt := 101) hx hb rfl (nI_toInt (by first | decide | omega)) dX11_channel_78 (by decide) (fun h_78 => ?_) (fun h_78 => ?_)
                      · skip
                        exact x_throw (y := yX11_channel) C hflags hw hE (kS := 17) (kT := 0) mw_119 mw_120 tIA_x rfl rfl (by decide) tIA_n tIA_g hl.1.symm dX11_channel_101 dX11_channel_104 dX11_channel_105 dX11_channel_107 dX11_channel_110 htab (Nat.le_of_ble_eq_true rfl) (Nat.le_of_ble_eq_true rfl) (Nat.le_of_ble_eq_true rfl) (Nat.le_of_ble_eq_true rfl) hlocks (⟨rfl, (fun h => by unfold okC at h; omega), rfl⟩) (Nat.le_of_ble_eq_true rfl) (Nat.le_of_ble_eq_true rfl)
                      · skip
                        refine lv_iload_n hx hb dX11_channel_81 rfl (lv_at hl 3 rfl) ?_
                        refine lv_bipush (v := nI 50) hx hb dX11_channel_82 (by decide) ?_
                        refine z_icmp_gt (tgt := 101) hx hb rfl (nI_toInt (by first | decide | omega)) dX11_channel_84 (by decide) (fun h_84 => ?_) (fun h_84 => ?_)
                        · skip
                          exact x_throw (y := yX11_channel) C hflags hw hE (kS := 17) (kT := 0) mw_119 mw_120 tIA_x rfl rfl (by decide) tIA_n tIA_g hl.1.symm dX11_channel_101 dX11_channel_104 dX11_channel_105 dX11_channel_107 dX11_channel_110 htab (Nat.le_of_ble_eq_true rfl) (Nat.le_of_ble_eq_true rfl) (Nat.le_of_ble_eq_true rfl) (Nat.le_of_ble_eq_true rfl) hlocks (⟨rfl, (fun h => by unfold okC at h; omega), rfl⟩) (Nat.le_of_ble_eq_true rfl) (Nat.le_of_ble_eq_true rfl)
                        · skip
                          refine lv_iload hx hb dX11_channel_87 (lv_at hl 4 rfl) ?_
                          refine lv_iload_n hx hb dX11_channel_89 rfl (lv_at hl 3 rfl) ?_
                          refine z_icmp_lt (tgt := 101) hx hb rfl rfl dX11_channel_90 (by decide) (fun h_90 => ?_) (fun h_90 => ?_)
                          · skip
                            exact x_throw (y := yX11_channel) C hflags hw hE (kS := 17) (kT := 0) mw_119 mw_120 tIA_x rfl rfl (by decide) tIA_n tIA_g hl.1.symm dX11_channel_101 dX11_channel_104 dX11_channel_105 dX11_channel_107 dX11_channel_110 htab (Nat.le_of_ble_eq_true rfl) (Nat.le_of_ble_eq_true rfl) (Nat.le_of_ble_eq_true rfl) (Nat.le_of_ble_eq_true rfl) hlocks (⟨rfl, (fun h => by unfold okC at h; omega), rfl⟩) (Nat.le_of_ble_eq_true rfl) (Nat.le_of_ble_eq_true rfl)
                          · skip
                            refine lv_iload hx hb dX11_channel_93 (lv_at hl 4 rfl) ?_
                            refine lv_sipush (v := nI 320) hx hb dX11_channel_95 (by decide) ?_
                            refine z_icmp_le (tgt := 111) hx hb rfl (nI_toInt (by first | decide | omega)) dX11_channel_98 (by decide) (fun h_98 => ?_) (fun h_98 => ?_)
                            · skip
                              obtain ⟨kN, hk31, rfl, hki⟩ := z_nat (x := k) (by omega)
                              have hk3 : kN ≤ 3 := by omega
                              refine lv_aload_n hx hb dX11_channel_111 rfl (lv_at hl 0 rfl) ?_
                              refine p_get C hw (ci := 11) (Cn := RX11) (T := TX11) (N := 8) hL_x hf_x rfl hin_RX11 1 (by decide) (mU mw_21) rfl rfl dX11_channel_112 ?_
                              refine p_calli (va_runV (As := []) (rest := []) C.fix (c_X5_kind l D cy S s.heap.size ln 0 (nI 0) (nI 0) (nI 0) hL_ln hf_ln) (cwV 0 C.2.2.2.2.1 (gU_V mw_712 mw_713 mw_714 mw_20 sub_X5_kind) rfl rfl rfl hde_X11_channel_V_0 ⟨Nat.le_of_ble_eq_true rfl, Nat.le_of_ble_eq_true rfl⟩) (p_preV C hw hL_ln hf_ln rfl) rfl rfl hl.1 rfl (lv_room (Nat.le_of_ble_eq_true rfl)) dX11_channel_115 ⟨Nat.le_of_ble_eq_true rfl, Nat.le_of_ble_eq_true rfl⟩) hw hA (fun r37 S36 H locs hpost hw => ?_)
                              obtain ⟨hr_, hS_⟩ := hpost
                              subst hr_
                              subst hS_
                              refine lv_istore (lv' := [(5, .int (nI 0)), (0, .ref x), (1, .int (nI kN)), (2, .int a), (3, .int b), (4, .int c9)]) hx hb dX11_channel_118 hl (by decide) rfl (fun ls hl => ?_)
                              refine lv_aload_n hx hb dX11_channel_120 rfl (lv_at hl 1 rfl) ?_
                              refine p_get C hw (ci := 11) (Cn := RX11) (T := TX11) (N := 8) hL_x hf_x rfl hin_RX11 1 (by decide) (mU mw_21) rfl rfl dX11_channel_121 ?_
                              refine lv_iload_n hx hb dX11_channel_124 rfl (lv_at hl 2 rfl) ?_
                              refine lv_iload_n hx hb dX11_channel_125 rfl (lv_at hl 3 rfl) ?_
                              refine lv_iload_n hx hb dX11_channel_126 rfl (lv_at hl 4 rfl) ?_
                              refine lv_iload hx hb dX11_channel_127 (lv_at hl 5 rfl) ?_
                              refine p_callv (va_runV (As := [.int (nI kN), .int a, .int b, .int c9]) (rest := []) C.fix (c_X5_become l D cy S H.size ln 0 (nI 0) (nI 0) (nI 0) kN a b c9 hL_ln hf_ln) (cwV 4 C.2.2.2.2.1 (gU_V mw_716 mw_717 mw_718 mw_20 sub_X5_become) rfl rfl rfl hde_X11_channel_V_1 ⟨Nat.le_of_ble_eq_true rfl, Nat.le_of_ble_eq_true rfl⟩) (p_preV C hw hL_ln hf_ln rfl) rfl rfl hl.1 rfl (lv_room (Nat.le_of_ble_eq_true rfl)) dX11_channel_129 ⟨Nat.le_of_ble_eq_true rfl, Nat.le_of_ble_eq_true rfl⟩) hw hA (fun S38 H locs hpost hw => ?_)
                              have hS_ := hpost
                              have hS40 := hS_
                              have hL41 : ln ∈ S38.1 := by rw [hS40]; exact hL_ln
                              have hf42 : S38.2 ln = .inr (6, [.int (nI kN), .int a, .int b, .int c9]) := by rw [hS40]; exact pup_s
                              refine lv_aload_n hx hb dX11_channel_132 rfl (lv_at hl 1 rfl) ?_
                              have hL43 : x ∈ S38.1 := by rw [hS40]; exact hL_x
                              have hf44 : S38.2 x = .inr (11, [.ref ch, .ref ln, .ref sl, .ref mk, .ref co, .ref ca, .ref su, .ref lt]) := by rw [hS40]; exact (pup_n (ne_cells hf_x hf_ln (by nofun))).trans hf_x
                              have hL45 : ch ∈ S38.1 := by rw [hS40]; exact hL_ch
                              have hf46 : S38.2 ch = .inr (2, [.ref lk, .int (nI 0)]) := by rw [hS40]; exact (pup_n (ne_cells hf_ch hf_ln (by nofun))).trans hf_ch
                              have hL47 : mk ∈ S38.1 := by rw [hS40]; exact hL_mk
                              have hf48 : S38.2 mk = .inr (8, [.ref mb, .int (nI 320)]) := by rw [hS40]; exact (pup_n (ne_cells hf_mk hf_ln (by nofun))).trans hf_mk
                              have hL49 : mb ∈ S38.1 := by rw [hS40]; exact hL_mb
                              have hf50 : S38.2 mb = aN (cy 0) 320 (fun _ => 0) := by rw [hS40]; exact (pup_n (ne_cells hf_mb hf_ln (by nofun))).trans hf_mb
                              have hL51 : co ∈ S38.1 := by rw [hS40]; exact hL_co
                              have hf52 : S38.2 co = .inr (5, [.ref col, .ref con]) := by rw [hS40]; exact (pup_n (ne_cells hf_co hf_ln (by nofun))).trans hf_co
                              have hL53 : col ∈ S38.1 := by rw [hS40]; exact hL_col
                              have hf54 : S38.2 col = aQ (cy 2) 5 (va_up (va_up (va_up (va_up (va_up (fun _ => none) 0 (some cor0)) 1 (some cor1)) 2 (some cor2)) 3 (some cor3)) 4 (some cor4)) := by rw [hS40]; exact (pup_n (ne_cells hf_col hf_ln (by nofun))).trans hf_col
                              have hL55 : ca ∈ S38.1 := by rw [hS40]; exact hL_ca
                              have hf56 : S38.2 ca = .inr (5, [.ref cal, .ref can]) := by rw [hS40]; exact (pup_n (ne_cells hf_ca hf_ln (by nofun))).trans hf_ca
                              have hL57 : cal ∈ S38.1 := by rw [hS40]; exact hL_cal
                              have hf58 : S38.2 cal = aQ (cy 2) 5 (va_up (va_up (va_up (va_up (va_up (fun _ => none) 0 (some car0)) 1 (some car1)) 2 (some car2)) 3 (some car3)) 4 (some car4)) := by rw [hS40]; exact (pup_n (ne_cells hf_cal hf_ln (by nofun))).trans hf_cal
                              have hL59 : cor0 ∈ S38.1 := by rw [hS40]; exact hL_cor0
                              have hf60 : S38.2 cor0 = .inr (8, [.ref cob0, .int (nI 0)]) := by rw [hS40]; exact (pup_n (ne_cells hf_cor0 hf_ln (by nofun))).trans hf_cor0
                              have hL61 : cob0 ∈ S38.1 := by rw [hS40]; exact hL_cob0
                              have hf62 : S38.2 cob0 = aN (cy 0) 32 (fun _ => 0) := by rw [hS40]; exact (pup_n (ne_cells hf_cob0 hf_ln (by nofun))).trans hf_cob0
                              have hL63 : car0 ∈ S38.1 := by rw [hS40]; exact hL_car0
                              have hf64 : S38.2 car0 = .inr (8, [.ref cab0, .int (nI 0)]) := by rw [hS40]; exact (pup_n (ne_cells hf_car0 hf_ln (by nofun))).trans hf_car0
                              have hL65 : cab0 ∈ S38.1 := by rw [hS40]; exact hL_cab0
                              have hf66 : S38.2 cab0 = aN (cy 0) 32 (fun _ => 0) := by rw [hS40]; exact (pup_n (ne_cells hf_cab0 hf_ln (by nofun))).trans hf_cab0
                              refine p_callv (va_runV (As := []) (rest := []) C.fix (e_X11_settle0 l D cy S38 H.size x ch ln sl mk co ca su lt lk mb col con cal can cor0 cob0 car0 cab0 (va_up (va_up (va_up (va_up (va_up (fun _ => none) 0 (some cor0)) 1 (some cor1)) 2 (some cor2)) 3 (some cor3)) 4 (some cor4)) (va_up (va_up (va_up (va_up (va_up (fun _ => none) 0 (some car0)) 1 (some car1)) 2 (some car2)) 3 (some car3)) 4 (some car4)) (fun _ => 0) (fun _ => 0) (fun _ => 0) 0 0 kN a b c9 (zc a) (zc b) (zc c9) hL43 hf44 hL45 hf46 hL47 hf48 hL49 hf50 hL41 hf42 hL51 hf52 hL53 hf54 hL55 hf56 hL57 hf58 hL59 hf60 hL61 hf62 hL63 hf64 hL65 hf66 hne_cob0_cab0 hne_cor0_car0 hne_mk_car0 hne_mb_cab0 (by first | assumption | rfl | simp [va_up]) (by first | assumption | rfl | simp [va_up]) (by first | assumption | exact (fun _ => Nat.zero_le 2) | exact rnum_le (fun _ => Nat.zero_le 2) | exact rcop_le (by first | assumption | exact (fun _ => Nat.zero_le 2)) (by first | assumption | exact (fun _ => Nat.zero_le 2)) | exact rharm_le (rcop_le (by first | assumption | exact (fun _ => Nat.zero_le 2)) (by first | assumption | exact (fun _ => Nat.zero_le 2))) | exact rturn_le (fun _ => Nat.zero_le 2)) (by first | assumption | exact (fun _ => Nat.zero_le 2) | exact rnum_le (fun _ => Nat.zero_le 2) | exact rcop_le (by first | assumption | exact (fun _ => Nat.zero_le 2)) (by first | assumption | exact (fun _ => Nat.zero_le 2)) | exact rharm_le (rcop_le (by first | assumption | exact (fun _ => Nat.zero_le 2)) (by first | assumption | exact (fun _ => Nat.zero_le 2))) | exact rturn_le (fun _ => Nat.zero_le 2)) (by first | assumption | exact (fun _ => Nat.zero_le 2) | exact rnum_le (fun _ => Nat.zero_le 2) | exact rcop_le (by first | assumption | exact (fun _ => Nat.zero_le 2)) (by first | assumption | exact (fun _ => Nat.zero_le 2)) | exact rharm_le (rcop_le (by first | assumption | exact (fun _ => Nat.zero_le 2)) (by first | assumption | exact (fun _ => Nat.zero_le 2))) | exact rturn_le (fun _ => Nat.zero_le 2)) (by first | assumption | decide | omega) (by first | assumption | decide | omega) (by first | assumption | decide | omega) (zc_lt _) (zc_lt _) (zc_lt _) (fun h => ⟨zc_eq (by omega) (by omega), zc_eq (by omega) (by omega), zc_eq (by omega) (by omega)⟩) (fun h => ⟨zc_eq (by omega) (by omega), zc_eq (by omega) (by omega)⟩)) (cwV 0 C.2.2.2.2.1 (gU_V mw_187 mw_188 mw_189 mw_2 (subU mw_190)) rfl rfl rfl hde_X11_channel_V_2 ⟨Nat.le_of_ble_eq_true rfl, Nat.le_of_ble_eq_true rfl⟩) (p_preV C hw hL43 hf44 rfl) rfl rfl hl.1 rfl (lv_room (Nat.le_of_ble_eq_true rfl)) dX11_channel_133 ⟨Nat.le_of_ble_eq_true rfl, Nat.le_of_ble_eq_true rfl⟩) hw hA (fun S67 H locs hpost hw => ?_)
                              obtain ⟨hS69, hfr70⟩ := hpost
                              refine lv_iload hx hb dX11_channel_136 (lv_at hl 0 rfl) ?_
                              refine vx_ret ?_
                              refine W.widen (k := 1) (n := 6) (Nat.le_of_ble_eq_true rfl) (Nat.le_of_ble_eq_true rfl) ?_
                              exact (p_iret C hw (⟨(by unfold okC; omega), rfl, (by simp only [hS69, hS40, pup, pnew, List.append_nil, List.append_assoc, List.cons_append, List.nil_append]), (fun a_ ha_ hn_0 hn_1 hn_2 => ((hfr70 a_ (show a_ ∈ S38.1 from by rw [hS40]; exact ha_) hn_1 hn_2).trans (show S38.2 a_ = S.2 a_ from by rw [hS40]; exact pup_n hn_0)))⟩) hr hlocks dX11_channel_138)
                            · skip
                              exact x_throw (y := yX11_channel) C hflags hw hE (kS := 17) (kT := 0) mw_119 mw_120 tIA_x rfl rfl (by decide) tIA_n tIA_g hl.1.symm dX11_channel_101 dX11_channel_104 dX11_channel_105 dX11_channel_107 dX11_channel_110 htab (Nat.le_of_ble_eq_true rfl) (Nat.le_of_ble_eq_true rfl) (Nat.le_of_ble_eq_true rfl) (Nat.le_of_ble_eq_true rfl) hlocks (⟨rfl, (fun h => by unfold okC at h; omega), rfl⟩) (Nat.le_of_ble_eq_true rfl) (Nat.le_of_ble_eq_true rfl)
              · skip
                exact x_throw (y := yX11_channel) C hflags hw hE (kS := 16) (kT := 0) mw_119 mw_120 tIA_x rfl rfl (by decide) tIA_n tIA_g hl.1.symm dX11_channel_50 dX11_channel_53 dX11_channel_54 dX11_channel_56 dX11_channel_59 htab (Nat.le_of_ble_eq_true rfl) (Nat.le_of_ble_eq_true rfl) (Nat.le_of_ble_eq_true rfl) (Nat.le_of_ble_eq_true rfl) hlocks (⟨rfl, (fun h => by unfold okC at h; omega), rfl⟩) (Nat.le_of_ble_eq_true rfl) (Nat.le_of_ble_eq_true rfl)
      · skip
        refine lv_iload_n hx hb dX11_channel_24 rfl (lv_at hl 1 rfl) ?_
        refine lv_iconst (v := nI 3) hx hb dX11_channel_25 (by decide) ?_
        refine z_icmp_ne (tgt := 60) hx hb rfl (nI_toInt (by first | decide | omega)) dX11_channel_26 (by decide) (fun h_26 => ?_) (fun h_26 => ?_)
        · skip
          refine lv_iload_n hx hb dX11_channel_60 rfl (lv_at hl 1 rfl) ?_
          refine lv_iconst (v := nI 2) hx hb dX11_channel_61 (by decide) ?_
          refine z_icmp_ne (tgt := 111) hx hb rfl (nI_toInt (by first | decide | omega)) dX11_channel_62 (by decide) (fun h_62 => ?_) (fun h_62 => ?_)
          · skip
            obtain ⟨kN, hk31, rfl, hki⟩ := z_nat (x := k) (by omega)
            have hk3 : kN ≤ 3 := by omega
            refine lv_aload_n hx hb dX11_channel_111 rfl (lv_at hl 0 rfl) ?_
            refine p_get C hw (ci := 11) (Cn := RX11) (T := TX11) (N := 8) hL_x hf_x rfl hin_RX11 1 (by decide) (mU mw_21) rfl rfl dX11_channel_112 ?_
            refine p_calli (va_runV (As := []) (rest := []) C.fix (c_X5_kind l D cy S s.heap.size ln 0 (nI 0) (nI 0) (nI 0) hL_ln hf_ln) (cwV 0 C.2.2.2.2.1 (gU_V mw_712 mw_713 mw_714 mw_20 sub_X5_kind) rfl rfl rfl hde_X11_channel_V_0 ⟨Nat.le_of_ble_eq_true rfl, Nat.le_of_ble_eq_true rfl⟩) (p_preV C hw hL_ln hf_ln rfl) rfl rfl hl.1 rfl (lv_room (Nat.le_of_ble_eq_true rfl)) dX11_channel_115 ⟨Nat.le_of_ble_eq_true rfl, Nat.le_of_ble_eq_true rfl⟩) hw hA (fun r72 S71 H locs hpost hw => ?_)
            obtain ⟨hr_, hS_⟩ := hpost
            subst hr_
            subst hS_
            refine lv_istore (lv' := [(5, .int (nI 0)), (0, .ref x), (1, .int (nI kN)), (2, .int a), (3, .int b), (4, .int c9)]) hx hb dX11_channel_118 hl (by decide) rfl (fun ls hl => ?_)
            refine lv_aload_n hx hb dX11_channel_120 rfl (lv_at hl 1 rfl) ?_
            refine p_get C hw (ci := 11) (Cn := RX11) (T := TX11) (N := 8) hL_x hf_x rfl hin_RX11 1 (by decide) (mU mw_21) rfl rfl dX11_channel_121 ?_
            refine lv_iload_n hx hb dX11_channel_124 rfl (lv_at hl 2 rfl) ?_
            refine lv_iload_n hx hb dX11_channel_125 rfl (lv_at hl 3 rfl) ?_
            refine lv_iload_n hx hb dX11_channel_126 rfl (lv_at hl 4 rfl) ?_
            refine lv_iload hx hb dX11_channel_127 (lv_at hl 5 rfl) ?_
            refine p_callv (va_runV (As := [.int (nI kN), .int a, .int b, .int c9]) (rest := []) C.fix (c_X5_become l D cy S H.size ln 0 (nI 0) (nI 0) (nI 0) kN a b c9 hL_ln hf_ln) (cwV 4 C.2.2.2.2.1 (gU_V mw_716 mw_717 mw_718 mw_20 sub_X5_become) rfl rfl rfl hde_X11_channel_V_1 ⟨Nat.le_of_ble_eq_true rfl, Nat.le_of_ble_eq_true rfl⟩) (p_preV C hw hL_ln hf_ln rfl) rfl rfl hl.1 rfl (lv_room (Nat.le_of_ble_eq_true rfl)) dX11_channel_129 ⟨Nat.le_of_ble_eq_true rfl, Nat.le_of_ble_eq_true rfl⟩) hw hA (fun S73 H locs hpost hw => ?_)
            have hS_ := hpost
            have hS75 := hS_
            have hL76 : ln ∈ S73.1 := by rw [hS75]; exact hL_ln
            have hf77 : S73.2 ln = .inr (6, [.int (nI kN), .int a, .int b, .int c9]) := by rw [hS75]; exact pup_s
            refine lv_aload_n hx hb dX11_channel_132 rfl (lv_at hl 1 rfl) ?_
            have hL78 : x ∈ S73.1 := by rw [hS75]; exact hL_x
            have hf79 : S73.2 x = .inr (11, [.ref ch, .ref ln, .ref sl, .ref mk, .ref co, .ref ca, .ref su, .ref lt]) := by rw [hS75]; exact (pup_n (ne_cells hf_x hf_ln (by nofun))).trans hf_x
            have hL80 : ch ∈ S73.1 := by rw [hS75]; exact hL_ch
            have hf81 : S73.2 ch = .inr (2, [.ref lk, .int (nI 0)]) := by rw [hS75]; exact (pup_n (ne_cells hf_ch hf_ln (by nofun))).trans hf_ch
            have hL82 : mk ∈ S73.1 := by rw [hS75]; exact hL_mk
            have hf83 : S73.2 mk = .inr (8, [.ref mb, .int (nI 320)]) := by rw [hS75]; exact (pup_n (ne_cells hf_mk hf_ln (by nofun))).trans hf_mk
            have hL84 : mb ∈ S73.1 := by rw [hS75]; exact hL_mb
            have hf85 : S73.2 mb = aN (cy 0) 320 (fun _ => 0) := by rw [hS75]; exact (pup_n (ne_cells hf_mb hf_ln (by nofun))).trans hf_mb
            have hL86 : co ∈ S73.1 := by rw [hS75]; exact hL_co
            have hf87 : S73.2 co = .inr (5, [.ref col, .ref con]) := by rw [hS75]; exact (pup_n (ne_cells hf_co hf_ln (by nofun))).trans hf_co
            have hL88 : col ∈ S73.1 := by rw [hS75]; exact hL_col
            have hf89 : S73.2 col = aQ (cy 2) 5 (va_up (va_up (va_up (va_up (va_up (fun _ => none) 0 (some cor0)) 1 (some cor1)) 2 (some cor2)) 3 (some cor3)) 4 (some cor4)) := by rw [hS75]; exact (pup_n (ne_cells hf_col hf_ln (by nofun))).trans hf_col
            have hL90 : ca ∈ S73.1 := by rw [hS75]; exact hL_ca
            have hf91 : S73.2 ca = .inr (5, [.ref cal, .ref can]) := by rw [hS75]; exact (pup_n (ne_cells hf_ca hf_ln (by nofun))).trans hf_ca
            have hL92 : cal ∈ S73.1 := by rw [hS75]; exact hL_cal
            have hf93 : S73.2 cal = aQ (cy 2) 5 (va_up (va_up (va_up (va_up (va_up (fun _ => none) 0 (some car0)) 1 (some car1)) 2 (some car2)) 3 (some car3)) 4 (some car4)) := by rw [hS75]; exact (pup_n (ne_cells hf_cal hf_ln (by nofun))).trans hf_cal
            have hL94 : cor0 ∈ S73.1 := by rw [hS75]; exact hL_cor0
            have hf95 : S73.2 cor0 = .inr (8, [.ref cob0, .int (nI 0)]) := by rw [hS75]; exact (pup_n (ne_cells hf_cor0 hf_ln (by nofun))).trans hf_cor0
            have hL96 : cob0 ∈ S73.1 := by rw [hS75]; exact hL_cob0
            have hf97 : S73.2 cob0 = aN (cy 0) 32 (fun _ => 0) := by rw [hS75]; exact (pup_n (ne_cells hf_cob0 hf_ln (by nofun))).trans hf_cob0
            have hL98 : car0 ∈ S73.1 := by rw [hS75]; exact hL_car0
            have hf99 : S73.2 car0 = .inr (8, [.ref cab0, .int (nI 0)]) := by rw [hS75]; exact (pup_n (ne_cells hf_car0 hf_ln (by nofun))).trans hf_car0
            have hL100 : cab0 ∈ S73.1 := by rw [hS75]; exact hL_cab0
            have hf101 : S73.2 cab0 = aN (cy 0) 32 (fun _ => 0) := by rw [hS75]; exact (pup_n (ne_cells hf_cab0 hf_ln (by nofun))).trans hf_cab0
            refine p_callv (va_runV (As := []) (rest := []) C.fix (e_X11_settle0 l D cy S73 H.size x ch ln sl mk co ca su lt lk mb col con cal can cor0 cob0 car0 cab0 (va_up (va_up (va_up (va_up (va_up (fun _ => none) 0 (some cor0)) 1 (some cor1)) 2 (some cor2)) 3 (some cor3)) 4 (some cor4)) (va_up (va_up (va_up (va_up (va_up (fun _ => none) 0 (some car0)) 1 (some car1)) 2 (some car2)) 3 (some car3)) 4 (some car4)) (fun _ => 0) (fun _ => 0) (fun _ => 0) 0 0 kN a b c9 (zc a) (zc b) (zc c9) hL78 hf79 hL80 hf81 hL82 hf83 hL84 hf85 hL76 hf77 hL86 hf87 hL88 hf89 hL90 hf91 hL92 hf93 hL94 hf95 hL96 hf97 hL98 hf99 hL100 hf101 hne_cob0_cab0 hne_cor0_car0 hne_mk_car0 hne_mb_cab0 (by first | assumption | rfl | simp [va_up]) (by first | assumption | rfl | simp [va_up]) (by first | assumption | exact (fun _ => Nat.zero_le 2) | exact rnum_le (fun _ => Nat.zero_le 2) | exact rcop_le (by first | assumption | exact (fun _ => Nat.zero_le 2)) (by first | assumption | exact (fun _ => Nat.zero_le 2)) | exact rharm_le (rcop_le (by first | assumption | exact (fun _ => Nat.zero_le 2)) (by first | assumption | exact (fun _ => Nat.zero_le 2))) | exact rturn_le (fun _ => Nat.zero_le 2)) (by first | assumption | exact (fun _ => Nat.zero_le 2) | exact rnum_le (fun _ => Nat.zero_le 2) | exact rcop_le (by first | assumption | exact (fun _ => Nat.zero_le 2)) (by first | assumption | exact (fun _ => Nat.zero_le 2)) | exact rharm_le (rcop_le (by first | assumption | exact (fun _ => Nat.zero_le 2)) (by first | assumption | exact (fun _ => Nat.zero_le 2))) | exact rturn_le (fun _ => Nat.zero_le 2)) (by first | assumption | exact (fun _ => Nat.zero_le 2) | exact rnum_le (fun _ => Nat.zero_le 2) | exact rcop_le (by first | assumption | exact (fun _ => Nat.zero_le 2)) (by first | assumption | exact (fun _ => Nat.zero_le 2)) | exact rharm_le (rcop_le (by first | assumption | exact (fun _ => Nat.zero_le 2)) (by first | assumption | exact (fun _ => Nat.zero_le 2))) | exact rturn_le (fun _ => Nat.zero_le 2)) (by first | assumption | decide | omega) (by first | assumption | decide | omega) (by first | assumption | decide | omega) (zc_lt _) (zc_lt _) (zc_lt _) (fun h => ⟨zc_eq (by omega) (by omega), zc_eq (by omega) (by omega), zc_eq (by omega) (by omega)⟩) (fun h => ⟨zc_eq (by omega) (by omega), zc_eq (by omega) (by omega)⟩)) (cwV 0 C.2.2.2.2.1 (gU_V mw_187 mw_188 mw_189 mw_2 (subU mw_190)) rfl rfl rfl hde_X11_channel_V_2 ⟨Nat.le_of_ble_eq_true rfl, Nat.le_of_ble_eq_true rfl⟩) (p_preV C hw hL78 hf79 rfl) rfl rfl hl.1 rfl (lv_room (Nat.le_of_ble_eq_true rfl)) dX11_channel_133 ⟨Nat.le_of_ble_eq_true rfl, Nat.le_of_ble_eq_true rfl⟩) hw hA (fun S102 H locs hpost hw => ?_)
            obtain ⟨hS104, hfr105⟩ := hpost
            refine lv_iload hx hb dX11_channel_136 (lv_at hl 0 rfl) ?_
            refine vx_ret ?_
            refine W.widen (k := 1) (n := 6) (Nat.le_of_ble_eq_true rfl) (Nat.le_of_ble_eq_true rfl) ?_
            exact (p_iret C hw (⟨(by unfold okC; omega), rfl, (by simp only [hS104, hS75, pup, pnew, List.append_nil, List.append_assoc, List.cons_append, List.nil_append]), (fun a_ ha_ hn_0 hn_1 hn_2 => ((hfr105 a_ (show a_ ∈ S73.1 from by rw [hS75]; exact ha_) hn_1 hn_2).trans (show S73.2 a_ = S.2 a_ from by rw [hS75]; exact pup_n hn_0)))⟩) hr hlocks dX11_channel_138)
          · skip
            refine lv_iload_n hx hb dX11_channel_65 rfl (lv_at hl 2 rfl) ?_
            refine z_if_lt (tgt := 101) hx hb rfl dX11_channel_66 (by decide) (fun h_66 => ?_) (fun h_66 => ?_)
            · skip
              exact x_throw (y := yX11_channel) C hflags hw hE (kS := 17) (kT := 0) mw_119 mw_120 tIA_x rfl rfl (by decide) tIA_n tIA_g hl.1.symm dX11_channel_101 dX11_channel_104 dX11_channel_105 dX11_channel_107 dX11_channel_110 htab (Nat.le_of_ble_eq_true rfl) (Nat.le_of_ble_eq_true rfl) (Nat.le_of_ble_eq_true rfl) (Nat.le_of_ble_eq_true rfl) hlocks (⟨rfl, (fun h => by unfold okC at h; omega), rfl⟩) (Nat.le_of_ble_eq_true rfl) (Nat.le_of_ble_eq_true rfl)
            · skip
              refine lv_iload_n hx hb dX11_channel_69 rfl (lv_at hl 2 rfl) ?_
              refine lv_sipush (v := nI 320) hx hb dX11_channel_70 (by decide) ?_
              refine z_icmp_gt (tgt := 101) hx hb rfl (nI_toInt (by first | decide | omega)) dX11_channel_73 (by decide) (fun h_73 => ?_) (fun h_73 => ?_)
              · skip
                exact x_throw (y := yX11_channel) C hflags hw hE (kS := 17) (kT := 0) mw_119 mw_120 tIA_x rfl rfl (by decide) tIA_n tIA_g hl.1.symm dX11_channel_101 dX11_channel_104 dX11_channel_105 dX11_channel_107 dX11_channel_110 htab (Nat.le_of_ble_eq_true rfl) (Nat.le_of_ble_eq_true rfl) (Nat.le_of_ble_eq_true rfl) (Nat.le_of_ble_eq_true rfl) hlocks (⟨rfl, (fun h => by unfold okC at h; omega), rfl⟩) (Nat.le_of_ble_eq_true rfl) (Nat.le_of_ble_eq_true rfl)
              · skip
                refine lv_iload_n hx hb dX11_channel_76 rfl (lv_at hl 3 rfl) ?_
                refine lv_iconst (v := nI 1) hx hb dX11_channel_77 (by decide) ?_
                refine z_icmp_lt (tgt := 101) hx hb rfl (nI_toInt (by first | decide | omega)) dX11_channel_78 (by decide) (fun h_78 => ?_) (fun h_78 => ?_)
                · skip
                  exact x_throw (y := yX11_channel) C hflags hw hE (kS := 17) (kT := 0) mw_119 mw_120 tIA_x rfl rfl (by decide) tIA_n tIA_g hl.1.symm dX11_channel_101 dX11_channel_104 dX11_channel_105 dX11_channel_107 dX11_channel_110 htab (Nat.le_of_ble_eq_true rfl) (Nat.le_of_ble_eq_true rfl) (Nat.le_of_ble_eq_true rfl) (Nat.le_of_ble_eq_true rfl) hlocks (⟨rfl, (fun h => by unfold okC at h; omega), rfl⟩) (Nat.le_of_ble_eq_true rfl) (Nat.le_of_ble_eq_true rfl)
                · skip
                  refine lv_iload_n hx hb dX11_channel_81 rfl (lv_at hl 3 rfl) ?_
                  refine lv_bipush (v := nI 50) hx hb dX11_channel_82 (by decide) ?_
                  refine z_icmp_gt (tgt := 101) hx hb rfl (nI_toInt (by first | decide | omega)) dX11_channel_84 (by decide) (fun h_84 => ?_) (fun h_84 => ?_)
                  · skip
                    exact x_throw (y := yX11_channel) C hflags hw hE (kS := 17) (kT := 0) mw_119 mw_120 tIA_x rfl rfl (by decide) tIA_n tIA_g hl.1.symm dX11_channel_101 dX11_channel_104 dX11_channel_105 dX11_channel_107 dX11_channel_110 htab (Nat.le_of_ble_eq_true rfl) (Nat.le_of_ble_eq_true rfl) (Nat.le_of_ble_eq_true rfl) (Nat.le_of_ble_eq_true rfl) hlocks (⟨rfl, (fun h => by unfold okC at h; omega), rfl⟩) (Nat.le_of_ble_eq_true rfl) (Nat.le_of_ble_eq_true rfl)
                  · skip
                    refine lv_iload hx hb dX11_channel_87 (lv_at hl 4 rfl) ?_
                    refine lv_iload_n hx hb dX11_channel_89 rfl (lv_at hl 3 rfl) ?_
                    refine z_icmp_lt (tgt := 101) hx hb rfl rfl dX11_channel_90 (by decide) (fun h_90 => ?_) (fun h_90 => ?_)
                    · skip
                      exact x_throw (y := yX11_channel) C hflags hw hE (kS := 17) (kT := 0) mw_119 mw_120 tIA_x rfl rfl (by decide) tIA_n tIA_g hl.1.symm dX11_channel_101 dX11_channel_104 dX11_channel_105 dX11_channel_107 dX11_channel_110 htab (Nat.le_of_ble_eq_true rfl) (Nat.le_of_ble_eq_true rfl) (Nat.le_of_ble_eq_true rfl) (Nat.le_of_ble_eq_true rfl) hlocks (⟨rfl, (fun h => by unfold okC at h; omega), rfl⟩) (Nat.le_of_ble_eq_true rfl) (Nat.le_of_ble_eq_true rfl)
                    · skip
                      refine lv_iload hx hb dX11_channel_93 (lv_at hl 4 rfl) ?_
                      refine lv_sipush (v := nI 320) hx hb dX11_channel_95 (by decide) ?_
                      refine z_icmp_le (tgt := 111) hx hb rfl (nI_toInt (by first | decide | omega)) dX11_channel_98 (by decide) (fun h_98 => ?_) (fun h_98 => ?_)
                      · skip
                        obtain ⟨kN, hk31, rfl, hki⟩ := z_nat (x := k) (by omega)
                        have hk3 : kN ≤ 3 := by omega
                        refine lv_aload_n hx hb dX11_channel_111 rfl (lv_at hl 0 rfl) ?_
                        refine p_get C hw (ci := 11) (Cn := RX11) (T := TX11) (N := 8) hL_x hf_x rfl hin_RX11 1 (by decide) (mU mw_21) rfl rfl dX11_channel_112 ?_
                        refine p_calli (va_runV (As := []) (rest := []) C.fix (c_X5_kind l D cy S s.heap.size ln 0 (nI 0) (nI 0) (nI 0) hL_ln hf_ln) (cwV 0 C.2.2.2.2.1 (gU_V mw_712 mw_713 mw_714 mw_20 sub_X5_kind) rfl rfl rfl hde_X11_channel_V_0 ⟨Nat.le_of_ble_eq_true rfl, Nat.le_of_ble_eq_true rfl⟩) (p_preV C hw hL_ln hf_ln rfl) rfl rfl hl.1 rfl (lv_room (Nat.le_of_ble_eq_true rfl)) dX11_channel_115 ⟨Nat.le_of_ble_eq_true rfl, Nat.le_of_ble_eq_true rfl⟩) hw hA (fun r107 S106 H locs hpost hw => ?_)
                        obtain ⟨hr_, hS_⟩ := hpost
                        subst hr_
                        subst hS_
                        refine lv_istore (lv' := [(5, .int (nI 0)), (0, .ref x), (1, .int (nI kN)), (2, .int a), (3, .int b), (4, .int c9)]) hx hb dX11_channel_118 hl (by decide) rfl (fun ls hl => ?_)
                        refine lv_aload_n hx hb dX11_channel_120 rfl (lv_at hl 1 rfl) ?_
                        refine p_get C hw (ci := 11) (Cn := RX11) (T := TX11) (N := 8) hL_x hf_x rfl hin_RX11 1 (by decide) (mU mw_21) rfl rfl dX11_channel_121 ?_
                        refine lv_iload_n hx hb dX11_channel_124 rfl (lv_at hl 2 rfl) ?_
                        refine lv_iload_n hx hb dX11_channel_125 rfl (lv_at hl 3 rfl) ?_
                        refine lv_iload_n hx hb dX11_channel_126 rfl (lv_at hl 4 rfl) ?_
                        refine lv_iload hx hb dX11_channel_127 (lv_at hl 5 rfl) ?_
                        refine p_callv (va_runV (As := [.int (nI kN), .int a, .int b, .int c9]) (rest := []) C.fix (c_X5_become l D cy S H.size ln 0 (nI 0) (nI 0) (nI 0) kN a b c9 hL_ln hf_ln) (cwV 4 C.2.2.2.2.1 (gU_V mw_716 mw_717 mw_718 mw_20 sub_X5_become) rfl rfl rfl hde_X11_channel_V_1 ⟨Nat.le_of_ble_eq_true rfl, Nat.le_of_ble_eq_true rfl⟩) (p_preV C hw hL_ln hf_ln rfl) rfl rfl hl.1 rfl (lv_room (Nat.le_of_ble_eq_true rfl)) dX11_channel_129 ⟨Nat.le_of_ble_eq_true rfl, Nat.le_of_ble_eq_true rfl⟩) hw hA (fun S108 H locs hpost hw => ?_)
                        have hS_ := hpost
                        have hS110 := hS_
                        have hL111 : ln ∈ S108.1 := by rw [hS110]; exact hL_ln
                        have hf112 : S108.2 ln = .inr (6, [.int (nI kN), .int a, .int b, .int c9]) := by rw [hS110]; exact pup_s
                        refine lv_aload_n hx hb dX11_channel_132 rfl (lv_at hl 1 rfl) ?_
                        have hL113 : x ∈ S108.1 := by rw [hS110]; exact hL_x
                        have hf114 : S108.2 x = .inr (11, [.ref ch, .ref ln, .ref sl, .ref mk, .ref co, .ref ca, .ref su, .ref lt]) := by rw [hS110]; exact (pup_n (ne_cells hf_x hf_ln (by nofun))).trans hf_x
                        have hL115 : ch ∈ S108.1 := by rw [hS110]; exact hL_ch
                        have hf116 : S108.2 ch = .inr (2, [.ref lk, .int (nI 0)]) := by rw [hS110]; exact (pup_n (ne_cells hf_ch hf_ln (by nofun))).trans hf_ch
                        have hL117 : mk ∈ S108.1 := by rw [hS110]; exact hL_mk
                        have hf118 : S108.2 mk = .inr (8, [.ref mb, .int (nI 320)]) := by rw [hS110]; exact (pup_n (ne_cells hf_mk hf_ln (by nofun))).trans hf_mk
                        have hL119 : mb ∈ S108.1 := by rw [hS110]; exact hL_mb
                        have hf120 : S108.2 mb = aN (cy 0) 320 (fun _ => 0) := by rw [hS110]; exact (pup_n (ne_cells hf_mb hf_ln (by nofun))).trans hf_mb
                        have hL121 : co ∈ S108.1 := by rw [hS110]; exact hL_co
                        have hf122 : S108.2 co = .inr (5, [.ref col, .ref con]) := by rw [hS110]; exact (pup_n (ne_cells hf_co hf_ln (by nofun))).trans hf_co
                        have hL123 : col ∈ S108.1 := by rw [hS110]; exact hL_col
                        have hf124 : S108.2 col = aQ (cy 2) 5 (va_up (va_up (va_up (va_up (va_up (fun _ => none) 0 (some cor0)) 1 (some cor1)) 2 (some cor2)) 3 (some cor3)) 4 (some cor4)) := by rw [hS110]; exact (pup_n (ne_cells hf_col hf_ln (by nofun))).trans hf_col
                        have hL125 : ca ∈ S108.1 := by rw [hS110]; exact hL_ca
                        have hf126 : S108.2 ca = .inr (5, [.ref cal, .ref can]) := by rw [hS110]; exact (pup_n (ne_cells hf_ca hf_ln (by nofun))).trans hf_ca
                        have hL127 : cal ∈ S108.1 := by rw [hS110]; exact hL_cal
                        have hf128 : S108.2 cal = aQ (cy 2) 5 (va_up (va_up (va_up (va_up (va_up (fun _ => none) 0 (some car0)) 1 (some car1)) 2 (some car2)) 3 (some car3)) 4 (some car4)) := by rw [hS110]; exact (pup_n (ne_cells hf_cal hf_ln (by nofun))).trans hf_cal
                        have hL129 : cor0 ∈ S108.1 := by rw [hS110]; exact hL_cor0
                        have hf130 : S108.2 cor0 = .inr (8, [.ref cob0, .int (nI 0)]) := by rw [hS110]; exact (pup_n (ne_cells hf_cor0 hf_ln (by nofun))).trans hf_cor0
                        have hL131 : cob0 ∈ S108.1 := by rw [hS110]; exact hL_cob0
                        have hf132 : S108.2 cob0 = aN (cy 0) 32 (fun _ => 0) := by rw [hS110]; exact (pup_n (ne_cells hf_cob0 hf_ln (by nofun))).trans hf_cob0
                        have hL133 : car0 ∈ S108.1 := by rw [hS110]; exact hL_car0
                        have hf134 : S108.2 car0 = .inr (8, [.ref cab0, .int (nI 0)]) := by rw [hS110]; exact (pup_n (ne_cells hf_car0 hf_ln (by nofun))).trans hf_car0
                        have hL135 : cab0 ∈ S108.1 := by rw [hS110]; exact hL_cab0
                        have hf136 : S108.2 cab0 = aN (cy 0) 32 (fun _ => 0) := by rw [hS110]; exact (pup_n (ne_cells hf_cab0 hf_ln (by nofun))).trans hf_cab0
                        refine p_callv (va_runV (As := []) (rest := []) C.fix (e_X11_settle0 l D cy S108 H.size x ch ln sl mk co ca su lt lk mb col con cal can cor0 cob0 car0 cab0 (va_up (va_up (va_up (va_up (va_up (fun _ => none) 0 (some cor0)) 1 (some cor1)) 2 (some cor2)) 3 (some cor3)) 4 (some cor4)) (va_up (va_up (va_up (va_up (va_up (fun _ => none) 0 (some car0)) 1 (some car1)) 2 (some car2)) 3 (some car3)) 4 (some car4)) (fun _ => 0) (fun _ => 0) (fun _ => 0) 0 0 kN a b c9 (zc a) (zc b) (zc c9) hL113 hf114 hL115 hf116 hL117 hf118 hL119 hf120 hL111 hf112 hL121 hf122 hL123 hf124 hL125 hf126 hL127 hf128 hL129 hf130 hL131 hf132 hL133 hf134 hL135 hf136 hne_cob0_cab0 hne_cor0_car0 hne_mk_car0 hne_mb_cab0 (by first | assumption | rfl | simp [va_up]) (by first | assumption | rfl | simp [va_up]) (by first | assumption | exact (fun _ => Nat.zero_le 2) | exact rnum_le (fun _ => Nat.zero_le 2) | exact rcop_le (by first | assumption | exact (fun _ => Nat.zero_le 2)) (by first | assumption | exact (fun _ => Nat.zero_le 2)) | exact rharm_le (rcop_le (by first | assumption | exact (fun _ => Nat.zero_le 2)) (by first | assumption | exact (fun _ => Nat.zero_le 2))) | exact rturn_le (fun _ => Nat.zero_le 2)) (by first | assumption | exact (fun _ => Nat.zero_le 2) | exact rnum_le (fun _ => Nat.zero_le 2) | exact rcop_le (by first | assumption | exact (fun _ => Nat.zero_le 2)) (by first | assumption | exact (fun _ => Nat.zero_le 2)) | exact rharm_le (rcop_le (by first | assumption | exact (fun _ => Nat.zero_le 2)) (by first | assumption | exact (fun _ => Nat.zero_le 2))) | exact rturn_le (fun _ => Nat.zero_le 2)) (by first | assumption | exact (fun _ => Nat.zero_le 2) | exact rnum_le (fun _ => Nat.zero_le 2) | exact rcop_le (by first | assumption | exact (fun _ => Nat.zero_le 2)) (by first | assumption | exact (fun _ => Nat.zero_le 2)) | exact rharm_le (rcop_le (by first | assumption | exact (fun _ => Nat.zero_le 2)) (by first | assumption | exact (fun _ => Nat.zero_le 2))) | exact rturn_le (fun _ => Nat.zero_le 2)) (by first | assumption | decide | omega) (by first | assumption | decide | omega) (by first | assumption | decide | omega) (zc_lt _) (zc_lt _) (zc_lt _) (fun h => ⟨zc_eq (by omega) (by omega), zc_eq (by omega) (by omega), zc_eq (by omega) (by omega)⟩) (fun h => ⟨zc_eq (by omega) (by omega), zc_eq (by omega) (by omega)⟩)) (cwV 0 C.2.2.2.2.1 (gU_V mw_187 mw_188 mw_189 mw_2 (subU mw_190)) rfl rfl rfl hde_X11_channel_V_2 ⟨Nat.le_of_ble_eq_true rfl, Nat.le_of_ble_eq_true rfl⟩) (p_preV C hw hL113 hf114 rfl) rfl rfl hl.1 rfl (lv_room (Nat.le_of_ble_eq_true rfl)) dX11_channel_133 ⟨Nat.le_of_ble_eq_true rfl, Nat.le_of_ble_eq_true rfl⟩) hw hA (fun S137 H locs hpost hw => ?_)
                        obtain ⟨hS139, hfr140⟩ := hpost
                        refine lv_iload hx hb dX11_channel_136 (lv_at hl 0 rfl) ?_
                        refine vx_ret ?_
                        refine W.widen (k := 1) (n := 6) (Nat.le_of_ble_eq_true rfl) (Nat.le_of_ble_eq_true rfl) ?_
                        exact (p_iret C hw (⟨(by unfold okC; omega), rfl, (by simp only [hS139, hS110, pup, pnew, List.append_nil, List.append_assoc, List.cons_append, List.nil_append]), (fun a_ ha_ hn_0 hn_1 hn_2 => ((hfr140 a_ (show a_ ∈ S108.1 from by rw [hS110]; exact ha_) hn_1 hn_2).trans (show S108.2 a_ = S.2 a_ from by rw [hS110]; exact pup_n hn_0)))⟩) hr hlocks dX11_channel_138)
                      · skip
                        exact x_throw (y := yX11_channel) C hflags hw hE (kS := 17) (kT := 0) mw_119 mw_120 tIA_x rfl rfl (by decide) tIA_n tIA_g hl.1.symm dX11_channel_101 dX11_channel_104 dX11_channel_105 dX11_channel_107 dX11_channel_110 htab (Nat.le_of_ble_eq_true rfl) (Nat.le_of_ble_eq_true rfl) (Nat.le_of_ble_eq_true rfl) (Nat.le_of_ble_eq_true rfl) hlocks (⟨rfl, (fun h => by unfold okC at h; omega), rfl⟩) (Nat.le_of_ble_eq_true rfl) (Nat.le_of_ble_eq_true rfl)
        · skip
          refine lv_iload_n hx hb dX11_channel_29 rfl (lv_at hl 2 rfl) ?_
          refine z_if_lt (tgt := 50) hx hb rfl dX11_channel_30 (by decide) (fun h_30 => ?_) (fun h_30 => ?_)
          · skip
            exact x_throw (y := yX11_channel) C hflags hw hE (kS := 16) (kT := 0) mw_119 mw_120 tIA_x rfl rfl (by decide) tIA_n tIA_g hl.1.symm dX11_channel_50 dX11_channel_53 dX11_channel_54 dX11_channel_56 dX11_channel_59 htab (Nat.le_of_ble_eq_true rfl) (Nat.le_of_ble_eq_true rfl) (Nat.le_of_ble_eq_true rfl) (Nat.le_of_ble_eq_true rfl) hlocks (⟨rfl, (fun h => by unfold okC at h; omega), rfl⟩) (Nat.le_of_ble_eq_true rfl) (Nat.le_of_ble_eq_true rfl)
          · skip
            refine lv_iload_n hx hb dX11_channel_33 rfl (lv_at hl 2 rfl) ?_
            refine lv_sipush (v := nI 1000) hx hb dX11_channel_34 (by decide) ?_
            refine z_icmp_gt (tgt := 50) hx hb rfl (nI_toInt (by first | decide | omega)) dX11_channel_37 (by decide) (fun h_37 => ?_) (fun h_37 => ?_)
            · skip
              exact x_throw (y := yX11_channel) C hflags hw hE (kS := 16) (kT := 0) mw_119 mw_120 tIA_x rfl rfl (by decide) tIA_n tIA_g hl.1.symm dX11_channel_50 dX11_channel_53 dX11_channel_54 dX11_channel_56 dX11_channel_59 htab (Nat.le_of_ble_eq_true rfl) (Nat.le_of_ble_eq_true rfl) (Nat.le_of_ble_eq_true rfl) (Nat.le_of_ble_eq_true rfl) hlocks (⟨rfl, (fun h => by unfold okC at h; omega), rfl⟩) (Nat.le_of_ble_eq_true rfl) (Nat.le_of_ble_eq_true rfl)
            · skip
              refine lv_iload_n hx hb dX11_channel_40 rfl (lv_at hl 3 rfl) ?_
              refine z_if_lt (tgt := 50) hx hb rfl dX11_channel_41 (by decide) (fun h_41 => ?_) (fun h_41 => ?_)
              · skip
                exact x_throw (y := yX11_channel) C hflags hw hE (kS := 16) (kT := 0) mw_119 mw_120 tIA_x rfl rfl (by decide) tIA_n tIA_g hl.1.symm dX11_channel_50 dX11_channel_53 dX11_channel_54 dX11_channel_56 dX11_channel_59 htab (Nat.le_of_ble_eq_true rfl) (Nat.le_of_ble_eq_true rfl) (Nat.le_of_ble_eq_true rfl) (Nat.le_of_ble_eq_true rfl) hlocks (⟨rfl, (fun h => by unfold okC at h; omega), rfl⟩) (Nat.le_of_ble_eq_true rfl) (Nat.le_of_ble_eq_true rfl)
              · skip
                refine lv_iload_n hx hb dX11_channel_44 rfl (lv_at hl 3 rfl) ?_
                refine lv_ldc (v := nI 1000000) hx hb C.2.2.2.1 (C.2.2.2.2.1 (.constant RX11 152 (1000000)) (mU mw_711)) dX11_channel_45 ?_
                refine z_icmp_le (tgt := 60) hx hb rfl (nI_toInt (by first | decide | omega)) dX11_channel_47 (by decide) (fun h_47 => ?_) (fun h_47 => ?_)
                · skip
                  refine lv_iload_n hx hb dX11_channel_60 rfl (lv_at hl 1 rfl) ?_
                  refine lv_iconst (v := nI 2) hx hb dX11_channel_61 (by decide) ?_
                  refine z_icmp_ne (tgt := 111) hx hb rfl (nI_toInt (by first | decide | omega)) dX11_channel_62 (by decide) (fun h_62 => ?_) (fun h_62 => ?_)
                  · skip
                    obtain ⟨kN, hk31, rfl, hki⟩ := z_nat (x := k) (by omega)
                    have hk3 : kN ≤ 3 := by omega
                    refine lv_aload_n hx hb dX11_channel_111 rfl (lv_at hl 0 rfl) ?_
                    refine p_get C hw (ci := 11) (Cn := RX11) (T := TX11) (N := 8) hL_x hf_x rfl hin_RX11 1 (by decide) (mU mw_21) rfl rfl dX11_channel_112 ?_
                    refine p_calli (va_runV (As := []) (rest := []) C.fix (c_X5_kind l D cy S s.heap.size ln 0 (nI 0) (nI 0) (nI 0) hL_ln hf_ln) (cwV 0 C.2.2.2.2.1 (gU_V mw_712 mw_713 mw_714 mw_20 sub_X5_kind) rfl rfl rfl hde_X11_channel_V_0 ⟨Nat.le_of_ble_eq_true rfl, Nat.le_of_ble_eq_true rfl⟩) (p_preV C hw hL_ln hf_ln rfl) rfl rfl hl.1 rfl (lv_room (Nat.le_of_ble_eq_true rfl)) dX11_channel_115 ⟨Nat.le_of_ble_eq_true rfl, Nat.le_of_ble_eq_true rfl⟩) hw hA (fun r142 S141 H locs hpost hw => ?_)
                    obtain ⟨hr_, hS_⟩ := hpost
                    subst hr_
                    subst hS_
                    refine lv_istore (lv' := [(5, .int (nI 0)), (0, .ref x), (1, .int (nI kN)), (2, .int a), (3, .int b), (4, .int c9)]) hx hb dX11_channel_118 hl (by decide) rfl (fun ls hl => ?_)
                    refine lv_aload_n hx hb dX11_channel_120 rfl (lv_at hl 1 rfl) ?_
                    refine p_get C hw (ci := 11) (Cn := RX11) (T := TX11) (N := 8) hL_x hf_x rfl hin_RX11 1 (by decide) (mU mw_21) rfl rfl dX11_channel_121 ?_
                    refine lv_iload_n hx hb dX11_channel_124 rfl (lv_at hl 2 rfl) ?_
                    refine lv_iload_n hx hb dX11_channel_125 rfl (lv_at hl 3 rfl) ?_
                    refine lv_iload_n hx hb dX11_channel_126 rfl (lv_at hl 4 rfl) ?_
                    refine lv_iload hx hb dX11_channel_127 (lv_at hl 5 rfl) ?_
                    refine p_callv (va_runV (As := [.int (nI kN), .int a, .int b, .int c9]) (rest := []) C.fix (c_X5_become l D cy S H.size ln 0 (nI 0) (nI 0) (nI 0) kN a b c9 hL_ln hf_ln) (cwV 4 C.2.2.2.2.1 (gU_V mw_716 mw_717 mw_718 mw_20 sub_X5_become) rfl rfl rfl hde_X11_channel_V_1 ⟨Nat.le_of_ble_eq_true rfl, Nat.le_of_ble_eq_true rfl⟩) (p_preV C hw hL_ln hf_ln rfl) rfl rfl hl.1 rfl (lv_room (Nat.le_of_ble_eq_true rfl)) dX11_channel_129 ⟨Nat.le_of_ble_eq_true rfl, Nat.le_of_ble_eq_true rfl⟩) hw hA (fun S143 H locs hpost hw => ?_)
                    have hS_ := hpost
                    have hS145 := hS_
                    have hL146 : ln ∈ S143.1 := by rw [hS145]; exact hL_ln
                    have hf147 : S143.2 ln = .inr (6, [.int (nI kN), .int a, .int b, .int c9]) := by rw [hS145]; exact pup_s
                    refine lv_aload_n hx hb dX11_channel_132 rfl (lv_at hl 1 rfl) ?_
                    have hL148 : x ∈ S143.1 := by rw [hS145]; exact hL_x
                    have hf149 : S143.2 x = .inr (11, [.ref ch, .ref ln, .ref sl, .ref mk, .ref co, .ref ca, .ref su, .ref lt]) := by rw [hS145]; exact (pup_n (ne_cells hf_x hf_ln (by nofun))).trans hf_x
                    have hL150 : ch ∈ S143.1 := by rw [hS145]; exact hL_ch
                    have hf151 : S143.2 ch = .inr (2, [.ref lk, .int (nI 0)]) := by rw [hS145]; exact (pup_n (ne_cells hf_ch hf_ln (by nofun))).trans hf_ch
                    have hL152 : mk ∈ S143.1 := by rw [hS145]; exact hL_mk
                    have hf153 : S143.2 mk = .inr (8, [.ref mb, .int (nI 320)]) := by rw [hS145]; exact (pup_n (ne_cells hf_mk hf_ln (by nofun))).trans hf_mk
                    have hL154 : mb ∈ S143.1 := by rw [hS145]; exact hL_mb
                    have hf155 : S143.2 mb = aN (cy 0) 320 (fun _ => 0) := by rw [hS145]; exact (pup_n (ne_cells hf_mb hf_ln (by nofun))).trans hf_mb
                    have hL156 : co ∈ S143.1 := by rw [hS145]; exact hL_co
                    have hf157 : S143.2 co = .inr (5, [.ref col, .ref con]) := by rw [hS145]; exact (pup_n (ne_cells hf_co hf_ln (by nofun))).trans hf_co
                    have hL158 : col ∈ S143.1 := by rw [hS145]; exact hL_col
                    have hf159 : S143.2 col = aQ (cy 2) 5 (va_up (va_up (va_up (va_up (va_up (fun _ => none) 0 (some cor0)) 1 (some cor1)) 2 (some cor2)) 3 (some cor3)) 4 (some cor4)) := by rw [hS145]; exact (pup_n (ne_cells hf_col hf_ln (by nofun))).trans hf_col
                    have hL160 : ca ∈ S143.1 := by rw [hS145]; exact hL_ca
                    have hf161 : S143.2 ca = .inr (5, [.ref cal, .ref can]) := by rw [hS145]; exact (pup_n (ne_cells hf_ca hf_ln (by nofun))).trans hf_ca
                    have hL162 : cal ∈ S143.1 := by rw [hS145]; exact hL_cal
                    have hf163 : S143.2 cal = aQ (cy 2) 5 (va_up (va_up (va_up (va_up (va_up (fun _ => none) 0 (some car0)) 1 (some car1)) 2 (some car2)) 3 (some car3)) 4 (some car4)) := by rw [hS145]; exact (pup_n (ne_cells hf_cal hf_ln (by nofun))).trans hf_cal
                    have hL164 : cor0 ∈ S143.1 := by rw [hS145]; exact hL_cor0
                    have hf165 : S143.2 cor0 = .inr (8, [.ref cob0, .int (nI 0)]) := by rw [hS145]; exact (pup_n (ne_cells hf_cor0 hf_ln (by nofun))).trans hf_cor0
                    have hL166 : cob0 ∈ S143.1 := by rw [hS145]; exact hL_cob0
                    have hf167 : S143.2 cob0 = aN (cy 0) 32 (fun _ => 0) := by rw [hS145]; exact (pup_n (ne_cells hf_cob0 hf_ln (by nofun))).trans hf_cob0
                    have hL168 : car0 ∈ S143.1 := by rw [hS145]; exact hL_car0
                    have hf169 : S143.2 car0 = .inr (8, [.ref cab0, .int (nI 0)]) := by rw [hS145]; exact (pup_n (ne_cells hf_car0 hf_ln (by nofun))).trans hf_car0
                    have hL170 : cab0 ∈ S143.1 := by rw [hS145]; exact hL_cab0
                    have hf171 : S143.2 cab0 = aN (cy 0) 32 (fun _ => 0) := by rw [hS145]; exact (pup_n (ne_cells hf_cab0 hf_ln (by nofun))).trans hf_cab0
                    refine p_callv (va_runV (As := []) (rest := []) C.fix (e_X11_settle0 l D cy S143 H.size x ch ln sl mk co ca su lt lk mb col con cal can cor0 cob0 car0 cab0 (va_up (va_up (va_up (va_up (va_up (fun _ => none) 0 (some cor0)) 1 (some cor1)) 2 (some cor2)) 3 (some cor3)) 4 (some cor4)) (va_up (va_up (va_up (va_up (va_up (fun _ => none) 0 (some car0)) 1 (some car1)) 2 (some car2)) 3 (some car3)) 4 (some car4)) (fun _ => 0) (fun _ => 0) (fun _ => 0) 0 0 kN a b c9 (zc a) (zc b) (zc c9) hL148 hf149 hL150 hf151 hL152 hf153 hL154 hf155 hL146 hf147 hL156 hf157 hL158 hf159 hL160 hf161 hL162 hf163 hL164 hf165 hL166 hf167 hL168 hf169 hL170 hf171 hne_cob0_cab0 hne_cor0_car0 hne_mk_car0 hne_mb_cab0 (by first | assumption | rfl | simp [va_up]) (by first | assumption | rfl | simp [va_up]) (by first | assumption | exact (fun _ => Nat.zero_le 2) | exact rnum_le (fun _ => Nat.zero_le 2) | exact rcop_le (by first | assumption | exact (fun _ => Nat.zero_le 2)) (by first | assumption | exact (fun _ => Nat.zero_le 2)) | exact rharm_le (rcop_le (by first | assumption | exact (fun _ => Nat.zero_le 2)) (by first | assumption | exact (fun _ => Nat.zero_le 2))) | exact rturn_le (fun _ => Nat.zero_le 2)) (by first | assumption | exact (fun _ => Nat.zero_le 2) | exact rnum_le (fun _ => Nat.zero_le 2) | exact rcop_le (by first | assumption | exact (fun _ => Nat.zero_le 2)) (by first | assumption | exact (fun _ => Nat.zero_le 2)) | exact rharm_le (rcop_le (by first | assumption | exact (fun _ => Nat.zero_le 2)) (by first | assumption | exact (fun _ => Nat.zero_le 2))) | exact rturn_le (fun _ => Nat.zero_le 2)) (by first | assumption | exact (fun _ => Nat.zero_le 2) | exact rnum_le (fun _ => Nat.zero_le 2) | exact rcop_le (by first | assumption | exact (fun _ => Nat.zero_le 2)) (by first | assumption | exact (fun _ => Nat.zero_le 2)) | exact rharm_le (rcop_le (by first | assumption | exact (fun _ => Nat.zero_le 2)) (by first | assumption | exact (fun _ => Nat.zero_le 2))) | exact rturn_le (fun _ => Nat.zero_le 2)) (by first | assumption | decide | omega) (by first | assumption | decide | omega) (by first | assumption | decide | omega) (zc_lt _) (zc_lt _) (zc_lt _) (fun h => ⟨zc_eq (by omega) (by omega), zc_eq (by omega) (by omega), zc_eq (by omega) (by omega)⟩) (fun h => ⟨zc_eq (by omega) (by omega), zc_eq (by omega) (by omega)⟩)) (cwV 0 C.2.2.2.2.1 (gU_V mw_187 mw_188 mw_189 mw_2 (subU mw_190)) rfl rfl rfl hde_X11_channel_V_2 ⟨Nat.le_of_ble_eq_true rfl, Nat.le_of_ble_eq_true rfl⟩) (p_preV C hw hL148 hf149 rfl) rfl rfl hl.1 rfl (lv_room (Nat.le_of_ble_eq_true rfl)) dX11_channel_133 ⟨Nat.le_of_ble_eq_true rfl, Nat.le_of_ble_eq_true rfl⟩) hw hA (fun S172 H locs hpost hw => ?_)
                    obtain ⟨hS174, hfr175⟩ := hpost
                    refine lv_iload hx hb dX11_channel_136 (lv_at hl 0 rfl) ?_
                    refine vx_ret ?_
                    refine W.widen (k := 1) (n := 6) (Nat.le_of_ble_eq_true rfl) (Nat.le_of_ble_eq_true rfl) ?_
                    exact (p_iret C hw (⟨(by unfold okC; omega), rfl, (by simp only [hS174, hS145, pup, pnew, List.append_nil, List.append_assoc, List.cons_append, List.nil_append]), (fun a_ ha_ hn_0 hn_1 hn_2 => ((hfr175 a_ (show a_ ∈ S143.1 from by rw [hS145]; exact ha_) hn_1 hn_2).trans (show S143.2 a_ = S.2 a_ from by rw [hS145]; exact pup_n hn_0)))⟩) hr hlocks dX11_channel_138)
                  · skip
                    refine lv_iload_n hx hb dX11_channel_65 rfl (lv_at hl 2 rfl) ?_
                    refine z_if_lt (tgt := 101) hx hb rfl dX11_channel_66 (by decide) (fun h_66 => ?_) (fun h_66 => ?_)
                    · skip
                      exact x_throw (y := yX11_channel) C hflags hw hE (kS := 17) (kT := 0) mw_119 mw_120 tIA_x rfl rfl (by decide) tIA_n tIA_g hl.1.symm dX11_channel_101 dX11_channel_104 dX11_channel_105 dX11_channel_107 dX11_channel_110 htab (Nat.le_of_ble_eq_true rfl) (Nat.le_of_ble_eq_true rfl) (Nat.le_of_ble_eq_true rfl) (Nat.le_of_ble_eq_true rfl) hlocks (⟨rfl, (fun h => by unfold okC at h; omega), rfl⟩) (Nat.le_of_ble_eq_true rfl) (Nat.le_of_ble_eq_true rfl)
                    · skip
                      refine lv_iload_n hx hb dX11_channel_69 rfl (lv_at hl 2 rfl) ?_
                      refine lv_sipush (v := nI 320) hx hb dX11_channel_70 (by decide) ?_
                      refine z_icmp_gt (tgt := 101) hx hb rfl (nI_toInt (by first | decide | omega)) dX11_channel_73 (by decide) (fun h_73 => ?_) (fun h_73 => ?_)
                      · skip
                        exact x_throw (y := yX11_channel) C hflags hw hE (kS := 17) (kT := 0) mw_119 mw_120 tIA_x rfl rfl (by decide) tIA_n tIA_g hl.1.symm dX11_channel_101 dX11_channel_104 dX11_channel_105 dX11_channel_107 dX11_channel_110 htab (Nat.le_of_ble_eq_true rfl) (Nat.le_of_ble_eq_true rfl) (Nat.le_of_ble_eq_true rfl) (Nat.le_of_ble_eq_true rfl) hlocks (⟨rfl, (fun h => by unfold okC at h; omega), rfl⟩) (Nat.le_of_ble_eq_true rfl) (Nat.le_of_ble_eq_true rfl)
                      · skip
                        refine lv_iload_n hx hb dX11_channel_76 rfl (lv_at hl 3 rfl) ?_
                        refine lv_iconst (v := nI 1) hx hb dX11_channel_77 (by decide) ?_
                        refine z_icmp_lt (tgt := 101) hx hb rfl (nI_toInt (by first | decide | omega)) dX11_channel_78 (by decide) (fun h_78 => ?_) (fun h_78 => ?_)
                        · skip
                          exact x_throw (y := yX11_channel) C hflags hw hE (kS := 17) (kT := 0) mw_119 mw_120 tIA_x rfl rfl (by decide) tIA_n tIA_g hl.1.symm dX11_channel_101 dX11_channel_104 dX11_channel_105 dX11_channel_107 dX11_channel_110 htab (Nat.le_of_ble_eq_true rfl) (Nat.le_of_ble_eq_true rfl) (Nat.le_of_ble_eq_true rfl) (Nat.le_of_ble_eq_true rfl) hlocks (⟨rfl, (fun h => by unfold okC at h; omega), rfl⟩) (Nat.le_of_ble_eq_true rfl) (Nat.le_of_ble_eq_true rfl)
                        · skip
                          refine lv_iload_n hx hb dX11_channel_81 rfl (lv_at hl 3 rfl) ?_
                          refine lv_bipush (v := nI 50) hx hb dX11_channel_82 (by decide) ?_
                          refine z_icmp_gt (tgt := 101) hx hb rfl (nI_toInt (by first | decide | omega)) dX11_channel_84 (by decide) (fun h_84 => ?_) (fun h_84 => ?_)
                          · skip
                            exact x_throw (y := yX11_channel) C hflags hw hE (kS := 17) (kT := 0) mw_119 mw_120 tIA_x rfl rfl (by decide) tIA_n tIA_g hl.1.symm dX11_channel_101 dX11_channel_104 dX11_channel_105 dX11_channel_107 dX11_channel_110 htab (Nat.le_of_ble_eq_true rfl) (Nat.le_of_ble_eq_true rfl) (Nat.le_of_ble_eq_true rfl) (Nat.le_of_ble_eq_true rfl) hlocks (⟨rfl, (fun h => by unfold okC at h; omega), rfl⟩) (Nat.le_of_ble_eq_true rfl) (Nat.le_of_ble_eq_true rfl)
                          · skip
                            refine lv_iload hx hb dX11_channel_87 (lv_at hl 4 rfl) ?_
                            refine lv_iload_n hx hb dX11_channel_89 rfl (lv_at hl 3 rfl) ?_
                            refine z_icmp_lt (tgt := 101) hx hb rfl rfl dX11_channel_90 (by decide) (fun h_90 => ?_) (fun h_90 => ?_)
                            · skip
                              exact x_throw (y := yX11_channel) C hflags hw hE (kS := 17) (kT := 0) mw_119 mw_120 tIA_x rfl rfl (by decide) tIA_n tIA_g hl.1.symm dX11_channel_101 dX11_channel_104 dX11_channel_105 dX11_channel_107 dX11_channel_110 htab (Nat.le_of_ble_eq_true rfl) (Nat.le_of_ble_eq_true rfl) (Nat.le_of_ble_eq_true rfl) (Nat.le_of_ble_eq_true rfl) hlocks (⟨rfl, (fun h => by unfold okC at h; omega), rfl⟩) (Nat.le_of_ble_eq_true rfl) (Nat.le_of_ble_eq_true rfl)
                            · skip
                              refine lv_iload hx hb dX11_channel_93 (lv_at hl 4 rfl) ?_
                              refine lv_sipush (v := nI 320) hx hb dX11_channel_95 (by decide) ?_
                              refine z_icmp_le (tgt := 111) hx hb rfl (nI_toInt (by first | decide | omega)) dX11_channel_98 (by decide) (fun h_98 => ?_) (fun h_98 => ?_)
                              · skip
                                obtain ⟨kN, hk31, rfl, hki⟩ := z_nat (x := k) (by omega)
                                have hk3 : kN ≤ 3 := by omega
                                refine lv_aload_n hx hb dX11_channel_111 rfl (lv_at hl 0 rfl) ?_
                                refine p_get C hw (ci := 11) (Cn := RX11) (T := TX11) (N := 8) hL_x hf_x rfl hin_RX11 1 (by decide) (mU mw_21) rfl rfl dX11_channel_112 ?_
                                refine p_calli (va_runV (As := []) (rest := []) C.fix (c_X5_kind l D cy S s.heap.size ln 0 (nI 0) (nI 0) (nI 0) hL_ln hf_ln) (cwV 0 C.2.2.2.2.1 (gU_V mw_712 mw_713 mw_714 mw_20 sub_X5_kind) rfl rfl rfl hde_X11_channel_V_0 ⟨Nat.le_of_ble_eq_true rfl, Nat.le_of_ble_eq_true rfl⟩) (p_preV C hw hL_ln hf_ln rfl) rfl rfl hl.1 rfl (lv_room (Nat.le_of_ble_eq_true rfl)) dX11_channel_115 ⟨Nat.le_of_ble_eq_true rfl, Nat.le_of_ble_eq_true rfl⟩) hw hA (fun r177 S176 H locs hpost hw => ?_)
                                obtain ⟨hr_, hS_⟩ := hpost
                                subst hr_
                                subst hS_
                                refine lv_istore (lv' := [(5, .int (nI 0)), (0, .ref x), (1, .int (nI kN)), (2, .int a), (3, .int b), (4, .int c9)]) hx hb dX11_channel_118 hl (by decide) rfl (fun ls hl => ?_)
                                refine lv_aload_n hx hb dX11_channel_120 rfl (lv_at hl 1 rfl) ?_
                                refine p_get C hw (ci := 11) (Cn := RX11) (T := TX11) (N := 8) hL_x hf_x rfl hin_RX11 1 (by decide) (mU mw_21) rfl rfl dX11_channel_121 ?_
                                refine lv_iload_n hx hb dX11_channel_124 rfl (lv_at hl 2 rfl) ?_
                                refine lv_iload_n hx hb dX11_channel_125 rfl (lv_at hl 3 rfl) ?_
                                refine lv_iload_n hx hb dX11_channel_126 rfl (lv_at hl 4 rfl) ?_
                                refine lv_iload hx hb dX11_channel_127 (lv_at hl 5 rfl) ?_
                                refine p_callv (va_runV (As := [.int (nI kN), .int a, .int b, .int c9]) (rest := []) C.fix (c_X5_become l D cy S H.size ln 0 (nI 0) (nI 0) (nI 0) kN a b c9 hL_ln hf_ln) (cwV 4 C.2.2.2.2.1 (gU_V mw_716 mw_717 mw_718 mw_20 sub_X5_become) rfl rfl rfl hde_X11_channel_V_1 ⟨Nat.le_of_ble_eq_true rfl, Nat.le_of_ble_eq_true rfl⟩) (p_preV C hw hL_ln hf_ln rfl) rfl rfl hl.1 rfl (lv_room (Nat.le_of_ble_eq_true rfl)) dX11_channel_129 ⟨Nat.le_of_ble_eq_true rfl, Nat.le_of_ble_eq_true rfl⟩) hw hA (fun S178 H locs hpost hw => ?_)
                                have hS_ := hpost
                                have hS180 := hS_
                                have hL181 : ln ∈ S178.1 := by rw [hS180]; exact hL_ln
                                have hf182 : S178.2 ln = .inr (6, [.int (nI kN), .int a, .int b, .int c9]) := by rw [hS180]; exact pup_s
                                refine lv_aload_n hx hb dX11_channel_132 rfl (lv_at hl 1 rfl) ?_
                                have hL183 : x ∈ S178.1 := by rw [hS180]; exact hL_x
                                have hf184 : S178.2 x = .inr (11, [.ref ch, .ref ln, .ref sl, .ref mk, .ref co, .ref ca, .ref su, .ref lt]) := by rw [hS180]; exact (pup_n (ne_cells hf_x hf_ln (by nofun))).trans hf_x
                                have hL185 : ch ∈ S178.1 := by rw [hS180]; exact hL_ch
                                have hf186 : S178.2 ch = .inr (2, [.ref lk, .int (nI 0)]) := by rw [hS180]; exact (pup_n (ne_cells hf_ch hf_ln (by nofun))).trans hf_ch
                                have hL187 : mk ∈ S178.1 := by rw [hS180]; exact hL_mk
                                have hf188 : S178.2 mk = .inr (8, [.ref mb, .int (nI 320)]) := by rw [hS180]; exact (pup_n (ne_cells hf_mk hf_ln (by nofun))).trans hf_mk
                                have hL189 : mb ∈ S178.1 := by rw [hS180]; exact hL_mb
                                have hf190 : S178.2 mb = aN (cy 0) 320 (fun _ => 0) := by rw [hS180]; exact (pup_n (ne_cells hf_mb hf_ln (by nofun))).trans hf_mb
                                have hL191 : co ∈ S178.1 := by rw [hS180]; exact hL_co
                                have hf192 : S178.2 co = .inr (5, [.ref col, .ref con]) := by rw [hS180]; exact (pup_n (ne_cells hf_co hf_ln (by nofun))).trans hf_co
                                have hL193 : col ∈ S178.1 := by rw [hS180]; exact hL_col
                                have hf194 : S178.2 col = aQ (cy 2) 5 (va_up (va_up (va_up (va_up (va_up (fun _ => none) 0 (some cor0)) 1 (some cor1)) 2 (some cor2)) 3 (some cor3)) 4 (some cor4)) := by rw [hS180]; exact (pup_n (ne_cells hf_col hf_ln (by nofun))).trans hf_col
                                have hL195 : ca ∈ S178.1 := by rw [hS180]; exact hL_ca
                                have hf196 : S178.2 ca = .inr (5, [.ref cal, .ref can]) := by rw [hS180]; exact (pup_n (ne_cells hf_ca hf_ln (by nofun))).trans hf_ca
                                have hL197 : cal ∈ S178.1 := by rw [hS180]; exact hL_cal
                                have hf198 : S178.2 cal = aQ (cy 2) 5 (va_up (va_up (va_up (va_up (va_up (fun _ => none) 0 (some car0)) 1 (some car1)) 2 (some car2)) 3 (some car3)) 4 (some car4)) := by rw [hS180]; exact (pup_n (ne_cells hf_cal hf_ln (by nofun))).trans hf_cal
                                have hL199 : cor0 ∈ S178.1 := by rw [hS180]; exact hL_cor0
                                have hf200 : S178.2 cor0 = .inr (8, [.ref cob0, .int (nI 0)]) := by rw [hS180]; exact (pup_n (ne_cells hf_cor0 hf_ln (by nofun))).trans hf_cor0
                                have hL201 : cob0 ∈ S178.1 := by rw [hS180]; exact hL_cob0
                                have hf202 : S178.2 cob0 = aN (cy 0) 32 (fun _ => 0) := by rw [hS180]; exact (pup_n (ne_cells hf_cob0 hf_ln (by nofun))).trans hf_cob0
                                have hL203 : car0 ∈ S178.1 := by rw [hS180]; exact hL_car0
                                have hf204 : S178.2 car0 = .inr (8, [.ref cab0, .int (nI 0)]) := by rw [hS180]; exact (pup_n (ne_cells hf_car0 hf_ln (by nofun))).trans hf_car0
                                have hL205 : cab0 ∈ S178.1 := by rw [hS180]; exact hL_cab0
                                have hf206 : S178.2 cab0 = aN (cy 0) 32 (fun _ => 0) := by rw [hS180]; exact (pup_n (ne_cells hf_cab0 hf_ln (by nofun))).trans hf_cab0
                                refine p_callv (va_runV (As := []) (rest := []) C.fix (e_X11_settle0 l D cy S178 H.size x ch ln sl mk co ca su lt lk mb col con cal can cor0 cob0 car0 cab0 (va_up (va_up (va_up (va_up (va_up (fun _ => none) 0 (some cor0)) 1 (some cor1)) 2 (some cor2)) 3 (some cor3)) 4 (some cor4)) (va_up (va_up (va_up (va_up (va_up (fun _ => none) 0 (some car0)) 1 (some car1)) 2 (some car2)) 3 (some car3)) 4 (some car4)) (fun _ => 0) (fun _ => 0) (fun _ => 0) 0 0 kN a b c9 (zc a) (zc b) (zc c9) hL183 hf184 hL185 hf186 hL187 hf188 hL189 hf190 hL181 hf182 hL191 hf192 hL193 hf194 hL195 hf196 hL197 hf198 hL199 hf200 hL201 hf202 hL203 hf204 hL205 hf206 hne_cob0_cab0 hne_cor0_car0 hne_mk_car0 hne_mb_cab0 (by first | assumption | rfl | simp [va_up]) (by first | assumption | rfl | simp [va_up]) (by first | assumption | exact (fun _ => Nat.zero_le 2) | exact rnum_le (fun _ => Nat.zero_le 2) | exact rcop_le (by first | assumption | exact (fun _ => Nat.zero_le 2)) (by first | assumption | exact (fun _ => Nat.zero_le 2)) | exact rharm_le (rcop_le (by first | assumption | exact (fun _ => Nat.zero_le 2)) (by first | assumption | exact (fun _ => Nat.zero_le 2))) | exact rturn_le (fun _ => Nat.zero_le 2)) (by first | assumption | exact (fun _ => Nat.zero_le 2) | exact rnum_le (fun _ => Nat.zero_le 2) | exact rcop_le (by first | assumption | exact (fun _ => Nat.zero_le 2)) (by first | assumption | exact (fun _ => Nat.zero_le 2)) | exact rharm_le (rcop_le (by first | assumption | exact (fun _ => Nat.zero_le 2)) (by first | assumption | exact (fun _ => Nat.zero_le 2))) | exact rturn_le (fun _ => Nat.zero_le 2)) (by first | assumption | exact (fun _ => Nat.zero_le 2) | exact rnum_le (fun _ => Nat.zero_le 2) | exact rcop_le (by first | assumption | exact (fun _ => Nat.zero_le 2)) (by first | assumption | exact (fun _ => Nat.zero_le 2)) | exact rharm_le (rcop_le (by first | assumption | exact (fun _ => Nat.zero_le 2)) (by first | assumption | exact (fun _ => Nat.zero_le 2))) | exact rturn_le (fun _ => Nat.zero_le 2)) (by first | assumption | decide | omega) (by first | assumption | decide | omega) (by first | assumption | decide | omega) (zc_lt _) (zc_lt _) (zc_lt _) (fun h => ⟨zc_eq (by omega) (by omega), zc_eq (by omega) (by omega), zc_eq (by omega) (by omega)⟩) (fun h => ⟨zc_eq (by omega) (by omega), zc_eq (by omega) (by omega)⟩)) (cwV 0 C.2.2.2.2.1 (gU_V mw_187 mw_188 mw_189 mw_2 (subU mw_190)) rfl rfl rfl hde_X11_channel_V_2 ⟨Nat.le_of_ble_eq_true rfl, Nat.le_of_ble_eq_true rfl⟩) (p_preV C hw hL183 hf184 rfl) rfl rfl hl.1 rfl (lv_room (Nat.le_of_ble_eq_true rfl)) dX11_channel_133 ⟨Nat.le_of_ble_eq_true rfl, Nat.le_of_ble_eq_true rfl⟩) hw hA (fun S207 H locs hpost hw => ?_)
                                obtain ⟨hS209, hfr210⟩ := hpost
                                refine lv_iload hx hb dX11_channel_136 (lv_at hl 0 rfl) ?_
                                refine vx_ret ?_
                                refine W.widen (k := 1) (n := 6) (Nat.le_of_ble_eq_true rfl) (Nat.le_of_ble_eq_true rfl) ?_
                                exact (p_iret C hw (⟨(by unfold okC; omega), rfl, (by simp only [hS209, hS180, pup, pnew, List.append_nil, List.append_assoc, List.cons_append, List.nil_append]), (fun a_ ha_ hn_0 hn_1 hn_2 => ((hfr210 a_ (show a_ ∈ S178.1 from by rw [hS180]; exact ha_) hn_1 hn_2).trans (show S178.2 a_ = S.2 a_ from by rw [hS180]; exact pup_n hn_0)))⟩) hr hlocks dX11_channel_138)
                              · skip
                                exact x_throw (y := yX11_channel) C hflags hw hE (kS := 17) (kT := 0) mw_119 mw_120 tIA_x rfl rfl (by decide) tIA_n tIA_g hl.1.symm dX11_channel_101 dX11_channel_104 dX11_channel_105 dX11_channel_107 dX11_channel_110 htab (Nat.le_of_ble_eq_true rfl) (Nat.le_of_ble_eq_true rfl) (Nat.le_of_ble_eq_true rfl) (Nat.le_of_ble_eq_true rfl) hlocks (⟨rfl, (fun h => by unfold okC at h; omega), rfl⟩) (Nat.le_of_ble_eq_true rfl) (Nat.le_of_ble_eq_true rfl)
                · skip
                  exact x_throw (y := yX11_channel) C hflags hw hE (kS := 16) (kT := 0) mw_119 mw_120 tIA_x rfl rfl (by decide) tIA_n tIA_g hl.1.symm dX11_channel_50 dX11_channel_53 dX11_channel_54 dX11_channel_56 dX11_channel_59 htab (Nat.le_of_ble_eq_true rfl) (Nat.le_of_ble_eq_true rfl) (Nat.le_of_ble_eq_true rfl) (Nat.le_of_ble_eq_true rfl) hlocks (⟨rfl, (fun h => by unfold okC at h; omega), rfl⟩) (Nat.le_of_ble_eq_true rfl) (Nat.le_of_ble_eq_true rfl)
    · skip
      exact x_throw (y := yX11_channel) C hflags hw hE (kS := 15) (kT := 0) mw_119 mw_120 tIA_x rfl rfl (by decide) tIA_n tIA_g hl.1.symm dX11_channel_9 dX11_channel_12 dX11_channel_13 dX11_channel_15 dX11_channel_18 htab (Nat.le_of_ble_eq_true rfl) (Nat.le_of_ble_eq_true rfl) (Nat.le_of_ble_eq_true rfl) (Nat.le_of_ble_eq_true rfl) hlocks (⟨rfl, (fun h => by unfold okC at h; omega), rfl⟩) (Nat.le_of_ble_eq_true rfl) (Nat.le_of_ble_eq_true rfl)

theorem hde_X11_mark_V_0 : yX7_turn.cls = RX7 ∧ yX7_turn.cls ≠ "java/lang/invoke/MethodHandle" ∧ yX7_turn.cls ≠ "java/lang/invoke/VarHandle" ∧ (parseMethodDescriptor yX7_turn.desc).map (fun d => d.parameters.length) = some 1 := by decide +kernel
theorem hde_X11_mark_V_1 : yX11_settle.cls = RX11 ∧ yX11_settle.cls ≠ "java/lang/invoke/MethodHandle" ∧ yX11_settle.cls ≠ "java/lang/invoke/VarHandle" ∧ (parseMethodDescriptor yX11_settle.desc).map (fun d => d.parameters.length) = some 0 := by decide +kernel
theorem hde_X11_mark_V_2 : yX7_ones.cls = RX7 ∧ yX7_ones.cls ≠ "java/lang/invoke/MethodHandle" ∧ yX7_ones.cls ≠ "java/lang/invoke/VarHandle" ∧ (parseMethodDescriptor yX7_ones.desc).map (fun d => d.parameters.length) = some 0 := by decide +kernel
set_option maxHeartbeats 4000000 in
set_option maxRecDepth 100000 in
/-- mark -/
theorem e_X11_mark (l : Launch) (hflags : l.stackTraces = false) (D : va_G) (cy : Nat → ClassId) (ed : Nat) (S : pS) (sz : Nat) (x : Nat) (ch : Nat) (ln : Nat) (sl : Nat) (mk : Nat) (co : Nat) (ca : Nat) (su : Nat) (lt : Nat) (lk : Nat) (mb : Nat) (col : Nat) (con : Nat) (cor0 : Nat) (cor1 : Nat) (cor2 : Nat) (cor3 : Nat) (cor4 : Nat) (cob0 : Nat) (cal : Nat) (can : Nat) (car0 : Nat) (car1 : Nat) (car2 : Nat) (car3 : Nat) (car4 : Nat) (cab0 : Nat) (j : Int32) (hL_x : x ∈ S.1) (hf_x : S.2 x = .inr (11, [.ref ch, .ref ln, .ref sl, .ref mk, .ref co, .ref ca, .ref su, .ref lt])) (hL_ch : ch ∈ S.1) (hf_ch : S.2 ch = .inr (2, [.ref lk, .int (nI 0)])) (hL_ln : ln ∈ S.1) (hf_ln : S.2 ln = .inr (6, [.int (nI 0), .int (nI 0), .int (nI 0), .int (nI 0)])) (hL_mk : mk ∈ S.1) (hf_mk : S.2 mk = .inr (8, [.ref mb, .int (nI 320)])) (hL_mb : mb ∈ S.1) (hf_mb : S.2 mb = aN (cy 0) 320 (fun _ => 0)) (hL_co : co ∈ S.1) (hf_co : S.2 co = .inr (5, [.ref col, .ref con])) (hL_col : col ∈ S.1) (hf_col : S.2 col = aQ (cy 2) 5 (va_up (va_up (va_up (va_up (va_up (fun _ => none) 0 (some cor0)) 1 (some cor1)) 2 (some cor2)) 3 (some cor3)) 4 (some cor4))) (hL_cor0 : cor0 ∈ S.1) (hf_cor0 : S.2 cor0 = .inr (8, [.ref cob0, .int (nI 0)])) (hL_cob0 : cob0 ∈ S.1) (hf_cob0 : S.2 cob0 = aN (cy 0) 32 (fun _ => 0)) (hL_ca : ca ∈ S.1) (hf_ca : S.2 ca = .inr (5, [.ref cal, .ref can])) (hL_cal : cal ∈ S.1) (hf_cal : S.2 cal = aQ (cy 2) 5 (va_up (va_up (va_up (va_up (va_up (fun _ => none) 0 (some car0)) 1 (some car1)) 2 (some car2)) 3 (some car3)) 4 (some car4))) (hL_car0 : car0 ∈ S.1) (hf_car0 : S.2 car0 = .inr (8, [.ref cab0, .int (nI 0)])) (hL_cab0 : cab0 ∈ S.1) (hf_cab0 : S.2 cab0 = aN (cy 0) 32 (fun _ => 0)) (hne_cob0_mb : cob0 ≠ mb) (hne_cab0_mb : cab0 ≠ mb) (hne_cob0_cab0 : cob0 ≠ cab0) (hne_cor0_car0 : cor0 ≠ car0) (hne_mk_car0 : mk ≠ car0) : vx_Met l yX11_mark (Cond.code yX11_mark cX11_mark 2 (some .int) :: lwU) ({ frames := 6, cells := 1, slots := 6, locals := 131 }) (ePc D cy ed S sz [.ref x, .int j]) (pQi D cy S sz (fun r S' => (okM j) ∧ r = (nI 1) ∧ S'.1 = S.1 ++ [] ∧ (∀ a_, a_ ∈ S.1 → a_ ≠ mb → a_ ≠ car0 → a_ ≠ cab0 → S'.2 a_ = S.2 a_))) (pX D S sz (fun E S' => (E = "java/lang/IndexOutOfBoundsException" ∧ (¬ okM j) ∧ S = S'))) 1 6 (pA S sz) := by
  refine vx_ofW (cc := cX11_mark) (maxL := 2) (ret := (some .int)) (by decide) rfl ?_
  intro p e s m args below meth c s₁ B hml htab hv
  obtain ⟨rfl, rfl, C, hw, hA, hr, hlocks, hE⟩ := e_start B hml hv
  have hx := C.1
  have hb := C.2.1
  have hl := lv_entry ([.ref x, .int j]) (n := 2) (Nat.le_of_ble_eq_true rfl)
  rw [lg_entry_eq]
  generalize (lg_sl ([.ref x, .int j]) ++ List.replicate (2 - (lg_sl ([.ref x, .int j])).length) Slot.unset).toArray = ls at hl ⊢
  have hl : lv_has ls 2 [(0, .ref x), (1, .int j)] := hl
  have hin_RX11 : ∀ w ∈ u_ws RX11 TX11 8, w ∈ (Cond.code yX11_mark cX11_mark 2 (some .int) :: lwU) := fun w h => mU (sub_RX11 w h)
  refine lv_iload_n hx hb dX11_mark_0 rfl (lv_at hl 1 rfl) ?_
  refine z_if_lt (tgt := 11) hx hb rfl dX11_mark_1 (by decide) (fun h_1 => ?_) (fun h_1 => ?_)
  · skip
    exact x_throw (y := yX11_mark) C hflags hw hE (kS := 18) (kT := 2) mw_733 mw_734 tIO_x rfl rfl (by decide) tIO_n tIO_g hl.1.symm dX11_mark_11 dX11_mark_14 dX11_mark_15 dX11_mark_17 dX11_mark_20 htab (Nat.le_of_ble_eq_true rfl) (Nat.le_of_ble_eq_true rfl) (Nat.le_of_ble_eq_true rfl) (Nat.le_of_ble_eq_true rfl) hlocks (⟨rfl, (fun h => by unfold okM at h; omega), rfl⟩) (Nat.le_of_ble_eq_true rfl) (Nat.le_of_ble_eq_true rfl)
  · skip
    refine lv_iload_n hx hb dX11_mark_4 rfl (lv_at hl 1 rfl) ?_
    refine lv_sipush (v := nI 320) hx hb dX11_mark_5 (by decide) ?_
    refine z_icmp_lt (tgt := 21) hx hb rfl (nI_toInt (by first | decide | omega)) dX11_mark_8 (by decide) (fun h_8 => ?_) (fun h_8 => ?_)
    · skip
      obtain ⟨pN, hp31, rfl, hpi⟩ := z_nat (x := j) (by omega)
      have hp : pN < 320 := by omega
      refine lv_aload_n hx hb dX11_mark_21 rfl (lv_at hl 0 rfl) ?_
      refine p_get C hw (ci := 11) (Cn := RX11) (T := TX11) (N := 8) hL_x hf_x rfl hin_RX11 3 (by decide) (mU mw_26) rfl rfl dX11_mark_22 ?_
      refine lv_iload_n hx hb dX11_mark_25 rfl (lv_at hl 1 rfl) ?_
      refine p_callv (va_runV (As := [.int (nI pN)]) (rest := []) C.fix (c_X7_turn l D cy S s.heap.size mk mb 320 320 pN (fun _ => 0) hL_mk hf_mk hL_mb hf_mb (by first | assumption | decide | omega) (by first | assumption | decide | omega) (by first | assumption | decide | omega) (by first | assumption | exact (fun _ => Nat.zero_le 2) | exact rnum_le (fun _ => Nat.zero_le 2) | exact rcop_le (by first | assumption | exact (fun _ => Nat.zero_le 2)) (by first | assumption | exact (fun _ => Nat.zero_le 2)) | exact rharm_le (rcop_le (by first | assumption | exact (fun _ => Nat.zero_le 2)) (by first | assumption | exact (fun _ => Nat.zero_le 2))) | exact rturn_le (fun _ => Nat.zero_le 2))) (cwV 1 C.2.2.2.2.1 (gU_V mw_735 mw_281 mw_282 mw_25 sub_X7_turn) rfl rfl rfl hde_X11_mark_V_0 ⟨Nat.le_of_ble_eq_true rfl, Nat.le_of_ble_eq_true rfl⟩) (p_preV C hw hL_mk hf_mk rfl) rfl rfl hl.1 rfl (lv_room (Nat.le_of_ble_eq_true rfl)) dX11_mark_26 ⟨Nat.le_of_ble_eq_true rfl, Nat.le_of_ble_eq_true rfl⟩) hw hA (fun S1 H locs hpost hw => ?_)
      have hS_ := hpost
      have hS3 := hS_
      have hL4 : mb ∈ S1.1 := by rw [hS3]; exact hL_mb
      have hf5 : S1.2 mb = aN (cy 0) 320 (rturn (fun _ => 0) 320 pN) := by rw [hS3]; exact pup_s
      refine lv_aload_n hx hb dX11_mark_29 rfl (lv_at hl 0 rfl) ?_
      have hL6 : x ∈ S1.1 := by rw [hS3]; exact hL_x
      have hf7 : S1.2 x = .inr (11, [.ref ch, .ref ln, .ref sl, .ref mk, .ref co, .ref ca, .ref su, .ref lt]) := by rw [hS3]; exact (pup_n (ne_cells hf_x hf_mb (by nofun))).trans hf_x
      have hL8 : ch ∈ S1.1 := by rw [hS3]; exact hL_ch
      have hf9 : S1.2 ch = .inr (2, [.ref lk, .int (nI 0)]) := by rw [hS3]; exact (pup_n (ne_cells hf_ch hf_mb (by nofun))).trans hf_ch
      have hL10 : mk ∈ S1.1 := by rw [hS3]; exact hL_mk
      have hf11 : S1.2 mk = .inr (8, [.ref mb, .int (nI 320)]) := by rw [hS3]; exact (pup_n (ne_cells hf_mk hf_mb (by nofun))).trans hf_mk
      have hL12 : ln ∈ S1.1 := by rw [hS3]; exact hL_ln
      have hf13 : S1.2 ln = .inr (6, [.int (nI 0), .int (nI 0), .int (nI 0), .int (nI 0)]) := by rw [hS3]; exact (pup_n (ne_cells hf_ln hf_mb (by nofun))).trans hf_ln
      have hL14 : co ∈ S1.1 := by rw [hS3]; exact hL_co
      have hf15 : S1.2 co = .inr (5, [.ref col, .ref con]) := by rw [hS3]; exact (pup_n (ne_cells hf_co hf_mb (by nofun))).trans hf_co
      have hL16 : col ∈ S1.1 := by rw [hS3]; exact hL_col
      have hf17 : S1.2 col = aQ (cy 2) 5 (va_up (va_up (va_up (va_up (va_up (fun _ => none) 0 (some cor0)) 1 (some cor1)) 2 (some cor2)) 3 (some cor3)) 4 (some cor4)) := by rw [hS3]; exact (pup_n (ne_cells hf_col hf_mb ne_QN)).trans hf_col
      have hL18 : ca ∈ S1.1 := by rw [hS3]; exact hL_ca
      have hf19 : S1.2 ca = .inr (5, [.ref cal, .ref can]) := by rw [hS3]; exact (pup_n (ne_cells hf_ca hf_mb (by nofun))).trans hf_ca
      have hL20 : cal ∈ S1.1 := by rw [hS3]; exact hL_cal
      have hf21 : S1.2 cal = aQ (cy 2) 5 (va_up (va_up (va_up (va_up (va_up (fun _ => none) 0 (some car0)) 1 (some car1)) 2 (some car2)) 3 (some car3)) 4 (some car4)) := by rw [hS3]; exact (pup_n (ne_cells hf_cal hf_mb ne_QN)).trans hf_cal
      have hL22 : cor0 ∈ S1.1 := by rw [hS3]; exact hL_cor0
      have hf23 : S1.2 cor0 = .inr (8, [.ref cob0, .int (nI 0)]) := by rw [hS3]; exact (pup_n (ne_cells hf_cor0 hf_mb (by nofun))).trans hf_cor0
      have hL24 : cob0 ∈ S1.1 := by rw [hS3]; exact hL_cob0
      have hf25 : S1.2 cob0 = aN (cy 0) 32 (fun _ => 0) := by rw [hS3]; exact (pup_n hne_cob0_mb).trans hf_cob0
      have hL26 : car0 ∈ S1.1 := by rw [hS3]; exact hL_car0
      have hf27 : S1.2 car0 = .inr (8, [.ref cab0, .int (nI 0)]) := by rw [hS3]; exact (pup_n (ne_cells hf_car0 hf_mb (by nofun))).trans hf_car0
      have hL28 : cab0 ∈ S1.1 := by rw [hS3]; exact hL_cab0
      have hf29 : S1.2 cab0 = aN (cy 0) 32 (fun _ => 0) := by rw [hS3]; exact (pup_n hne_cab0_mb).trans hf_cab0
      refine p_callv (va_runV (As := []) (rest := []) C.fix (e_X11_settle0 l D cy S1 H.size x ch ln sl mk co ca su lt lk mb col con cal can cor0 cob0 car0 cab0 (va_up (va_up (va_up (va_up (va_up (fun _ => none) 0 (some cor0)) 1 (some cor1)) 2 (some cor2)) 3 (some cor3)) 4 (some cor4)) (va_up (va_up (va_up (va_up (va_up (fun _ => none) 0 (some car0)) 1 (some car1)) 2 (some car2)) 3 (some car3)) 4 (some car4)) (rturn (fun _ => 0) 320 pN) (fun _ => 0) (fun _ => 0) 0 0 0 (nI 0) (nI 0) (nI 0) 0 0 0 hL6 hf7 hL8 hf9 hL10 hf11 hL4 hf5 hL12 hf13 hL14 hf15 hL16 hf17 hL18 hf19 hL20 hf21 hL22 hf23 hL24 hf25 hL26 hf27 hL28 hf29 hne_cob0_cab0 hne_cor0_car0 hne_mk_car0 (Ne.symm hne_cab0_mb) (by first | assumption | rfl | simp [va_up]) (by first | assumption | rfl | simp [va_up]) (by first | assumption | exact (fun _ => Nat.zero_le 2) | exact rnum_le (fun _ => Nat.zero_le 2) | exact rcop_le (by first | assumption | exact (fun _ => Nat.zero_le 2)) (by first | assumption | exact (fun _ => Nat.zero_le 2)) | exact rharm_le (rcop_le (by first | assumption | exact (fun _ => Nat.zero_le 2)) (by first | assumption | exact (fun _ => Nat.zero_le 2))) | exact rturn_le (fun _ => Nat.zero_le 2)) (by first | assumption | exact (fun _ => Nat.zero_le 2) | exact rnum_le (fun _ => Nat.zero_le 2) | exact rcop_le (by first | assumption | exact (fun _ => Nat.zero_le 2)) (by first | assumption | exact (fun _ => Nat.zero_le 2)) | exact rharm_le (rcop_le (by first | assumption | exact (fun _ => Nat.zero_le 2)) (by first | assumption | exact (fun _ => Nat.zero_le 2))) | exact rturn_le (fun _ => Nat.zero_le 2)) (by first | assumption | exact (fun _ => Nat.zero_le 2) | exact rnum_le (fun _ => Nat.zero_le 2) | exact rcop_le (by first | assumption | exact (fun _ => Nat.zero_le 2)) (by first | assumption | exact (fun _ => Nat.zero_le 2)) | exact rharm_le (rcop_le (by first | assumption | exact (fun _ => Nat.zero_le 2)) (by first | assumption | exact (fun _ => Nat.zero_le 2))) | exact rturn_le (fun _ => Nat.zero_le 2)) (by first | assumption | decide | omega) (by first | assumption | decide | omega) (by first | assumption | decide | omega) (by first | assumption | decide | omega) (by first | assumption | decide | omega) (by first | assumption | decide | omega) (by first | assumption | (intro h; exact absurd h (by decide)) | (intro h; exact absurd h (by omega))) (by first | assumption | (intro h; exact absurd h (by decide)) | (intro h; exact absurd h (by omega)))) (cwV 0 C.2.2.2.2.1 (gU_V mw_187 mw_188 mw_189 mw_2 (subU mw_190)) rfl rfl rfl hde_X11_mark_V_1 ⟨Nat.le_of_ble_eq_true rfl, Nat.le_of_ble_eq_true rfl⟩) (p_preV C hw hL6 hf7 rfl) rfl rfl hl.1 rfl (lv_room (Nat.le_of_ble_eq_true rfl)) dX11_mark_30 ⟨Nat.le_of_ble_eq_true rfl, Nat.le_of_ble_eq_true rfl⟩) hw hA (fun S30 H locs hpost hw => ?_)
      obtain ⟨hS32, hfr33⟩ := hpost
      refine lv_aload_n hx hb dX11_mark_33 rfl (lv_at hl 0 rfl) ?_
      have hL34 : x ∈ S30.1 := by rw [hS32]; exact List.mem_append_left _ hL6
      have hf35 : S30.2 x = .inr (11, [.ref ch, .ref ln, .ref sl, .ref mk, .ref co, .ref ca, .ref su, .ref lt]) := (hfr33 x hL6 (ne_cells hf7 hf27 (by nofun)) (ne_cells hf7 hf29 (by nofun))).trans hf7
      refine p_get C hw (ci := 11) (Cn := RX11) (T := TX11) (N := 8) hL34 hf35 rfl hin_RX11 3 (by decide) (mU mw_26) rfl rfl dX11_mark_34 ?_
      have hL36 : mk ∈ S30.1 := by rw [hS32]; exact List.mem_append_left _ hL10
      have hf37 : S30.2 mk = .inr (8, [.ref mb, .int (nI 320)]) := (hfr33 mk hL10 hne_mk_car0 (ne_cells hf11 hf29 (by nofun))).trans hf11
      have hL38 : mb ∈ S30.1 := by rw [hS32]; exact List.mem_append_left _ hL4
      have hf39 : S30.2 mb = aN (cy 0) 320 (rturn (fun _ => 0) 320 pN) := (hfr33 mb hL4 (ne_cells hf5 hf27 (by nofun)) (Ne.symm hne_cab0_mb)).trans hf5
      refine p_calli (va_runV (As := []) (rest := []) C.fix (c_X7_ones l D cy S30 H.size mk mb 320 320 (rturn (fun _ => 0) 320 pN) hL36 hf37 hL38 hf39 (by first | assumption | decide | omega) (by first | assumption | decide | omega) (by first | assumption | exact (fun _ => Nat.zero_le 2) | exact rnum_le (fun _ => Nat.zero_le 2) | exact rcop_le (by first | assumption | exact (fun _ => Nat.zero_le 2)) (by first | assumption | exact (fun _ => Nat.zero_le 2)) | exact rharm_le (rcop_le (by first | assumption | exact (fun _ => Nat.zero_le 2)) (by first | assumption | exact (fun _ => Nat.zero_le 2))) | exact rturn_le (fun _ => Nat.zero_le 2))) (cwV 0 C.2.2.2.2.1 (gU_V mw_736 mw_737 mw_738 mw_25 sub_X7_ones) rfl rfl rfl hde_X11_mark_V_2 ⟨Nat.le_of_ble_eq_true rfl, Nat.le_of_ble_eq_true rfl⟩) (p_preV C hw hL36 hf37 rfl) rfl rfl hl.1 rfl (lv_room (Nat.le_of_ble_eq_true rfl)) dX11_mark_37 ⟨Nat.le_of_ble_eq_true rfl, Nat.le_of_ble_eq_true rfl⟩) hw hA (fun r41 S40 H locs hpost hw => ?_)
      obtain ⟨hr_, hS_⟩ := hpost
      subst hr_
      subst hS_
      refine n_ren (b := 1) (by rw [cnt_one hp]; exact if_pos hp) ?_
      refine vx_ret ?_
      refine W.widen (k := 1) (n := 6) (Nat.le_of_ble_eq_true rfl) (Nat.le_of_ble_eq_true rfl) ?_
      exact (p_iret C hw (⟨(by unfold okM; omega), rfl, (by simp only [hS32, hS3, pup, pnew, List.append_nil, List.append_assoc, List.cons_append, List.nil_append]), (fun a_ ha_ hn_0 hn_1 hn_2 => ((hfr33 a_ (show a_ ∈ S1.1 from by rw [hS3]; exact ha_) hn_1 hn_2).trans (show S1.2 a_ = S.2 a_ from by rw [hS3]; exact pup_n hn_0)))⟩) hr hlocks dX11_mark_40)
    · skip
      exact x_throw (y := yX11_mark) C hflags hw hE (kS := 18) (kT := 2) mw_733 mw_734 tIO_x rfl rfl (by decide) tIO_n tIO_g hl.1.symm dX11_mark_11 dX11_mark_14 dX11_mark_15 dX11_mark_17 dX11_mark_20 htab (Nat.le_of_ble_eq_true rfl) (Nat.le_of_ble_eq_true rfl) (Nat.le_of_ble_eq_true rfl) (Nat.le_of_ble_eq_true rfl) hlocks (⟨rfl, (fun h => by unfold okM at h; omega), rfl⟩) (Nat.le_of_ble_eq_true rfl) (Nat.le_of_ble_eq_true rfl)

theorem hde_X11_breaks_0_V_0 : yX11_last.cls = RX11 ∧ yX11_last.cls ≠ "java/lang/invoke/MethodHandle" ∧ yX11_last.cls ≠ "java/lang/invoke/VarHandle" ∧ (parseMethodDescriptor yX11_last.desc).map (fun d => d.parameters.length) = some 1 := by decide +kernel
theorem hde_X11_breaks_0_V_1 : yX7_copy.cls = RX7 ∧ yX7_copy.cls ≠ "java/lang/invoke/MethodHandle" ∧ yX7_copy.cls ≠ "java/lang/invoke/VarHandle" ∧ (parseMethodDescriptor yX7_copy.desc).map (fun d => d.parameters.length) = some 1 := by decide +kernel
theorem hde_X11_breaks_0_V_2 : yX7_size.cls = RX7 ∧ yX7_size.cls ≠ "java/lang/invoke/MethodHandle" ∧ yX7_size.cls ≠ "java/lang/invoke/VarHandle" ∧ (parseMethodDescriptor yX7_size.desc).map (fun d => d.parameters.length) = some 0 := by decide +kernel
set_option maxHeartbeats 4000000 in
set_option maxRecDepth 100000 in
/-- breaks(0) -/
theorem e_X11_breaks_0 (l : Launch) (D : va_G) (cy : Nat → ClassId) (S : pS) (sz : Nat) (x : Nat) (ch : Nat) (ln : Nat) (sl : Nat) (mk : Nat) (co : Nat) (ca : Nat) (su : Nat) (lt : Nat) (lk : Nat) (col : Nat) (con : Nat) (cor0 : Nat) (cor1 : Nat) (cor2 : Nat) (cor3 : Nat) (cor4 : Nat) (cob0 : Nat) (sul : Nat) (sun : Nat) (sur0 : Nat) (sur1 : Nat) (sur2 : Nat) (sur3 : Nat) (sur4 : Nat) (sub0 : Nat) (sg : Nat → Nat) (hL_x : x ∈ S.1) (hf_x : S.2 x = .inr (11, [.ref ch, .ref ln, .ref sl, .ref mk, .ref co, .ref ca, .ref su, .ref lt])) (hL_ch : ch ∈ S.1) (hf_ch : S.2 ch = .inr (2, [.ref lk, .int (nI 0)])) (hL_co : co ∈ S.1) (hf_co : S.2 co = .inr (5, [.ref col, .ref con])) (hL_col : col ∈ S.1) (hf_col : S.2 col = aQ (cy 2) 5 (va_up (va_up (va_up (va_up (va_up (fun _ => none) 0 (some cor0)) 1 (some cor1)) 2 (some cor2)) 3 (some cor3)) 4 (some cor4))) (hL_cor0 : cor0 ∈ S.1) (hf_cor0 : S.2 cor0 = .inr (8, [.ref cob0, .int (nI 0)])) (hL_cob0 : cob0 ∈ S.1) (hf_cob0 : S.2 cob0 = aN (cy 0) 32 (fun _ => 0)) (hL_su : su ∈ S.1) (hf_su : S.2 su = .inr (5, [.ref sul, .ref sun])) (hL_sul : sul ∈ S.1) (hf_sul : S.2 sul = aQ (cy 2) 5 (va_up (va_up (va_up (va_up (va_up (fun _ => none) 0 (some sur0)) 1 (some sur1)) 2 (some sur2)) 3 (some sur3)) 4 (some sur4))) (hL_sur0 : sur0 ∈ S.1) (hf_sur0 : S.2 sur0 = .inr (8, [.ref sub0, .int (nI 0)])) (hL_sub0 : sub0 ∈ S.1) (hf_sub0 : S.2 sub0 = aN (cy 0) 32 sg) (hne_cob0_sub0 : cob0 ≠ sub0) (hne_cor0_sur0 : cor0 ≠ sur0) : Met l yX11_breaks (Cond.code yX11_breaks cX11_breaks 5 (some .int) :: lwU) ({ frames := 3, cells := 0, slots := 0, locals := 64 }) (pPc D cy S sz [.ref x, .int (nI 0)]) (pQi D cy S sz (fun r S' => r = (nI 0) ∧ S'.1 = S.1 ++ [] ∧ (∀ a_, a_ ∈ S.1 → a_ ≠ sub0 → S'.2 a_ = S.2 a_) ∧ S'.2 sub0 = aN (cy 0) 32 (rcop sg (fun _ => 0) 0 0))) 0 0 (pA S sz) := by
  refine Met.ofW (cc := cX11_breaks) (maxL := 5) (ret := (some .int)) (by decide) rfl ?_
  intro p e s m args below meth c s₁ B hml hv
  obtain ⟨rfl, rfl, C, hw, hA, hr, hlocks⟩ := p_start B hml hv
  have hx := C.1
  have hb := C.2.1
  have hl := lv_entry ([.ref x, .int (nI 0)]) (n := 5) (Nat.le_of_ble_eq_true rfl)
  rw [lg_entry_eq]
  generalize (lg_sl ([.ref x, .int (nI 0)]) ++ List.replicate (5 - (lg_sl ([.ref x, .int (nI 0)])).length) Slot.unset).toArray = ls at hl ⊢
  have hl : lv_has ls 5 [(0, .ref x), (1, .int (nI 0))] := hl
  have hin_RX11 : ∀ w ∈ u_ws RX11 TX11 8, w ∈ (Cond.code yX11_breaks cX11_breaks 5 (some .int) :: lwU) := fun w h => mU (sub_RX11 w h)
  refine lv_iload_n hx hb dX11_breaks_0 rfl (lv_at hl 1 rfl) ?_
  refine n_if_lt (tgt := 11) hx hb (by first | decide | omega) dX11_breaks_1 (by decide) ?_
  refine lv_iload_n hx hb dX11_breaks_4 rfl (lv_at hl 1 rfl) ?_
  refine lv_sipush (v := nI 320) hx hb dX11_breaks_5 (by decide) ?_
  refine n_icmp_lt (tgt := 21) hx hb (by first | decide | omega) (by first | decide | omega) dX11_breaks_8 (by decide) (fun h_8 => ?_) (fun h_8 => ?_)
  · skip
    refine lv_aload_n hx hb dX11_breaks_21 rfl (lv_at hl 0 rfl) ?_
    refine lv_aload_n hx hb dX11_breaks_22 rfl (lv_at hl 0 rfl) ?_
    refine p_get C hw (ci := 11) (Cn := RX11) (T := TX11) (N := 8) hL_x hf_x rfl hin_RX11 6 (by decide) (mU mw_32) rfl rfl dX11_breaks_23 ?_
    refine p_callq (va_runV (As := [.ref su]) (rest := []) C.fix (e_X11_last0 l D cy S s.heap.size x su ch ln sl mk co ca su lt lk sul sun (va_up (va_up (va_up (va_up (va_up (fun _ => none) 0 (some sur0)) 1 (some sur1)) 2 (some sur2)) 3 (some sur3)) 4 (some sur4)) sur0 hL_x hf_x hL_ch hf_ch hL_su hf_su hL_sul hf_sul (by first | assumption | rfl | simp [va_up])) (cwV 1 C.2.2.2.2.1 (gU_V mw_256 mw_257 mw_258 mw_2 (subU mw_259)) rfl rfl rfl hde_X11_breaks_0_V_0 ⟨Nat.le_of_ble_eq_true rfl, Nat.le_of_ble_eq_true rfl⟩) (p_preV C hw hL_x hf_x rfl) rfl rfl hl.1 rfl (lv_room (Nat.le_of_ble_eq_true rfl)) dX11_breaks_26 ⟨Nat.le_of_ble_eq_true rfl, Nat.le_of_ble_eq_true rfl⟩) hw hA (fun r2 S1 H locs hpost hw => ?_)
    obtain ⟨hr_, hS_⟩ := hpost
    subst hr_
    subst hS_
    refine lv_astore_n (lv' := [(2, .ref sur0), (0, .ref x), (1, .int (nI 0))]) hx hb dX11_breaks_29 rfl hl (by decide) rfl (fun ls hl => ?_)
    refine lv_aload_n hx hb dX11_breaks_30 rfl (lv_at hl 0 rfl) ?_
    refine lv_aload_n hx hb dX11_breaks_31 rfl (lv_at hl 1 rfl) ?_
    refine lv_aload_n hx hb dX11_breaks_32 rfl (lv_at hl 1 rfl) ?_
    refine p_get C hw (ci := 11) (Cn := RX11) (T := TX11) (N := 8) hL_x hf_x rfl hin_RX11 4 (by decide) (mU mw_30) rfl rfl dX11_breaks_33 ?_
    refine p_callq (va_runV (As := [.ref co]) (rest := [.ref sur0]) C.fix (e_X11_last0 l D cy S H.size x co ch ln sl mk co ca su lt lk col con (va_up (va_up (va_up (va_up (va_up (fun _ => none) 0 (some cor0)) 1 (some cor1)) 2 (some cor2)) 3 (some cor3)) 4 (some cor4)) cor0 hL_x hf_x hL_ch hf_ch hL_co hf_co hL_col hf_col (by first | assumption | rfl | simp [va_up])) (cwV 1 C.2.2.2.2.1 (gU_V mw_256 mw_257 mw_258 mw_2 (subU mw_259)) rfl rfl rfl hde_X11_breaks_0_V_0 ⟨Nat.le_of_ble_eq_true rfl, Nat.le_of_ble_eq_true rfl⟩) (p_preV C hw hL_x hf_x rfl) rfl rfl hl.1 rfl (lv_room (Nat.le_of_ble_eq_true rfl)) dX11_breaks_36 ⟨Nat.le_of_ble_eq_true rfl, Nat.le_of_ble_eq_true rfl⟩) hw hA (fun r4 S3 H locs hpost hw => ?_)
    obtain ⟨hr_, hS_⟩ := hpost
    subst hr_
    subst hS_
    refine p_callv (va_runV (As := [.ref cor0]) (rest := []) C.fix (c_X7_copy l D cy S H.size sur0 sub0 32 0 cor0 cob0 32 0 sg (fun _ => 0) hL_sur0 hf_sur0 hL_sub0 hf_sub0 hL_cor0 hf_cor0 hL_cob0 hf_cob0 (by first | assumption | decide | omega) (by first | assumption | decide | omega) (by first | assumption | decide | omega) (by first | assumption | decide | omega) hne_cob0_sub0 hne_cor0_sur0) (cwV 1 C.2.2.2.2.1 (gU_V mw_264 mw_265 mw_266 mw_25 sub_X7_copy) rfl rfl rfl hde_X11_breaks_0_V_1 ⟨Nat.le_of_ble_eq_true rfl, Nat.le_of_ble_eq_true rfl⟩) (p_preV C hw hL_sur0 hf_sur0 rfl) rfl rfl hl.1 rfl (lv_room (Nat.le_of_ble_eq_true rfl)) dX11_breaks_39 ⟨Nat.le_of_ble_eq_true rfl, Nat.le_of_ble_eq_true rfl⟩) hw hA (fun S5 H locs hpost hw => ?_)
    have hS_ := hpost
    try rw [show min 0 32 = 0 from rfl] at hS_
    rw [pup_self hf_sur0] at hS_
    try rw [show min 0 32 = 0 from rfl] at hS_
    have hS7 := hS_
    have hL8 : sub0 ∈ S5.1 := by rw [hS7]; exact hL_sub0
    have hf9 : S5.2 sub0 = aN (cy 0) 32 (rcop sg (fun _ => 0) 0 0) := by rw [hS7]; exact pup_s
    refine lv_aload_n hx hb dX11_breaks_42 rfl (lv_at hl 0 rfl) ?_
    have hL10 : sur0 ∈ S5.1 := by rw [hS7]; exact hL_sur0
    have hf11 : S5.2 sur0 = .inr (8, [.ref sub0, .int (nI 0)]) := by rw [hS7]; exact (pup_n (ne_cells hf_sur0 hf_sub0 (by nofun))).trans hf_sur0
    refine p_calli (va_runV (As := []) (rest := []) C.fix (c_X7_size l D cy S5 H.size sur0 sub0 0 hL10 hf11) (cwV 0 C.2.2.2.2.1 (gU_V mw_130 mw_131 mw_132 mw_25 sub_X7_size) rfl rfl rfl hde_X11_breaks_0_V_2 ⟨Nat.le_of_ble_eq_true rfl, Nat.le_of_ble_eq_true rfl⟩) (p_preV C hw hL10 hf11 rfl) rfl rfl hl.1 rfl (lv_room (Nat.le_of_ble_eq_true rfl)) dX11_breaks_43 ⟨Nat.le_of_ble_eq_true rfl, Nat.le_of_ble_eq_true rfl⟩) hw hA (fun r13 S12 H locs hpost hw => ?_)
    obtain ⟨hr_, hS_⟩ := hpost
    subst hr_
    subst hS_
    refine lv_istore_n (lv' := [(3, .int (nI 0)), (2, .ref sur0), (0, .ref x), (1, .int (nI 0))]) hx hb dX11_breaks_46 rfl hl (by decide) rfl (fun ls hl => ?_)
    refine lv_iload_n hx hb dX11_breaks_47 rfl (lv_at hl 3 rfl) ?_
    refine lv_istore (lv' := [(4, .int (nI 0)), (3, .int (nI 0)), (2, .ref sur0), (0, .ref x), (1, .int (nI 0))]) hx hb dX11_breaks_48 hl (by decide) rfl (fun ls hl => ?_)
    refine lv_iload hx hb dX11_breaks_50 (lv_at hl 0 rfl) ?_
    refine lv_iload_n hx hb dX11_breaks_52 rfl (lv_at hl 1 rfl) ?_
    refine n_icmp_ge (tgt := 101) hx hb (by first | decide | omega) (by first | decide | omega) dX11_breaks_53 (by decide) (fun h_53 => ?_) (fun h_53 => ?_)
    · skip
      refine lv_iconst (v := nI 0) hx hb dX11_breaks_101 (by decide) ?_
      exact (p_iret C hw (⟨rfl, (by simp only [hS7, pup, pnew, List.append_nil, List.append_assoc, List.cons_append, List.nil_append]), (fun a_ ha_ hn_0 => (show S5.2 a_ = S.2 a_ from by rw [hS7]; exact pup_n hn_0)), hf9⟩) hr hlocks dX11_breaks_102)
    · exact absurd h_53 (by first | decide | omega)
  · exact absurd h_8 (by first | decide | omega)

theorem hde_X11_breaks_5_V_0 : yX11_last.cls = RX11 ∧ yX11_last.cls ≠ "java/lang/invoke/MethodHandle" ∧ yX11_last.cls ≠ "java/lang/invoke/VarHandle" ∧ (parseMethodDescriptor yX11_last.desc).map (fun d => d.parameters.length) = some 1 := by decide +kernel
theorem hde_X11_breaks_5_V_1 : yX7_copy.cls = RX7 ∧ yX7_copy.cls ≠ "java/lang/invoke/MethodHandle" ∧ yX7_copy.cls ≠ "java/lang/invoke/VarHandle" ∧ (parseMethodDescriptor yX7_copy.desc).map (fun d => d.parameters.length) = some 1 := by decide +kernel
theorem hde_X11_breaks_5_V_2 : yX7_size.cls = RX7 ∧ yX7_size.cls ≠ "java/lang/invoke/MethodHandle" ∧ yX7_size.cls ≠ "java/lang/invoke/VarHandle" ∧ (parseMethodDescriptor yX7_size.desc).map (fun d => d.parameters.length) = some 0 := by decide +kernel
set_option maxHeartbeats 4000000 in
set_option maxRecDepth 100000 in
/-- breaks(5) -/
theorem e_X11_breaks_5 (l : Launch) (D : va_G) (cy : Nat → ClassId) (S : pS) (sz : Nat) (x : Nat) (ch : Nat) (ln : Nat) (sl : Nat) (mk : Nat) (co : Nat) (ca : Nat) (su : Nat) (lt : Nat) (lk : Nat) (col : Nat) (con : Nat) (cor0 : Nat) (cor1 : Nat) (cor2 : Nat) (cor3 : Nat) (cor4 : Nat) (cob0 : Nat) (sul : Nat) (sun : Nat) (sur0 : Nat) (sur1 : Nat) (sur2 : Nat) (sur3 : Nat) (sur4 : Nat) (sub0 : Nat) (sg : Nat → Nat) (hL_x : x ∈ S.1) (hf_x : S.2 x = .inr (11, [.ref ch, .ref ln, .ref sl, .ref mk, .ref co, .ref ca, .ref su, .ref lt])) (hL_ch : ch ∈ S.1) (hf_ch : S.2 ch = .inr (2, [.ref lk, .int (nI 0)])) (hL_co : co ∈ S.1) (hf_co : S.2 co = .inr (5, [.ref col, .ref con])) (hL_col : col ∈ S.1) (hf_col : S.2 col = aQ (cy 2) 5 (va_up (va_up (va_up (va_up (va_up (fun _ => none) 0 (some cor0)) 1 (some cor1)) 2 (some cor2)) 3 (some cor3)) 4 (some cor4))) (hL_cor0 : cor0 ∈ S.1) (hf_cor0 : S.2 cor0 = .inr (8, [.ref cob0, .int (nI 0)])) (hL_cob0 : cob0 ∈ S.1) (hf_cob0 : S.2 cob0 = aN (cy 0) 32 (fun _ => 0)) (hL_su : su ∈ S.1) (hf_su : S.2 su = .inr (5, [.ref sul, .ref sun])) (hL_sul : sul ∈ S.1) (hf_sul : S.2 sul = aQ (cy 2) 5 (va_up (va_up (va_up (va_up (va_up (fun _ => none) 0 (some sur0)) 1 (some sur1)) 2 (some sur2)) 3 (some sur3)) 4 (some sur4))) (hL_sur0 : sur0 ∈ S.1) (hf_sur0 : S.2 sur0 = .inr (8, [.ref sub0, .int (nI 0)])) (hL_sub0 : sub0 ∈ S.1) (hf_sub0 : S.2 sub0 = aN (cy 0) 32 sg) (hne_cob0_sub0 : cob0 ≠ sub0) (hne_cor0_sur0 : cor0 ≠ sur0) : Met l yX11_breaks (Cond.code yX11_breaks cX11_breaks 5 (some .int) :: lwU) ({ frames := 3, cells := 0, slots := 0, locals := 64 }) (pPc D cy S sz [.ref x, .int (nI 5)]) (pQi D cy S sz (fun r S' => r = (nI 0) ∧ S'.1 = S.1 ++ [] ∧ (∀ a_, a_ ∈ S.1 → a_ ≠ sub0 → S'.2 a_ = S.2 a_) ∧ S'.2 sub0 = aN (cy 0) 32 (rcop sg (fun _ => 0) 0 0))) 0 0 (pA S sz) := by
  refine Met.ofW (cc := cX11_breaks) (maxL := 5) (ret := (some .int)) (by decide) rfl ?_
  intro p e s m args below meth c s₁ B hml hv
  obtain ⟨rfl, rfl, C, hw, hA, hr, hlocks⟩ := p_start B hml hv
  have hx := C.1
  have hb := C.2.1
  have hl := lv_entry ([.ref x, .int (nI 5)]) (n := 5) (Nat.le_of_ble_eq_true rfl)
  rw [lg_entry_eq]
  generalize (lg_sl ([.ref x, .int (nI 5)]) ++ List.replicate (5 - (lg_sl ([.ref x, .int (nI 5)])).length) Slot.unset).toArray = ls at hl ⊢
  have hl : lv_has ls 5 [(0, .ref x), (1, .int (nI 5))] := hl
  have hin_RX11 : ∀ w ∈ u_ws RX11 TX11 8, w ∈ (Cond.code yX11_breaks cX11_breaks 5 (some .int) :: lwU) := fun w h => mU (sub_RX11 w h)
  refine lv_iload_n hx hb dX11_breaks_0 rfl (lv_at hl 1 rfl) ?_
  refine n_if_lt (tgt := 11) hx hb (by first | decide | omega) dX11_breaks_1 (by decide) ?_
  refine lv_iload_n hx hb dX11_breaks_4 rfl (lv_at hl 1 rfl) ?_
  refine lv_sipush (v := nI 320) hx hb dX11_breaks_5 (by decide) ?_
  refine n_icmp_lt (tgt := 21) hx hb (by first | decide | omega) (by first | decide | omega) dX11_breaks_8 (by decide) (fun h_8 => ?_) (fun h_8 => ?_)
  · skip
    refine lv_aload_n hx hb dX11_breaks_21 rfl (lv_at hl 0 rfl) ?_
    refine lv_aload_n hx hb dX11_breaks_22 rfl (lv_at hl 0 rfl) ?_
    refine p_get C hw (ci := 11) (Cn := RX11) (T := TX11) (N := 8) hL_x hf_x rfl hin_RX11 6 (by decide) (mU mw_32) rfl rfl dX11_breaks_23 ?_
    refine p_callq (va_runV (As := [.ref su]) (rest := []) C.fix (e_X11_last0 l D cy S s.heap.size x su ch ln sl mk co ca su lt lk sul sun (va_up (va_up (va_up (va_up (va_up (fun _ => none) 0 (some sur0)) 1 (some sur1)) 2 (some sur2)) 3 (some sur3)) 4 (some sur4)) sur0 hL_x hf_x hL_ch hf_ch hL_su hf_su hL_sul hf_sul (by first | assumption | rfl | simp [va_up])) (cwV 1 C.2.2.2.2.1 (gU_V mw_256 mw_257 mw_258 mw_2 (subU mw_259)) rfl rfl rfl hde_X11_breaks_5_V_0 ⟨Nat.le_of_ble_eq_true rfl, Nat.le_of_ble_eq_true rfl⟩) (p_preV C hw hL_x hf_x rfl) rfl rfl hl.1 rfl (lv_room (Nat.le_of_ble_eq_true rfl)) dX11_breaks_26 ⟨Nat.le_of_ble_eq_true rfl, Nat.le_of_ble_eq_true rfl⟩) hw hA (fun r2 S1 H locs hpost hw => ?_)
    obtain ⟨hr_, hS_⟩ := hpost
    subst hr_
    subst hS_
    refine lv_astore_n (lv' := [(2, .ref sur0), (0, .ref x), (1, .int (nI 5))]) hx hb dX11_breaks_29 rfl hl (by decide) rfl (fun ls hl => ?_)
    refine lv_aload_n hx hb dX11_breaks_30 rfl (lv_at hl 0 rfl) ?_
    refine lv_aload_n hx hb dX11_breaks_31 rfl (lv_at hl 1 rfl) ?_
    refine lv_aload_n hx hb dX11_breaks_32 rfl (lv_at hl 1 rfl) ?_
    refine p_get C hw (ci := 11) (Cn := RX11) (T := TX11) (N := 8) hL_x hf_x rfl hin_RX11 4 (by decide) (mU mw_30) rfl rfl dX11_breaks_33 ?_
    refine p_callq (va_runV (As := [.ref co]) (rest := [.ref sur0]) C.fix (e_X11_last0 l D cy S H.size x co ch ln sl mk co ca su lt lk col con (va_up (va_up (va_up (va_up (va_up (fun _ => none) 0 (some cor0)) 1 (some cor1)) 2 (some cor2)) 3 (some cor3)) 4 (some cor4)) cor0 hL_x hf_x hL_ch hf_ch hL_co hf_co hL_col hf_col (by first | assumption | rfl | simp [va_up])) (cwV 1 C.2.2.2.2.1 (gU_V mw_256 mw_257 mw_258 mw_2 (subU mw_259)) rfl rfl rfl hde_X11_breaks_5_V_0 ⟨Nat.le_of_ble_eq_true rfl, Nat.le_of_ble_eq_true rfl⟩) (p_preV C hw hL_x hf_x rfl) rfl rfl hl.1 rfl (lv_room (Nat.le_of_ble_eq_true rfl)) dX11_breaks_36 ⟨Nat.le_of_ble_eq_true rfl, Nat.le_of_ble_eq_true rfl⟩) hw hA (fun r4 S3 H locs hpost hw => ?_)
    obtain ⟨hr_, hS_⟩ := hpost
    subst hr_
    subst hS_
    refine p_callv (va_runV (As := [.ref cor0]) (rest := []) C.fix (c_X7_copy l D cy S H.size sur0 sub0 32 0 cor0 cob0 32 0 sg (fun _ => 0) hL_sur0 hf_sur0 hL_sub0 hf_sub0 hL_cor0 hf_cor0 hL_cob0 hf_cob0 (by first | assumption | decide | omega) (by first | assumption | decide | omega) (by first | assumption | decide | omega) (by first | assumption | decide | omega) hne_cob0_sub0 hne_cor0_sur0) (cwV 1 C.2.2.2.2.1 (gU_V mw_264 mw_265 mw_266 mw_25 sub_X7_copy) rfl rfl rfl hde_X11_breaks_5_V_1 ⟨Nat.le_of_ble_eq_true rfl, Nat.le_of_ble_eq_true rfl⟩) (p_preV C hw hL_sur0 hf_sur0 rfl) rfl rfl hl.1 rfl (lv_room (Nat.le_of_ble_eq_true rfl)) dX11_breaks_39 ⟨Nat.le_of_ble_eq_true rfl, Nat.le_of_ble_eq_true rfl⟩) hw hA (fun S5 H locs hpost hw => ?_)
    have hS_ := hpost
    try rw [show min 0 32 = 0 from rfl] at hS_
    rw [pup_self hf_sur0] at hS_
    try rw [show min 0 32 = 0 from rfl] at hS_
    have hS7 := hS_
    have hL8 : sub0 ∈ S5.1 := by rw [hS7]; exact hL_sub0
    have hf9 : S5.2 sub0 = aN (cy 0) 32 (rcop sg (fun _ => 0) 0 0) := by rw [hS7]; exact pup_s
    refine lv_aload_n hx hb dX11_breaks_42 rfl (lv_at hl 0 rfl) ?_
    have hL10 : sur0 ∈ S5.1 := by rw [hS7]; exact hL_sur0
    have hf11 : S5.2 sur0 = .inr (8, [.ref sub0, .int (nI 0)]) := by rw [hS7]; exact (pup_n (ne_cells hf_sur0 hf_sub0 (by nofun))).trans hf_sur0
    refine p_calli (va_runV (As := []) (rest := []) C.fix (c_X7_size l D cy S5 H.size sur0 sub0 0 hL10 hf11) (cwV 0 C.2.2.2.2.1 (gU_V mw_130 mw_131 mw_132 mw_25 sub_X7_size) rfl rfl rfl hde_X11_breaks_5_V_2 ⟨Nat.le_of_ble_eq_true rfl, Nat.le_of_ble_eq_true rfl⟩) (p_preV C hw hL10 hf11 rfl) rfl rfl hl.1 rfl (lv_room (Nat.le_of_ble_eq_true rfl)) dX11_breaks_43 ⟨Nat.le_of_ble_eq_true rfl, Nat.le_of_ble_eq_true rfl⟩) hw hA (fun r13 S12 H locs hpost hw => ?_)
    obtain ⟨hr_, hS_⟩ := hpost
    subst hr_
    subst hS_
    refine lv_istore_n (lv' := [(3, .int (nI 0)), (2, .ref sur0), (0, .ref x), (1, .int (nI 5))]) hx hb dX11_breaks_46 rfl hl (by decide) rfl (fun ls hl => ?_)
    refine lv_iload_n hx hb dX11_breaks_47 rfl (lv_at hl 3 rfl) ?_
    refine lv_istore (lv' := [(4, .int (nI 5)), (3, .int (nI 0)), (2, .ref sur0), (0, .ref x), (1, .int (nI 5))]) hx hb dX11_breaks_48 hl (by decide) rfl (fun ls hl => ?_)
    refine lv_iload hx hb dX11_breaks_50 (lv_at hl 0 rfl) ?_
    refine lv_iload_n hx hb dX11_breaks_52 rfl (lv_at hl 1 rfl) ?_
    refine n_icmp_ge (tgt := 101) hx hb (by first | decide | omega) (by first | decide | omega) dX11_breaks_53 (by decide) (fun h_53 => ?_) (fun h_53 => ?_)
    · skip
      refine lv_iconst (v := nI 0) hx hb dX11_breaks_101 (by decide) ?_
      exact (p_iret C hw (⟨rfl, (by simp only [hS7, pup, pnew, List.append_nil, List.append_assoc, List.cons_append, List.nil_append]), (fun a_ ha_ hn_0 => (show S5.2 a_ = S.2 a_ from by rw [hS7]; exact pup_n hn_0)), hf9⟩) hr hlocks dX11_breaks_102)
    · exact absurd h_53 (by first | decide | omega)
  · exact absurd h_8 (by first | decide | omega)

theorem hde_X11_breaks_V_0 : yX11_last.cls = RX11 ∧ yX11_last.cls ≠ "java/lang/invoke/MethodHandle" ∧ yX11_last.cls ≠ "java/lang/invoke/VarHandle" ∧ (parseMethodDescriptor yX11_last.desc).map (fun d => d.parameters.length) = some 1 := by decide +kernel
theorem hde_X11_breaks_V_1 : yX7_copy.cls = RX7 ∧ yX7_copy.cls ≠ "java/lang/invoke/MethodHandle" ∧ yX7_copy.cls ≠ "java/lang/invoke/VarHandle" ∧ (parseMethodDescriptor yX7_copy.desc).map (fun d => d.parameters.length) = some 1 := by decide +kernel
theorem hde_X11_breaks_V_2 : yX7_size.cls = RX7 ∧ yX7_size.cls ≠ "java/lang/invoke/MethodHandle" ∧ yX7_size.cls ≠ "java/lang/invoke/VarHandle" ∧ (parseMethodDescriptor yX7_size.desc).map (fun d => d.parameters.length) = some 0 := by decide +kernel
set_option maxHeartbeats 4000000 in
set_option maxRecDepth 100000 in
/-- breaks -/
theorem e_X11_breaks (l : Launch) (hflags : l.stackTraces = false) (D : va_G) (cy : Nat → ClassId) (ed : Nat) (S : pS) (sz : Nat) (x : Nat) (ch : Nat) (ln : Nat) (sl : Nat) (mk : Nat) (co : Nat) (ca : Nat) (su : Nat) (lt : Nat) (lk : Nat) (col : Nat) (con : Nat) (cor0 : Nat) (cor1 : Nat) (cor2 : Nat) (cor3 : Nat) (cor4 : Nat) (cob0 : Nat) (sul : Nat) (sun : Nat) (sur0 : Nat) (sur1 : Nat) (sur2 : Nat) (sur3 : Nat) (sur4 : Nat) (sub0 : Nat) (j : Int32) (hL_x : x ∈ S.1) (hf_x : S.2 x = .inr (11, [.ref ch, .ref ln, .ref sl, .ref mk, .ref co, .ref ca, .ref su, .ref lt])) (hL_ch : ch ∈ S.1) (hf_ch : S.2 ch = .inr (2, [.ref lk, .int (nI 0)])) (hL_co : co ∈ S.1) (hf_co : S.2 co = .inr (5, [.ref col, .ref con])) (hL_col : col ∈ S.1) (hf_col : S.2 col = aQ (cy 2) 5 (va_up (va_up (va_up (va_up (va_up (fun _ => none) 0 (some cor0)) 1 (some cor1)) 2 (some cor2)) 3 (some cor3)) 4 (some cor4))) (hL_cor0 : cor0 ∈ S.1) (hf_cor0 : S.2 cor0 = .inr (8, [.ref cob0, .int (nI 0)])) (hL_cob0 : cob0 ∈ S.1) (hf_cob0 : S.2 cob0 = aN (cy 0) 32 (fun _ => 0)) (hL_su : su ∈ S.1) (hf_su : S.2 su = .inr (5, [.ref sul, .ref sun])) (hL_sul : sul ∈ S.1) (hf_sul : S.2 sul = aQ (cy 2) 5 (va_up (va_up (va_up (va_up (va_up (fun _ => none) 0 (some sur0)) 1 (some sur1)) 2 (some sur2)) 3 (some sur3)) 4 (some sur4))) (hL_sur0 : sur0 ∈ S.1) (hf_sur0 : S.2 sur0 = .inr (8, [.ref sub0, .int (nI 0)])) (hL_sub0 : sub0 ∈ S.1) (hf_sub0 : S.2 sub0 = aN (cy 0) 32 (fun _ => 0)) (hne_cob0_sub0 : cob0 ≠ sub0) (hne_cor0_sur0 : cor0 ≠ sur0) : vx_Met l yX11_breaks (Cond.code yX11_breaks cX11_breaks 5 (some .int) :: lwU) ({ frames := 6, cells := 1, slots := 6, locals := 82 }) (ePc D cy ed S sz [.ref x, .int j]) (pQi D cy S sz (fun r S' => (okM j) ∧ r = (nI 0) ∧ S'.1 = S.1 ++ [] ∧ (∀ a_, a_ ∈ S.1 → a_ ≠ sub0 → S'.2 a_ = S.2 a_))) (pX D S sz (fun E S' => (E = "java/lang/IllegalArgumentException" ∧ (¬ okM j) ∧ S = S'))) 1 6 (pA S sz) := by
  refine vx_ofW (cc := cX11_breaks) (maxL := 5) (ret := (some .int)) (by decide) rfl ?_
  intro p e s m args below meth c s₁ B hml htab hv
  obtain ⟨rfl, rfl, C, hw, hA, hr, hlocks, hE⟩ := e_start B hml hv
  have hx := C.1
  have hb := C.2.1
  have hl := lv_entry ([.ref x, .int j]) (n := 5) (Nat.le_of_ble_eq_true rfl)
  rw [lg_entry_eq]
  generalize (lg_sl ([.ref x, .int j]) ++ List.replicate (5 - (lg_sl ([.ref x, .int j])).length) Slot.unset).toArray = ls at hl ⊢
  have hl : lv_has ls 5 [(0, .ref x), (1, .int j)] := hl
  have hin_RX11 : ∀ w ∈ u_ws RX11 TX11 8, w ∈ (Cond.code yX11_breaks cX11_breaks 5 (some .int) :: lwU) := fun w h => mU (sub_RX11 w h)
  refine lv_iload_n hx hb dX11_breaks_0 rfl (lv_at hl 1 rfl) ?_
  refine z_if_lt (tgt := 11) hx hb rfl dX11_breaks_1 (by decide) (fun h_1 => ?_) (fun h_1 => ?_)
  · skip
    exact x_throw (y := yX11_breaks) C hflags hw hE (kS := 26) (kT := 0) mw_119 mw_120 tIA_x rfl rfl (by decide) tIA_n tIA_g hl.1.symm dX11_breaks_11 dX11_breaks_14 dX11_breaks_15 dX11_breaks_17 dX11_breaks_20 htab (Nat.le_of_ble_eq_true rfl) (Nat.le_of_ble_eq_true rfl) (Nat.le_of_ble_eq_true rfl) (Nat.le_of_ble_eq_true rfl) hlocks (⟨rfl, (fun h => by unfold okM at h; omega), rfl⟩) (Nat.le_of_ble_eq_true rfl) (Nat.le_of_ble_eq_true rfl)
  · skip
    refine lv_iload_n hx hb dX11_breaks_4 rfl (lv_at hl 1 rfl) ?_
    refine lv_sipush (v := nI 320) hx hb dX11_breaks_5 (by decide) ?_
    refine z_icmp_lt (tgt := 21) hx hb rfl (nI_toInt (by first | decide | omega)) dX11_breaks_8 (by decide) (fun h_8 => ?_) (fun h_8 => ?_)
    · skip
      refine lv_aload_n hx hb dX11_breaks_21 rfl (lv_at hl 0 rfl) ?_
      refine lv_aload_n hx hb dX11_breaks_22 rfl (lv_at hl 0 rfl) ?_
      refine p_get C hw (ci := 11) (Cn := RX11) (T := TX11) (N := 8) hL_x hf_x rfl hin_RX11 6 (by decide) (mU mw_32) rfl rfl dX11_breaks_23 ?_
      refine p_callq (va_runV (As := [.ref su]) (rest := []) C.fix (e_X11_last0 l D cy S s.heap.size x su ch ln sl mk co ca su lt lk sul sun (va_up (va_up (va_up (va_up (va_up (fun _ => none) 0 (some sur0)) 1 (some sur1)) 2 (some sur2)) 3 (some sur3)) 4 (some sur4)) sur0 hL_x hf_x hL_ch hf_ch hL_su hf_su hL_sul hf_sul (by first | assumption | rfl | simp [va_up])) (cwV 1 C.2.2.2.2.1 (gU_V mw_256 mw_257 mw_258 mw_2 (subU mw_259)) rfl rfl rfl hde_X11_breaks_V_0 ⟨Nat.le_of_ble_eq_true rfl, Nat.le_of_ble_eq_true rfl⟩) (p_preV C hw hL_x hf_x rfl) rfl rfl hl.1 rfl (lv_room (Nat.le_of_ble_eq_true rfl)) dX11_breaks_26 ⟨Nat.le_of_ble_eq_true rfl, Nat.le_of_ble_eq_true rfl⟩) hw hA (fun r2 S1 H locs hpost hw => ?_)
      obtain ⟨hr_, hS_⟩ := hpost
      subst hr_
      subst hS_
      refine lv_astore_n (lv' := [(2, .ref sur0), (0, .ref x), (1, .int j)]) hx hb dX11_breaks_29 rfl hl (by decide) rfl (fun ls hl => ?_)
      refine lv_aload_n hx hb dX11_breaks_30 rfl (lv_at hl 0 rfl) ?_
      refine lv_aload_n hx hb dX11_breaks_31 rfl (lv_at hl 1 rfl) ?_
      refine lv_aload_n hx hb dX11_breaks_32 rfl (lv_at hl 1 rfl) ?_
      refine p_get C hw (ci := 11) (Cn := RX11) (T := TX11) (N := 8) hL_x hf_x rfl hin_RX11 4 (by decide) (mU mw_30) rfl rfl dX11_breaks_33 ?_
      refine p_callq (va_runV (As := [.ref co]) (rest := [.ref sur0]) C.fix (e_X11_last0 l D cy S H.size x co ch ln sl mk co ca su lt lk col con (va_up (va_up (va_up (va_up (va_up (fun _ => none) 0 (some cor0)) 1 (some cor1)) 2 (some cor2)) 3 (some cor3)) 4 (some cor4)) cor0 hL_x hf_x hL_ch hf_ch hL_co hf_co hL_col hf_col (by first | assumption | rfl | simp [va_up])) (cwV 1 C.2.2.2.2.1 (gU_V mw_256 mw_257 mw_258 mw_2 (subU mw_259)) rfl rfl rfl hde_X11_breaks_V_0 ⟨Nat.le_of_ble_eq_true rfl, Nat.le_of_ble_eq_true rfl⟩) (p_preV C hw hL_x hf_x rfl) rfl rfl hl.1 rfl (lv_room (Nat.le_of_ble_eq_true rfl)) dX11_breaks_36 ⟨Nat.le_of_ble_eq_true rfl, Nat.le_of_ble_eq_true rfl⟩) hw hA (fun r4 S3 H locs hpost hw => ?_)
      obtain ⟨hr_, hS_⟩ := hpost
      subst hr_
      subst hS_
      refine p_callv (va_runV (As := [.ref cor0]) (rest := []) C.fix (c_X7_copy l D cy S H.size sur0 sub0 32 0 cor0 cob0 32 0 (fun _ => 0) (fun _ => 0) hL_sur0 hf_sur0 hL_sub0 hf_sub0 hL_cor0 hf_cor0 hL_cob0 hf_cob0 (by first | assumption | decide | omega) (by first | assumption | decide | omega) (by first | assumption | decide | omega) (by first | assumption | decide | omega) hne_cob0_sub0 hne_cor0_sur0) (cwV 1 C.2.2.2.2.1 (gU_V mw_264 mw_265 mw_266 mw_25 sub_X7_copy) rfl rfl rfl hde_X11_breaks_V_1 ⟨Nat.le_of_ble_eq_true rfl, Nat.le_of_ble_eq_true rfl⟩) (p_preV C hw hL_sur0 hf_sur0 rfl) rfl rfl hl.1 rfl (lv_room (Nat.le_of_ble_eq_true rfl)) dX11_breaks_39 ⟨Nat.le_of_ble_eq_true rfl, Nat.le_of_ble_eq_true rfl⟩) hw hA (fun S5 H locs hpost hw => ?_)
      have hS_ := hpost
      try rw [show min 0 32 = 0 from rfl] at hS_
      rw [pup_self hf_sur0] at hS_
      try rw [show min 0 32 = 0 from rfl] at hS_
      have hS7 := hS_
      have hL8 : sub0 ∈ S5.1 := by rw [hS7]; exact hL_sub0
      have hf9 : S5.2 sub0 = aN (cy 0) 32 (rcop (fun _ => 0) (fun _ => 0) 0 0) := by rw [hS7]; exact pup_s
      refine lv_aload_n hx hb dX11_breaks_42 rfl (lv_at hl 0 rfl) ?_
      have hL10 : sur0 ∈ S5.1 := by rw [hS7]; exact hL_sur0
      have hf11 : S5.2 sur0 = .inr (8, [.ref sub0, .int (nI 0)]) := by rw [hS7]; exact (pup_n (ne_cells hf_sur0 hf_sub0 (by nofun))).trans hf_sur0
      refine p_calli (va_runV (As := []) (rest := []) C.fix (c_X7_size l D cy S5 H.size sur0 sub0 0 hL10 hf11) (cwV 0 C.2.2.2.2.1 (gU_V mw_130 mw_131 mw_132 mw_25 sub_X7_size) rfl rfl rfl hde_X11_breaks_V_2 ⟨Nat.le_of_ble_eq_true rfl, Nat.le_of_ble_eq_true rfl⟩) (p_preV C hw hL10 hf11 rfl) rfl rfl hl.1 rfl (lv_room (Nat.le_of_ble_eq_true rfl)) dX11_breaks_43 ⟨Nat.le_of_ble_eq_true rfl, Nat.le_of_ble_eq_true rfl⟩) hw hA (fun r13 S12 H locs hpost hw => ?_)
      obtain ⟨hr_, hS_⟩ := hpost
      subst hr_
      subst hS_
      refine lv_istore_n (lv' := [(3, .int (nI 0)), (2, .ref sur0), (0, .ref x), (1, .int j)]) hx hb dX11_breaks_46 rfl hl (by decide) rfl (fun ls hl => ?_)
      refine lv_iload_n hx hb dX11_breaks_47 rfl (lv_at hl 3 rfl) ?_
      refine lv_istore (lv' := [(4, .int j), (3, .int (nI 0)), (2, .ref sur0), (0, .ref x), (1, .int j)]) hx hb dX11_breaks_48 hl (by decide) rfl (fun ls hl => ?_)
      refine lv_iload hx hb dX11_breaks_50 (lv_at hl 0 rfl) ?_
      refine lv_iload_n hx hb dX11_breaks_52 rfl (lv_at hl 1 rfl) ?_
      refine z_icmp_ge (tgt := 101) hx hb rfl (nI_toInt (by first | decide | omega)) dX11_breaks_53 (by decide) (fun h_53 => ?_) (fun h_53 => ?_)
      · skip
        refine lv_iconst (v := nI 0) hx hb dX11_breaks_101 (by decide) ?_
        refine vx_ret ?_
        refine W.widen (k := 1) (n := 6) (Nat.le_of_ble_eq_true rfl) (Nat.le_of_ble_eq_true rfl) ?_
        exact (p_iret C hw (⟨(by unfold okM; omega), rfl, (by simp only [hS7, pup, pnew, List.append_nil, List.append_assoc, List.cons_append, List.nil_append]), (fun a_ ha_ hn_0 => (show S5.2 a_ = S.2 a_ from by rw [hS7]; exact pup_n hn_0))⟩) hr hlocks dX11_breaks_102)
      · exfalso; omega
    · skip
      exact x_throw (y := yX11_breaks) C hflags hw hE (kS := 26) (kT := 0) mw_119 mw_120 tIA_x rfl rfl (by decide) tIA_n tIA_g hl.1.symm dX11_breaks_11 dX11_breaks_14 dX11_breaks_15 dX11_breaks_17 dX11_breaks_20 htab (Nat.le_of_ble_eq_true rfl) (Nat.le_of_ble_eq_true rfl) (Nat.le_of_ble_eq_true rfl) (Nat.le_of_ble_eq_true rfl) hlocks (⟨rfl, (fun h => by unfold okM at h; omega), rfl⟩) (Nat.le_of_ble_eq_true rfl) (Nat.le_of_ble_eq_true rfl)

theorem hde_X11_withStages_V_0 : yX1_count.cls = RX1 ∧ yX1_count.cls ≠ "java/lang/invoke/MethodHandle" ∧ yX1_count.cls ≠ "java/lang/invoke/VarHandle" ∧ (parseMethodDescriptor yX1_count.desc).map (fun d => d.parameters.length) = some 0 := by decide +kernel
set_option maxHeartbeats 4000000 in
set_option maxRecDepth 100000 in
theorem e_X11_withStages (l : Launch) (D : va_G) (cy : Nat → ClassId) (S : pS) (sz : Nat) (x : Nat) (ch : Nat) (ln : Nat) (sl : Nat) (mk : Nat) (co : Nat) (ca : Nat) (su : Nat) (lt : Nat) (lk : Nat) (d : Int64) (hL_x : x ∈ S.1) (hf_x : S.2 x = .inr (11, [.ref ch, .ref ln, .ref sl, .ref mk, .ref co, .ref ca, .ref su, .ref lt])) (hL_ch : ch ∈ S.1) (hf_ch : S.2 ch = .inr (2, [.ref lk, .int (nI 0)]))  : Met l yX11_withStages (Cond.code yX11_withStages cX11_withStages 7 (some .long) :: lwU) ({ frames := 1, cells := 0, slots := 0, locals := 20 }) (pPc D cy S sz [.ref x, .long d]) (pQl D cy S sz (fun r S' => r = d ∧ S = S')) 0 0 (pA S sz) := by
  refine Met.ofW (cc := cX11_withStages) (maxL := 7) (ret := (some .long)) (by decide) rfl ?_
  intro p e s m args below meth c s₁ B hml hv
  obtain ⟨rfl, rfl, C, hw, hA, hr, hlocks⟩ := p_start B hml hv
  have hx := C.1
  have hb := C.2.1
  have hl := lv_entry ([.ref x, .long d]) (n := 7) (Nat.le_of_ble_eq_true rfl)
  rw [lg_entry_eq]
  generalize (lg_sl ([.ref x, .long d]) ++ List.replicate (7 - (lg_sl ([.ref x, .long d])).length) Slot.unset).toArray = ls at hl ⊢
  have hl : lv_has ls 7 [(0, .ref x), (1, .long d)] := hl
  have hin_RX11 : ∀ w ∈ u_ws RX11 TX11 8, w ∈ (Cond.code yX11_withStages cX11_withStages 7 (some .long) :: lwU) := fun w h => mU (sub_RX11 w h)
  refine lv_lload_n hx hb dX11_withStages_0 rfl (lv_at hl 1 rfl) ?_
  refine lv_lstore_n (lv' := [(3, .long d), (0, .ref x), (1, .long d)]) hx hb dX11_withStages_1 rfl hl (by decide) rfl (fun ls hl => ?_)
  refine lv_iconst (v := nI 0) hx hb dX11_withStages_2 (by decide) ?_
  refine lv_istore (lv' := [(5, .int (nI 0)), (3, .long d), (0, .ref x), (1, .long d)]) hx hb dX11_withStages_3 hl (by decide) rfl (fun ls hl => ?_)
  refine lv_iload hx hb dX11_withStages_5 (lv_at hl 0 rfl) ?_
  refine lv_aload_n hx hb dX11_withStages_7 rfl (lv_at hl 2 rfl) ?_
  refine p_get C hw (ci := 11) (Cn := RX11) (T := TX11) (N := 8) hL_x hf_x rfl hin_RX11 0 (by decide) (mU mw_17) rfl rfl dX11_withStages_8 ?_
  refine p_calli (va_runV (As := []) (rest := [.int (nI 0)]) C.fix (c_X1_count l D cy S s.heap.size ch lk 0 hL_ch hf_ch) (cwV 0 C.2.2.2.2.1 (gU_V mw_260 mw_261 mw_262 mw_16 sub_X1_count) rfl rfl rfl hde_X11_withStages_V_0 ⟨Nat.le_of_ble_eq_true rfl, Nat.le_of_ble_eq_true rfl⟩) (p_preV C hw hL_ch hf_ch rfl) rfl rfl hl.1 rfl (lv_room (Nat.le_of_ble_eq_true rfl)) dX11_withStages_11 ⟨Nat.le_of_ble_eq_true rfl, Nat.le_of_ble_eq_true rfl⟩) hw hA (fun r2 S1 H locs hpost hw => ?_)
  obtain ⟨hr_, hS_⟩ := hpost
  subst hr_
  subst hS_
  refine n_icmp_ge (tgt := 111) hx hb (by first | decide | omega) (by first | decide | omega) dX11_withStages_14 (by decide) (fun h_14 => ?_) (fun h_14 => ?_)
  · skip
    refine lv_lload_n hx hb dX11_withStages_111 rfl (lv_at hl 1 rfl) ?_
    exact (p_lret C hw (⟨rfl, rfl⟩) hr hlocks dX11_withStages_112)
  · exact absurd h_14 (by first | decide | omega)

theorem hde_X11_withPlaces_V_0 : yX7_size.cls = RX7 ∧ yX7_size.cls ≠ "java/lang/invoke/MethodHandle" ∧ yX7_size.cls ≠ "java/lang/invoke/VarHandle" ∧ (parseMethodDescriptor yX7_size.desc).map (fun d => d.parameters.length) = some 0 := by decide +kernel
set_option maxHeartbeats 4000000 in
set_option maxRecDepth 100000 in
theorem e_X11_withPlaces (l : Launch) (D : va_G) (cy : Nat → ClassId) (S : pS) (sz : Nat) (x : Nat) (h : Nat) (o : Nat) (b : Nat) (d : Int64) (hL_h : h ∈ S.1) (hf_h : S.2 h = .inr (8, [.ref b, .int (nI 0)]))  : Met l yX11_withPlaces (Cond.code yX11_withPlaces cX11_withPlaces 8 (some .long) :: lwU) ({ frames := 1, cells := 0, slots := 0, locals := 20 }) (pPc D cy S sz [.ref x, .long d, .ref h, .ref o]) (pQl D cy S sz (fun r S' => r = d ∧ S = S')) 0 0 (pA S sz) := by
  refine Met.ofW (cc := cX11_withPlaces) (maxL := 8) (ret := (some .long)) (by decide) rfl ?_
  intro p e s m args below meth c s₁ B hml hv
  obtain ⟨rfl, rfl, C, hw, hA, hr, hlocks⟩ := p_start B hml hv
  have hx := C.1
  have hb := C.2.1
  have hl := lv_entry ([.ref x, .long d, .ref h, .ref o]) (n := 8) (Nat.le_of_ble_eq_true rfl)
  rw [lg_entry_eq]
  generalize (lg_sl ([.ref x, .long d, .ref h, .ref o]) ++ List.replicate (8 - (lg_sl ([.ref x, .long d, .ref h, .ref o])).length) Slot.unset).toArray = ls at hl ⊢
  have hl : lv_has ls 8 [(0, .ref x), (1, .long d), (3, .ref h), (4, .ref o)] := hl
  refine lv_lload_n hx hb dX11_withPlaces_0 rfl (lv_at hl 1 rfl) ?_
  refine lv_lstore (lv' := [(5, .long d), (0, .ref x), (1, .long d), (3, .ref h), (4, .ref o)]) hx hb dX11_withPlaces_1 hl (by decide) rfl (fun ls hl => ?_)
  refine lv_iconst (v := nI 0) hx hb dX11_withPlaces_3 (by decide) ?_
  refine lv_istore (lv' := [(7, .int (nI 0)), (5, .long d), (0, .ref x), (1, .long d), (3, .ref h), (4, .ref o)]) hx hb dX11_withPlaces_4 hl (by decide) rfl (fun ls hl => ?_)
  refine lv_iload hx hb dX11_withPlaces_6 (lv_at hl 0 rfl) ?_
  refine lv_aload_n hx hb dX11_withPlaces_8 rfl (lv_at hl 4 rfl) ?_
  refine p_calli (va_runV (As := []) (rest := [.int (nI 0)]) C.fix (c_X7_size l D cy S s.heap.size h b 0 hL_h hf_h) (cwV 0 C.2.2.2.2.1 (gU_V mw_130 mw_131 mw_132 mw_25 sub_X7_size) rfl rfl rfl hde_X11_withPlaces_V_0 ⟨Nat.le_of_ble_eq_true rfl, Nat.le_of_ble_eq_true rfl⟩) (p_preV C hw hL_h hf_h rfl) rfl rfl hl.1 rfl (lv_room (Nat.le_of_ble_eq_true rfl)) dX11_withPlaces_9 ⟨Nat.le_of_ble_eq_true rfl, Nat.le_of_ble_eq_true rfl⟩) hw hA (fun r2 S1 H locs hpost hw => ?_)
  obtain ⟨hr_, hS_⟩ := hpost
  subst hr_
  subst hS_
  refine n_icmp_ge (tgt := 54) hx hb (by first | decide | omega) (by first | decide | omega) dX11_withPlaces_12 (by decide) (fun h_12 => ?_) (fun h_12 => ?_)
  · skip
    refine lv_lload hx hb dX11_withPlaces_54 (lv_at hl 1 rfl) ?_
    exact (p_lret C hw (⟨rfl, rfl⟩) hr hlocks dX11_withPlaces_56)
  · exact absurd h_12 (by first | decide | omega)

theorem hde_X11_digest_V_0 : yX11_length.cls = RX11 ∧ yX11_length.cls ≠ "java/lang/invoke/MethodHandle" ∧ yX11_length.cls ≠ "java/lang/invoke/VarHandle" ∧ (parseMethodDescriptor yX11_length.desc).map (fun d => d.parameters.length) = some 0 := by decide +kernel
theorem hde_X11_digest_V_1 : yX11_stages.cls = RX11 ∧ yX11_stages.cls ≠ "java/lang/invoke/MethodHandle" ∧ yX11_stages.cls ≠ "java/lang/invoke/VarHandle" ∧ (parseMethodDescriptor yX11_stages.desc).map (fun d => d.parameters.length) = some 0 := by decide +kernel
theorem hde_X11_digest_V_2 : yX11_sent.cls = RX11 ∧ yX11_sent.cls ≠ "java/lang/invoke/MethodHandle" ∧ yX11_sent.cls ≠ "java/lang/invoke/VarHandle" ∧ (parseMethodDescriptor yX11_sent.desc).map (fun d => d.parameters.length) = some 0 := by decide +kernel
theorem hde_X11_digest_V_3 : yX11_hurt.cls = RX11 ∧ yX11_hurt.cls ≠ "java/lang/invoke/MethodHandle" ∧ yX11_hurt.cls ≠ "java/lang/invoke/VarHandle" ∧ (parseMethodDescriptor yX11_hurt.desc).map (fun d => d.parameters.length) = some 0 := by decide +kernel
theorem hde_X11_digest_V_4 : yX11_errors.cls = RX11 ∧ yX11_errors.cls ≠ "java/lang/invoke/MethodHandle" ∧ yX11_errors.cls ≠ "java/lang/invoke/VarHandle" ∧ (parseMethodDescriptor yX11_errors.desc).map (fun d => d.parameters.length) = some 0 := by decide +kernel
theorem hde_X11_digest_V_5 : yX11_withStages.cls = RX11 ∧ yX11_withStages.cls ≠ "java/lang/invoke/MethodHandle" ∧ yX11_withStages.cls ≠ "java/lang/invoke/VarHandle" ∧ (parseMethodDescriptor yX11_withStages.desc).map (fun d => d.parameters.length) = some 1 := by decide +kernel
theorem hde_X11_digest_V_6 : yX4_at.cls = RX4 ∧ yX4_at.cls ≠ "java/lang/invoke/MethodHandle" ∧ yX4_at.cls ≠ "java/lang/invoke/VarHandle" ∧ (parseMethodDescriptor yX4_at.desc).map (fun d => d.parameters.length) = some 1 := by decide +kernel
theorem hde_X11_digest_V_7 : yX11_withPlaces.cls = RX11 ∧ yX11_withPlaces.cls ≠ "java/lang/invoke/MethodHandle" ∧ yX11_withPlaces.cls ≠ "java/lang/invoke/VarHandle" ∧ (parseMethodDescriptor yX11_withPlaces.desc).map (fun d => d.parameters.length) = some 3 := by decide +kernel
theorem hde_X11_digest_V_8 : yX11_last.cls = RX11 ∧ yX11_last.cls ≠ "java/lang/invoke/MethodHandle" ∧ yX11_last.cls ≠ "java/lang/invoke/VarHandle" ∧ (parseMethodDescriptor yX11_last.desc).map (fun d => d.parameters.length) = some 1 := by decide +kernel
theorem hde_X11_digest_V_9 : yX11_breaks.cls = RX11 ∧ yX11_breaks.cls ≠ "java/lang/invoke/MethodHandle" ∧ yX11_breaks.cls ≠ "java/lang/invoke/VarHandle" ∧ (parseMethodDescriptor yX11_breaks.desc).map (fun d => d.parameters.length) = some 1 := by decide +kernel
theorem hde_X11_digest_V_10 : yX11_weak.cls = RX11 ∧ yX11_weak.cls ≠ "java/lang/invoke/MethodHandle" ∧ yX11_weak.cls ≠ "java/lang/invoke/VarHandle" ∧ (parseMethodDescriptor yX11_weak.desc).map (fun d => d.parameters.length) = some 0 := by decide +kernel
set_option maxHeartbeats 4000000 in
set_option maxRecDepth 100000 in
/-- digest -/
theorem e_X11_digest (l : Launch) (D : va_G) (cy : Nat → ClassId) (S : pS) (sz : Nat) (x : Nat) (ch : Nat) (ln : Nat) (sl : Nat) (mk : Nat) (co : Nat) (ca : Nat) (su : Nat) (lt : Nat) (lk : Nat) (col : Nat) (con : Nat) (cor0 : Nat) (cor1 : Nat) (cor2 : Nat) (cor3 : Nat) (cor4 : Nat) (cob0 : Nat) (cal : Nat) (can : Nat) (car0 : Nat) (car1 : Nat) (car2 : Nat) (car3 : Nat) (car4 : Nat) (sul : Nat) (sun : Nat) (sur0 : Nat) (sur1 : Nat) (sur2 : Nat) (sur3 : Nat) (sur4 : Nat) (sub0 : Nat) (hL_x : x ∈ S.1) (hf_x : S.2 x = .inr (11, [.ref ch, .ref ln, .ref sl, .ref mk, .ref co, .ref ca, .ref su, .ref lt])) (hL_ch : ch ∈ S.1) (hf_ch : S.2 ch = .inr (2, [.ref lk, .int (nI 0)])) (hL_co : co ∈ S.1) (hf_co : S.2 co = .inr (5, [.ref col, .ref con])) (hL_col : col ∈ S.1) (hf_col : S.2 col = aQ (cy 2) 5 (va_up (va_up (va_up (va_up (va_up (fun _ => none) 0 (some cor0)) 1 (some cor1)) 2 (some cor2)) 3 (some cor3)) 4 (some cor4))) (hL_cor0 : cor0 ∈ S.1) (hf_cor0 : S.2 cor0 = .inr (8, [.ref cob0, .int (nI 0)])) (hL_cob0 : cob0 ∈ S.1) (hf_cob0 : S.2 cob0 = aN (cy 0) 32 (fun _ => 0)) (hL_ca : ca ∈ S.1) (hf_ca : S.2 ca = .inr (5, [.ref cal, .ref can])) (hL_cal : cal ∈ S.1) (hf_cal : S.2 cal = aQ (cy 2) 5 (va_up (va_up (va_up (va_up (va_up (fun _ => none) 0 (some car0)) 1 (some car1)) 2 (some car2)) 3 (some car3)) 4 (some car4))) (hL_su : su ∈ S.1) (hf_su : S.2 su = .inr (5, [.ref sul, .ref sun])) (hL_sul : sul ∈ S.1) (hf_sul : S.2 sul = aQ (cy 2) 5 (va_up (va_up (va_up (va_up (va_up (fun _ => none) 0 (some sur0)) 1 (some sur1)) 2 (some sur2)) 3 (some sur3)) 4 (some sur4))) (hL_sur0 : sur0 ∈ S.1) (hf_sur0 : S.2 sur0 = .inr (8, [.ref sub0, .int (nI 0)])) (hL_sub0 : sub0 ∈ S.1) (hf_sub0 : S.2 sub0 = aN (cy 0) 32 (fun _ => 0)) (hne_cob0_sub0 : cob0 ≠ sub0) (hne_cor0_sur0 : cor0 ≠ sur0) : Met l yX11_digest (Cond.code yX11_digest cX11_digest 3 (some .long) :: lwU) ({ frames := 4, cells := 0, slots := 0, locals := 88 }) (pPc D cy S sz [.ref x]) (pQl D cy S sz (fun r S' => r = (49532499890423516) ∧ S'.1 = S.1 ++ [] ∧ (∀ a_, a_ ∈ S.1 → a_ ≠ sub0 → S'.2 a_ = S.2 a_))) 0 0 (pA S sz) := by
  refine Met.ofW (cc := cX11_digest) (maxL := 3) (ret := (some .long)) (by decide) rfl ?_
  intro p e s m args below meth c s₁ B hml hv
  obtain ⟨rfl, rfl, C, hw, hA, hr, hlocks⟩ := p_start B hml hv
  have hx := C.1
  have hb := C.2.1
  have hl := lv_entry ([.ref x]) (n := 3) (Nat.le_of_ble_eq_true rfl)
  rw [lg_entry_eq]
  generalize (lg_sl ([.ref x]) ++ List.replicate (3 - (lg_sl ([.ref x])).length) Slot.unset).toArray = ls at hl ⊢
  have hl : lv_has ls 3 [(0, .ref x)] := hl
  have hin_RX11 : ∀ w ∈ u_ws RX11 TX11 8, w ∈ (Cond.code yX11_digest cX11_digest 3 (some .long) :: lwU) := fun w h => mU (sub_RX11 w h)
  refine lv_ldc2 (v := 58076) hx hb C.2.2.2.1 (C.2.2.2.2.1 (.constantLong RX11 245 (58076)) (mU mw_1089)) dX11_digest_0 ?_
  refine lv_lstore_n (lv' := [(1, .long 58076), (0, .ref x)]) hx hb dX11_digest_3 rfl hl (by decide) rfl (fun ls hl => ?_)
  refine lv_lload_n hx hb dX11_digest_4 rfl (lv_at hl 0 rfl) ?_
  refine lv_ldc2 (v := 31) hx hb C.2.2.2.1 (C.2.2.2.2.1 (.constantLong RX11 247 (31)) (mU mw_1090)) dX11_digest_5 ?_
  refine lv_lmul hx hb dX11_digest_8 ?_
  refine lv_aload_n hx hb dX11_digest_9 rfl (lv_at hl 1 rfl) ?_
  refine p_calli (va_runV (As := []) (rest := [.long (58076 * 31)]) C.fix (e_X11_length l D cy S s.heap.size x ch ln sl mk co ca su lt col con cor0 cor1 cor2 cor3 cor4 cob0 hL_x hf_x hL_co hf_co hL_col hf_col hL_cor0 hf_cor0 ) (cwV 0 C.2.2.2.2.1 (gU_V mw_1091 mw_745 mw_746 mw_2 (subU mw_747)) rfl rfl rfl hde_X11_digest_V_0 ⟨Nat.le_of_ble_eq_true rfl, Nat.le_of_ble_eq_true rfl⟩) (p_preV C hw hL_x hf_x rfl) rfl rfl hl.1 rfl (lv_room (Nat.le_of_ble_eq_true rfl)) dX11_digest_10 ⟨Nat.le_of_ble_eq_true rfl, Nat.le_of_ble_eq_true rfl⟩) hw hA (fun r2 S1 H locs hpost hw => ?_)
  obtain ⟨hr_, hS_⟩ := hpost
  subst hr_
  subst hS_
  refine lv_i2l hx hb dX11_digest_13 rfl ?_
  refine lv_ladd hx hb dX11_digest_14 ?_
  refine lv_lstore_n (lv' := [(1, .long ((58076 * 31) + (((nI 0)).toInt64))), (0, .ref x)]) hx hb dX11_digest_15 rfl hl (by decide) rfl (fun ls hl => ?_)
  refine lv_lload_n hx hb dX11_digest_16 rfl (lv_at hl 0 rfl) ?_
  refine lv_ldc2 (v := 31) hx hb C.2.2.2.1 (C.2.2.2.2.1 (.constantLong RX11 247 (31)) (mU mw_1090)) dX11_digest_17 ?_
  refine lv_lmul hx hb dX11_digest_20 ?_
  refine lv_aload_n hx hb dX11_digest_21 rfl (lv_at hl 1 rfl) ?_
  refine p_calli (va_runV (As := []) (rest := [.long (((58076 * 31) + (((nI 0)).toInt64)) * 31)]) C.fix (e_X11_stages l D cy S H.size x ch ln sl mk co ca su lt lk hL_x hf_x hL_ch hf_ch ) (cwV 0 C.2.2.2.2.1 (gU_V mw_1092 mw_753 mw_754 mw_2 (subU mw_755)) rfl rfl rfl hde_X11_digest_V_1 ⟨Nat.le_of_ble_eq_true rfl, Nat.le_of_ble_eq_true rfl⟩) (p_preV C hw hL_x hf_x rfl) rfl rfl hl.1 rfl (lv_room (Nat.le_of_ble_eq_true rfl)) dX11_digest_22 ⟨Nat.le_of_ble_eq_true rfl, Nat.le_of_ble_eq_true rfl⟩) hw hA (fun r4 S3 H locs hpost hw => ?_)
  obtain ⟨hr_, hS_⟩ := hpost
  subst hr_
  subst hS_
  refine lv_i2l hx hb dX11_digest_25 rfl ?_
  refine lv_ladd hx hb dX11_digest_26 ?_
  refine lv_lstore_n (lv' := [(1, .long ((((58076 * 31) + (((nI 0)).toInt64)) * 31) + (((nI 0)).toInt64))), (0, .ref x)]) hx hb dX11_digest_27 rfl hl (by decide) rfl (fun ls hl => ?_)
  refine lv_lload_n hx hb dX11_digest_28 rfl (lv_at hl 0 rfl) ?_
  refine lv_ldc2 (v := 31) hx hb C.2.2.2.1 (C.2.2.2.2.1 (.constantLong RX11 247 (31)) (mU mw_1090)) dX11_digest_29 ?_
  refine lv_lmul hx hb dX11_digest_32 ?_
  refine lv_aload_n hx hb dX11_digest_33 rfl (lv_at hl 1 rfl) ?_
  refine p_calli (va_runV (As := []) (rest := [.long (((((58076 * 31) + (((nI 0)).toInt64)) * 31) + (((nI 0)).toInt64)) * 31)]) C.fix (e_X11_sent l D cy S H.size x ch ln sl mk co ca su lt lk col con cor0 cor1 cor2 cor3 cor4 cob0 hL_x hf_x hL_ch hf_ch hL_co hf_co hL_col hf_col hL_cor0 hf_cor0 ) (cwV 0 C.2.2.2.2.1 (gU_V mw_1093 mw_881 mw_882 mw_2 (subU mw_883)) rfl rfl rfl hde_X11_digest_V_2 ⟨Nat.le_of_ble_eq_true rfl, Nat.le_of_ble_eq_true rfl⟩) (p_preV C hw hL_x hf_x rfl) rfl rfl hl.1 rfl (lv_room (Nat.le_of_ble_eq_true rfl)) dX11_digest_34 ⟨Nat.le_of_ble_eq_true rfl, Nat.le_of_ble_eq_true rfl⟩) hw hA (fun r6 S5 H locs hpost hw => ?_)
  obtain ⟨hr_, hS_⟩ := hpost
  subst hr_
  subst hS_
  refine lv_i2l hx hb dX11_digest_37 rfl ?_
  refine lv_ladd hx hb dX11_digest_38 ?_
  refine lv_lstore_n (lv' := [(1, .long ((((((58076 * 31) + (((nI 0)).toInt64)) * 31) + (((nI 0)).toInt64)) * 31) + (((nI 0)).toInt64))), (0, .ref x)]) hx hb dX11_digest_39 rfl hl (by decide) rfl (fun ls hl => ?_)
  refine lv_lload_n hx hb dX11_digest_40 rfl (lv_at hl 0 rfl) ?_
  refine lv_ldc2 (v := 31) hx hb C.2.2.2.1 (C.2.2.2.2.1 (.constantLong RX11 247 (31)) (mU mw_1090)) dX11_digest_41 ?_
  refine lv_lmul hx hb dX11_digest_44 ?_
  refine lv_aload_n hx hb dX11_digest_45 rfl (lv_at hl 1 rfl) ?_
  refine p_calli (va_runV (As := []) (rest := [.long (((((((58076 * 31) + (((nI 0)).toInt64)) * 31) + (((nI 0)).toInt64)) * 31) + (((nI 0)).toInt64)) * 31)]) C.fix (e_X11_hurt l D cy S H.size x ch ln sl mk co ca su lt lk col con cor0 cor1 cor2 cor3 cor4 cob0 cal can car0 car1 car2 car3 car4 hL_x hf_x hL_ch hf_ch hL_co hf_co hL_col hf_col hL_cor0 hf_cor0 hL_ca hf_ca hL_cal hf_cal ) (cwV 0 C.2.2.2.2.1 (gU_V mw_1094 mw_916 mw_917 mw_2 (subU mw_918)) rfl rfl rfl hde_X11_digest_V_3 ⟨Nat.le_of_ble_eq_true rfl, Nat.le_of_ble_eq_true rfl⟩) (p_preV C hw hL_x hf_x rfl) rfl rfl hl.1 rfl (lv_room (Nat.le_of_ble_eq_true rfl)) dX11_digest_46 ⟨Nat.le_of_ble_eq_true rfl, Nat.le_of_ble_eq_true rfl⟩) hw hA (fun r8 S7 H locs hpost hw => ?_)
  obtain ⟨hr_, hS_⟩ := hpost
  subst hr_
  subst hS_
  refine lv_i2l hx hb dX11_digest_49 rfl ?_
  refine lv_ladd hx hb dX11_digest_50 ?_
  refine lv_lstore_n (lv' := [(1, .long ((((((((58076 * 31) + (((nI 0)).toInt64)) * 31) + (((nI 0)).toInt64)) * 31) + (((nI 0)).toInt64)) * 31) + (((nI 0)).toInt64))), (0, .ref x)]) hx hb dX11_digest_51 rfl hl (by decide) rfl (fun ls hl => ?_)
  refine lv_lload_n hx hb dX11_digest_52 rfl (lv_at hl 0 rfl) ?_
  refine lv_ldc2 (v := 31) hx hb C.2.2.2.1 (C.2.2.2.2.1 (.constantLong RX11 247 (31)) (mU mw_1090)) dX11_digest_53 ?_
  refine lv_lmul hx hb dX11_digest_56 ?_
  refine lv_aload_n hx hb dX11_digest_57 rfl (lv_at hl 1 rfl) ?_
  refine p_calli (va_runV (As := []) (rest := [.long (((((((((58076 * 31) + (((nI 0)).toInt64)) * 31) + (((nI 0)).toInt64)) * 31) + (((nI 0)).toInt64)) * 31) + (((nI 0)).toInt64)) * 31)]) C.fix (e_X11_errors l D cy S H.size x ch ln sl mk co ca su lt col con cor0 cor1 cor2 cor3 cor4 cob0 cal can car0 car1 car2 car3 car4 hL_x hf_x hL_co hf_co hL_col hf_col hL_cor0 hf_cor0 hL_ca hf_ca hL_cal hf_cal ) (cwV 0 C.2.2.2.2.1 (gU_V mw_1095 mw_928 mw_929 mw_2 (subU mw_930)) rfl rfl rfl hde_X11_digest_V_4 ⟨Nat.le_of_ble_eq_true rfl, Nat.le_of_ble_eq_true rfl⟩) (p_preV C hw hL_x hf_x rfl) rfl rfl hl.1 rfl (lv_room (Nat.le_of_ble_eq_true rfl)) dX11_digest_58 ⟨Nat.le_of_ble_eq_true rfl, Nat.le_of_ble_eq_true rfl⟩) hw hA (fun r10 S9 H locs hpost hw => ?_)
  obtain ⟨hr_, hS_⟩ := hpost
  subst hr_
  subst hS_
  refine lv_i2l hx hb dX11_digest_61 rfl ?_
  refine lv_ladd hx hb dX11_digest_62 ?_
  refine lv_lstore_n (lv' := [(1, .long ((((((((((58076 * 31) + (((nI 0)).toInt64)) * 31) + (((nI 0)).toInt64)) * 31) + (((nI 0)).toInt64)) * 31) + (((nI 0)).toInt64)) * 31) + (((nI 0)).toInt64))), (0, .ref x)]) hx hb dX11_digest_63 rfl hl (by decide) rfl (fun ls hl => ?_)
  refine lv_aload_n hx hb dX11_digest_64 rfl (lv_at hl 1 rfl) ?_
  refine lv_lload_n hx hb dX11_digest_65 rfl (lv_at hl 0 rfl) ?_
  refine p_calll (va_runV (As := [.long ((((((((((58076 * 31) + (((nI 0)).toInt64)) * 31) + (((nI 0)).toInt64)) * 31) + (((nI 0)).toInt64)) * 31) + (((nI 0)).toInt64)) * 31) + (((nI 0)).toInt64))]) (rest := []) C.fix (e_X11_withStages l D cy S H.size x ch ln sl mk co ca su lt lk ((((((((((58076 * 31) + (((nI 0)).toInt64)) * 31) + (((nI 0)).toInt64)) * 31) + (((nI 0)).toInt64)) * 31) + (((nI 0)).toInt64)) * 31) + (((nI 0)).toInt64)) hL_x hf_x hL_ch hf_ch ) (cwV 1 C.2.2.2.2.1 (gU_V mw_1096 mw_1097 mw_1098 mw_2 (subU mw_1099)) rfl rfl rfl hde_X11_digest_V_5 ⟨Nat.le_of_ble_eq_true rfl, Nat.le_of_ble_eq_true rfl⟩) (p_preV C hw hL_x hf_x rfl) rfl rfl hl.1 rfl (lv_room (Nat.le_of_ble_eq_true rfl)) dX11_digest_66 ⟨Nat.le_of_ble_eq_true rfl, Nat.le_of_ble_eq_true rfl⟩) hw hA (fun r12 S11 H locs hpost hw => ?_)
  obtain ⟨hr_, hS_⟩ := hpost
  subst hr_
  subst hS_
  refine lv_lstore_n (lv' := [(1, .long ((((((((((58076 * 31) + (((nI 0)).toInt64)) * 31) + (((nI 0)).toInt64)) * 31) + (((nI 0)).toInt64)) * 31) + (((nI 0)).toInt64)) * 31) + (((nI 0)).toInt64))), (0, .ref x)]) hx hb dX11_digest_69 rfl hl (by decide) rfl (fun ls hl => ?_)
  refine lv_aload_n hx hb dX11_digest_70 rfl (lv_at hl 1 rfl) ?_
  refine lv_lload_n hx hb dX11_digest_71 rfl (lv_at hl 0 rfl) ?_
  refine lv_aload_n hx hb dX11_digest_72 rfl (lv_at hl 1 rfl) ?_
  refine p_get C hw (ci := 11) (Cn := RX11) (T := TX11) (N := 8) hL_x hf_x rfl hin_RX11 4 (by decide) (mU mw_30) rfl rfl dX11_digest_73 ?_
  refine lv_iconst (v := nI 0) hx hb dX11_digest_76 (by decide) ?_
  refine p_callq (va_runV (As := [.int (nI 0)]) (rest := [.long ((((((((((58076 * 31) + (((nI 0)).toInt64)) * 31) + (((nI 0)).toInt64)) * 31) + (((nI 0)).toInt64)) * 31) + (((nI 0)).toInt64)) * 31) + (((nI 0)).toInt64)), .ref x]) C.fix (c_X4_at l D cy S H.size co col con 0 cor0 (va_up (va_up (va_up (va_up (va_up (fun _ => none) 0 (some cor0)) 1 (some cor1)) 2 (some cor2)) 3 (some cor3)) 4 (some cor4)) hL_co hf_co hL_col hf_col (by first | assumption | decide | omega) (by first | assumption | rfl | simp [va_up])) (cwV 1 C.2.2.2.2.1 (gU_V mw_126 mw_127 mw_128 mw_29 sub_X4_at) rfl rfl rfl hde_X11_digest_V_6 ⟨Nat.le_of_ble_eq_true rfl, Nat.le_of_ble_eq_true rfl⟩) (p_preV C hw hL_co hf_co rfl) rfl rfl hl.1 rfl (lv_room (Nat.le_of_ble_eq_true rfl)) dX11_digest_77 ⟨Nat.le_of_ble_eq_true rfl, Nat.le_of_ble_eq_true rfl⟩) hw hA (fun r14 S13 H locs hpost hw => ?_)
  obtain ⟨hr_, hS_⟩ := hpost
  subst hr_
  subst hS_
  refine lv_aload_n hx hb dX11_digest_80 rfl (lv_at hl 1 rfl) ?_
  refine p_get C hw (ci := 11) (Cn := RX11) (T := TX11) (N := 8) hL_x hf_x rfl hin_RX11 5 (by decide) (mU mw_31) rfl rfl dX11_digest_81 ?_
  refine lv_iconst (v := nI 0) hx hb dX11_digest_84 (by decide) ?_
  refine p_callq (va_runV (As := [.int (nI 0)]) (rest := [.ref cor0, .long ((((((((((58076 * 31) + (((nI 0)).toInt64)) * 31) + (((nI 0)).toInt64)) * 31) + (((nI 0)).toInt64)) * 31) + (((nI 0)).toInt64)) * 31) + (((nI 0)).toInt64)), .ref x]) C.fix (c_X4_at l D cy S H.size ca cal can 0 car0 (va_up (va_up (va_up (va_up (va_up (fun _ => none) 0 (some car0)) 1 (some car1)) 2 (some car2)) 3 (some car3)) 4 (some car4)) hL_ca hf_ca hL_cal hf_cal (by first | assumption | decide | omega) (by first | assumption | rfl | simp [va_up])) (cwV 1 C.2.2.2.2.1 (gU_V mw_126 mw_127 mw_128 mw_29 sub_X4_at) rfl rfl rfl hde_X11_digest_V_6 ⟨Nat.le_of_ble_eq_true rfl, Nat.le_of_ble_eq_true rfl⟩) (p_preV C hw hL_ca hf_ca rfl) rfl rfl hl.1 rfl (lv_room (Nat.le_of_ble_eq_true rfl)) dX11_digest_85 ⟨Nat.le_of_ble_eq_true rfl, Nat.le_of_ble_eq_true rfl⟩) hw hA (fun r16 S15 H locs hpost hw => ?_)
  obtain ⟨hr_, hS_⟩ := hpost
  subst hr_
  subst hS_
  refine p_calll (va_runV (As := [.long ((((((((((58076 * 31) + (((nI 0)).toInt64)) * 31) + (((nI 0)).toInt64)) * 31) + (((nI 0)).toInt64)) * 31) + (((nI 0)).toInt64)) * 31) + (((nI 0)).toInt64)), .ref cor0, .ref car0]) (rest := []) C.fix (e_X11_withPlaces l D cy S H.size x cor0 car0 cob0 ((((((((((58076 * 31) + (((nI 0)).toInt64)) * 31) + (((nI 0)).toInt64)) * 31) + (((nI 0)).toInt64)) * 31) + (((nI 0)).toInt64)) * 31) + (((nI 0)).toInt64)) hL_cor0 hf_cor0 ) (cwV 3 C.2.2.2.2.1 (gU_V mw_1103 mw_1104 mw_1105 mw_2 (subU mw_1106)) rfl rfl rfl hde_X11_digest_V_7 ⟨Nat.le_of_ble_eq_true rfl, Nat.le_of_ble_eq_true rfl⟩) (p_preV C hw hL_x hf_x rfl) rfl rfl hl.1 rfl (lv_room (Nat.le_of_ble_eq_true rfl)) dX11_digest_88 ⟨Nat.le_of_ble_eq_true rfl, Nat.le_of_ble_eq_true rfl⟩) hw hA (fun r18 S17 H locs hpost hw => ?_)
  obtain ⟨hr_, hS_⟩ := hpost
  subst hr_
  subst hS_
  refine lv_lstore_n (lv' := [(1, .long ((((((((((58076 * 31) + (((nI 0)).toInt64)) * 31) + (((nI 0)).toInt64)) * 31) + (((nI 0)).toInt64)) * 31) + (((nI 0)).toInt64)) * 31) + (((nI 0)).toInt64))), (0, .ref x)]) hx hb dX11_digest_91 rfl hl (by decide) rfl (fun ls hl => ?_)
  refine lv_aload_n hx hb dX11_digest_92 rfl (lv_at hl 1 rfl) ?_
  refine lv_lload_n hx hb dX11_digest_93 rfl (lv_at hl 0 rfl) ?_
  refine lv_aload_n hx hb dX11_digest_94 rfl (lv_at hl 1 rfl) ?_
  refine lv_aload_n hx hb dX11_digest_95 rfl (lv_at hl 1 rfl) ?_
  refine p_get C hw (ci := 11) (Cn := RX11) (T := TX11) (N := 8) hL_x hf_x rfl hin_RX11 4 (by decide) (mU mw_30) rfl rfl dX11_digest_96 ?_
  refine p_callq (va_runV (As := [.ref co]) (rest := [.long ((((((((((58076 * 31) + (((nI 0)).toInt64)) * 31) + (((nI 0)).toInt64)) * 31) + (((nI 0)).toInt64)) * 31) + (((nI 0)).toInt64)) * 31) + (((nI 0)).toInt64)), .ref x]) C.fix (e_X11_last0 l D cy S H.size x co ch ln sl mk co ca su lt lk col con (va_up (va_up (va_up (va_up (va_up (fun _ => none) 0 (some cor0)) 1 (some cor1)) 2 (some cor2)) 3 (some cor3)) 4 (some cor4)) cor0 hL_x hf_x hL_ch hf_ch hL_co hf_co hL_col hf_col (by first | assumption | rfl | simp [va_up])) (cwV 1 C.2.2.2.2.1 (gU_V mw_256 mw_257 mw_258 mw_2 (subU mw_259)) rfl rfl rfl hde_X11_digest_V_8 ⟨Nat.le_of_ble_eq_true rfl, Nat.le_of_ble_eq_true rfl⟩) (p_preV C hw hL_x hf_x rfl) rfl rfl hl.1 rfl (lv_room (Nat.le_of_ble_eq_true rfl)) dX11_digest_99 ⟨Nat.le_of_ble_eq_true rfl, Nat.le_of_ble_eq_true rfl⟩) hw hA (fun r20 S19 H locs hpost hw => ?_)
  obtain ⟨hr_, hS_⟩ := hpost
  subst hr_
  subst hS_
  refine lv_aload_n hx hb dX11_digest_102 rfl (lv_at hl 1 rfl) ?_
  refine lv_aload_n hx hb dX11_digest_103 rfl (lv_at hl 1 rfl) ?_
  refine p_get C hw (ci := 11) (Cn := RX11) (T := TX11) (N := 8) hL_x hf_x rfl hin_RX11 5 (by decide) (mU mw_31) rfl rfl dX11_digest_104 ?_
  refine p_callq (va_runV (As := [.ref ca]) (rest := [.ref cor0, .long ((((((((((58076 * 31) + (((nI 0)).toInt64)) * 31) + (((nI 0)).toInt64)) * 31) + (((nI 0)).toInt64)) * 31) + (((nI 0)).toInt64)) * 31) + (((nI 0)).toInt64)), .ref x]) C.fix (e_X11_last0 l D cy S H.size x ca ch ln sl mk co ca su lt lk cal can (va_up (va_up (va_up (va_up (va_up (fun _ => none) 0 (some car0)) 1 (some car1)) 2 (some car2)) 3 (some car3)) 4 (some car4)) car0 hL_x hf_x hL_ch hf_ch hL_ca hf_ca hL_cal hf_cal (by first | assumption | rfl | simp [va_up])) (cwV 1 C.2.2.2.2.1 (gU_V mw_256 mw_257 mw_258 mw_2 (subU mw_259)) rfl rfl rfl hde_X11_digest_V_8 ⟨Nat.le_of_ble_eq_true rfl, Nat.le_of_ble_eq_true rfl⟩) (p_preV C hw hL_x hf_x rfl) rfl rfl hl.1 rfl (lv_room (Nat.le_of_ble_eq_true rfl)) dX11_digest_107 ⟨Nat.le_of_ble_eq_true rfl, Nat.le_of_ble_eq_true rfl⟩) hw hA (fun r22 S21 H locs hpost hw => ?_)
  obtain ⟨hr_, hS_⟩ := hpost
  subst hr_
  subst hS_
  refine p_calll (va_runV (As := [.long ((((((((((58076 * 31) + (((nI 0)).toInt64)) * 31) + (((nI 0)).toInt64)) * 31) + (((nI 0)).toInt64)) * 31) + (((nI 0)).toInt64)) * 31) + (((nI 0)).toInt64)), .ref cor0, .ref car0]) (rest := []) C.fix (e_X11_withPlaces l D cy S H.size x cor0 car0 cob0 ((((((((((58076 * 31) + (((nI 0)).toInt64)) * 31) + (((nI 0)).toInt64)) * 31) + (((nI 0)).toInt64)) * 31) + (((nI 0)).toInt64)) * 31) + (((nI 0)).toInt64)) hL_cor0 hf_cor0 ) (cwV 3 C.2.2.2.2.1 (gU_V mw_1103 mw_1104 mw_1105 mw_2 (subU mw_1106)) rfl rfl rfl hde_X11_digest_V_7 ⟨Nat.le_of_ble_eq_true rfl, Nat.le_of_ble_eq_true rfl⟩) (p_preV C hw hL_x hf_x rfl) rfl rfl hl.1 rfl (lv_room (Nat.le_of_ble_eq_true rfl)) dX11_digest_110 ⟨Nat.le_of_ble_eq_true rfl, Nat.le_of_ble_eq_true rfl⟩) hw hA (fun r24 S23 H locs hpost hw => ?_)
  obtain ⟨hr_, hS_⟩ := hpost
  subst hr_
  subst hS_
  refine lv_lstore_n (lv' := [(1, .long ((((((((((58076 * 31) + (((nI 0)).toInt64)) * 31) + (((nI 0)).toInt64)) * 31) + (((nI 0)).toInt64)) * 31) + (((nI 0)).toInt64)) * 31) + (((nI 0)).toInt64))), (0, .ref x)]) hx hb dX11_digest_113 rfl hl (by decide) rfl (fun ls hl => ?_)
  refine lv_lload_n hx hb dX11_digest_114 rfl (lv_at hl 0 rfl) ?_
  refine lv_ldc2 (v := 31) hx hb C.2.2.2.1 (C.2.2.2.2.1 (.constantLong RX11 247 (31)) (mU mw_1090)) dX11_digest_115 ?_
  refine lv_lmul hx hb dX11_digest_118 ?_
  refine lv_aload_n hx hb dX11_digest_119 rfl (lv_at hl 1 rfl) ?_
  refine lv_iconst (v := nI 0) hx hb dX11_digest_120 (by decide) ?_
  refine p_calli (va_runV (As := [.int (nI 0)]) (rest := [.long (((((((((((58076 * 31) + (((nI 0)).toInt64)) * 31) + (((nI 0)).toInt64)) * 31) + (((nI 0)).toInt64)) * 31) + (((nI 0)).toInt64)) * 31) + (((nI 0)).toInt64)) * 31)]) C.fix (e_X11_breaks_0 l D cy S H.size x ch ln sl mk co ca su lt lk col con cor0 cor1 cor2 cor3 cor4 cob0 sul sun sur0 sur1 sur2 sur3 sur4 sub0 (fun _ => 0) hL_x hf_x hL_ch hf_ch hL_co hf_co hL_col hf_col hL_cor0 hf_cor0 hL_cob0 hf_cob0 hL_su hf_su hL_sul hf_sul hL_sur0 hf_sur0 hL_sub0 hf_sub0 hne_cob0_sub0 hne_cor0_sur0) (cwV 1 C.2.2.2.2.1 (gU_V mw_1107 mw_1063 mw_1064 mw_2 (subU mw_1065)) rfl rfl rfl hde_X11_digest_V_9 ⟨Nat.le_of_ble_eq_true rfl, Nat.le_of_ble_eq_true rfl⟩) (p_preV C hw hL_x hf_x rfl) rfl rfl hl.1 rfl (lv_room (Nat.le_of_ble_eq_true rfl)) dX11_digest_121 ⟨Nat.le_of_ble_eq_true rfl, Nat.le_of_ble_eq_true rfl⟩) hw hA (fun r26 S25 H locs hpost hw => ?_)
  obtain ⟨hr_, hS27, hfr28, hf29⟩ := hpost
  subst hr_
  have hL30 : sub0 ∈ S25.1 := by rw [hS27]; exact List.mem_append_left _ hL_sub0
  refine lv_i2l hx hb dX11_digest_124 rfl ?_
  refine lv_ladd hx hb dX11_digest_125 ?_
  refine lv_lstore_n (lv' := [(1, .long ((((((((((((58076 * 31) + (((nI 0)).toInt64)) * 31) + (((nI 0)).toInt64)) * 31) + (((nI 0)).toInt64)) * 31) + (((nI 0)).toInt64)) * 31) + (((nI 0)).toInt64)) * 31) + (((nI 0)).toInt64))), (0, .ref x)]) hx hb dX11_digest_126 rfl hl (by decide) rfl (fun ls hl => ?_)
  refine lv_lload_n hx hb dX11_digest_127 rfl (lv_at hl 0 rfl) ?_
  refine lv_ldc2 (v := 31) hx hb C.2.2.2.1 (C.2.2.2.2.1 (.constantLong RX11 247 (31)) (mU mw_1090)) dX11_digest_128 ?_
  refine lv_lmul hx hb dX11_digest_131 ?_
  refine lv_aload_n hx hb dX11_digest_132 rfl (lv_at hl 1 rfl) ?_
  refine lv_iconst (v := nI 5) hx hb dX11_digest_133 (by decide) ?_
  have hL31 : x ∈ S25.1 := by rw [hS27]; exact List.mem_append_left _ hL_x
  have hf32 : S25.2 x = .inr (11, [.ref ch, .ref ln, .ref sl, .ref mk, .ref co, .ref ca, .ref su, .ref lt]) := (hfr28 x hL_x (ne_cells hf_x hf_sub0 (by nofun))).trans hf_x
  have hL33 : ch ∈ S25.1 := by rw [hS27]; exact List.mem_append_left _ hL_ch
  have hf34 : S25.2 ch = .inr (2, [.ref lk, .int (nI 0)]) := (hfr28 ch hL_ch (ne_cells hf_ch hf_sub0 (by nofun))).trans hf_ch
  have hL35 : co ∈ S25.1 := by rw [hS27]; exact List.mem_append_left _ hL_co
  have hf36 : S25.2 co = .inr (5, [.ref col, .ref con]) := (hfr28 co hL_co (ne_cells hf_co hf_sub0 (by nofun))).trans hf_co
  have hL37 : col ∈ S25.1 := by rw [hS27]; exact List.mem_append_left _ hL_col
  have hf38 : S25.2 col = aQ (cy 2) 5 (va_up (va_up (va_up (va_up (va_up (fun _ => none) 0 (some cor0)) 1 (some cor1)) 2 (some cor2)) 3 (some cor3)) 4 (some cor4)) := (hfr28 col hL_col (ne_cells hf_col hf_sub0 ne_QN)).trans hf_col
  have hL39 : cor0 ∈ S25.1 := by rw [hS27]; exact List.mem_append_left _ hL_cor0
  have hf40 : S25.2 cor0 = .inr (8, [.ref cob0, .int (nI 0)]) := (hfr28 cor0 hL_cor0 (ne_cells hf_cor0 hf_sub0 (by nofun))).trans hf_cor0
  have hL41 : cob0 ∈ S25.1 := by rw [hS27]; exact List.mem_append_left _ hL_cob0
  have hf42 : S25.2 cob0 = aN (cy 0) 32 (fun _ => 0) := (hfr28 cob0 hL_cob0 hne_cob0_sub0).trans hf_cob0
  have hL43 : su ∈ S25.1 := by rw [hS27]; exact List.mem_append_left _ hL_su
  have hf44 : S25.2 su = .inr (5, [.ref sul, .ref sun]) := (hfr28 su hL_su (ne_cells hf_su hf_sub0 (by nofun))).trans hf_su
  have hL45 : sul ∈ S25.1 := by rw [hS27]; exact List.mem_append_left _ hL_sul
  have hf46 : S25.2 sul = aQ (cy 2) 5 (va_up (va_up (va_up (va_up (va_up (fun _ => none) 0 (some sur0)) 1 (some sur1)) 2 (some sur2)) 3 (some sur3)) 4 (some sur4)) := (hfr28 sul hL_sul (ne_cells hf_sul hf_sub0 ne_QN)).trans hf_sul
  have hL47 : sur0 ∈ S25.1 := by rw [hS27]; exact List.mem_append_left _ hL_sur0
  have hf48 : S25.2 sur0 = .inr (8, [.ref sub0, .int (nI 0)]) := (hfr28 sur0 hL_sur0 (ne_cells hf_sur0 hf_sub0 (by nofun))).trans hf_sur0
  refine p_calli (va_runV (As := [.int (nI 5)]) (rest := [.long (((((((((((((58076 * 31) + (((nI 0)).toInt64)) * 31) + (((nI 0)).toInt64)) * 31) + (((nI 0)).toInt64)) * 31) + (((nI 0)).toInt64)) * 31) + (((nI 0)).toInt64)) * 31) + (((nI 0)).toInt64)) * 31)]) C.fix (e_X11_breaks_5 l D cy S25 H.size x ch ln sl mk co ca su lt lk col con cor0 cor1 cor2 cor3 cor4 cob0 sul sun sur0 sur1 sur2 sur3 sur4 sub0 (rcop (fun _ => 0) (fun _ => 0) 0 0) hL31 hf32 hL33 hf34 hL35 hf36 hL37 hf38 hL39 hf40 hL41 hf42 hL43 hf44 hL45 hf46 hL47 hf48 hL30 hf29 hne_cob0_sub0 hne_cor0_sur0) (cwV 1 C.2.2.2.2.1 (gU_V mw_1107 mw_1063 mw_1064 mw_2 (subU mw_1065)) rfl rfl rfl hde_X11_digest_V_9 ⟨Nat.le_of_ble_eq_true rfl, Nat.le_of_ble_eq_true rfl⟩) (p_preV C hw hL31 hf32 rfl) rfl rfl hl.1 rfl (lv_room (Nat.le_of_ble_eq_true rfl)) dX11_digest_134 ⟨Nat.le_of_ble_eq_true rfl, Nat.le_of_ble_eq_true rfl⟩) hw hA (fun r50 S49 H locs hpost hw => ?_)
  obtain ⟨hr_, hS51, hfr52, hf53⟩ := hpost
  subst hr_
  have hL54 : sub0 ∈ S49.1 := by rw [hS51]; exact List.mem_append_left _ hL30
  refine lv_i2l hx hb dX11_digest_137 rfl ?_
  refine lv_ladd hx hb dX11_digest_138 ?_
  refine lv_lstore_n (lv' := [(1, .long ((((((((((((((58076 * 31) + (((nI 0)).toInt64)) * 31) + (((nI 0)).toInt64)) * 31) + (((nI 0)).toInt64)) * 31) + (((nI 0)).toInt64)) * 31) + (((nI 0)).toInt64)) * 31) + (((nI 0)).toInt64)) * 31) + (((nI 0)).toInt64))), (0, .ref x)]) hx hb dX11_digest_139 rfl hl (by decide) rfl (fun ls hl => ?_)
  refine lv_lload_n hx hb dX11_digest_140 rfl (lv_at hl 0 rfl) ?_
  refine lv_ldc2 (v := 31) hx hb C.2.2.2.1 (C.2.2.2.2.1 (.constantLong RX11 247 (31)) (mU mw_1090)) dX11_digest_141 ?_
  refine lv_lmul hx hb dX11_digest_144 ?_
  refine lv_aload_n hx hb dX11_digest_145 rfl (lv_at hl 1 rfl) ?_
  have hL55 : x ∈ S49.1 := by rw [hS51]; exact List.mem_append_left _ hL31
  have hf56 : S49.2 x = .inr (11, [.ref ch, .ref ln, .ref sl, .ref mk, .ref co, .ref ca, .ref su, .ref lt]) := (hfr52 x hL31 (ne_cells hf32 hf29 (by nofun))).trans hf32
  have hL57 : ch ∈ S49.1 := by rw [hS51]; exact List.mem_append_left _ hL33
  have hf58 : S49.2 ch = .inr (2, [.ref lk, .int (nI 0)]) := (hfr52 ch hL33 (ne_cells hf34 hf29 (by nofun))).trans hf34
  have hL59 : co ∈ S49.1 := by rw [hS51]; exact List.mem_append_left _ hL35
  have hf60 : S49.2 co = .inr (5, [.ref col, .ref con]) := (hfr52 co hL35 (ne_cells hf36 hf29 (by nofun))).trans hf36
  have hL61 : col ∈ S49.1 := by rw [hS51]; exact List.mem_append_left _ hL37
  have hf62 : S49.2 col = aQ (cy 2) 5 (va_up (va_up (va_up (va_up (va_up (fun _ => none) 0 (some cor0)) 1 (some cor1)) 2 (some cor2)) 3 (some cor3)) 4 (some cor4)) := (hfr52 col hL37 (ne_cells hf38 hf29 ne_QN)).trans hf38
  have hL63 : cor0 ∈ S49.1 := by rw [hS51]; exact List.mem_append_left _ hL39
  have hf64 : S49.2 cor0 = .inr (8, [.ref cob0, .int (nI 0)]) := (hfr52 cor0 hL39 (ne_cells hf40 hf29 (by nofun))).trans hf40
  have hL65 : ca ∈ S25.1 := by rw [hS27]; exact List.mem_append_left _ hL_ca
  have hf66 : S25.2 ca = .inr (5, [.ref cal, .ref can]) := (hfr28 ca hL_ca (ne_cells hf_ca hf_sub0 (by nofun))).trans hf_ca
  have hL67 : ca ∈ S49.1 := by rw [hS51]; exact List.mem_append_left _ hL65
  have hf68 : S49.2 ca = .inr (5, [.ref cal, .ref can]) := (hfr52 ca hL65 (ne_cells hf66 hf29 (by nofun))).trans hf66
  have hL69 : cal ∈ S25.1 := by rw [hS27]; exact List.mem_append_left _ hL_cal
  have hf70 : S25.2 cal = aQ (cy 2) 5 (va_up (va_up (va_up (va_up (va_up (fun _ => none) 0 (some car0)) 1 (some car1)) 2 (some car2)) 3 (some car3)) 4 (some car4)) := (hfr28 cal hL_cal (ne_cells hf_cal hf_sub0 ne_QN)).trans hf_cal
  have hL71 : cal ∈ S49.1 := by rw [hS51]; exact List.mem_append_left _ hL69
  have hf72 : S49.2 cal = aQ (cy 2) 5 (va_up (va_up (va_up (va_up (va_up (fun _ => none) 0 (some car0)) 1 (some car1)) 2 (some car2)) 3 (some car3)) 4 (some car4)) := (hfr52 cal hL69 (ne_cells hf70 hf29 ne_QN)).trans hf70
  refine p_calli (va_runV (As := []) (rest := [.long (((((((((((((((58076 * 31) + (((nI 0)).toInt64)) * 31) + (((nI 0)).toInt64)) * 31) + (((nI 0)).toInt64)) * 31) + (((nI 0)).toInt64)) * 31) + (((nI 0)).toInt64)) * 31) + (((nI 0)).toInt64)) * 31) + (((nI 0)).toInt64)) * 31)]) C.fix (e_X11_weak l D cy S49 H.size x ch ln sl mk co ca su lt lk col con cor0 cor1 cor2 cor3 cor4 cob0 cal can car0 car1 car2 car3 car4 hL55 hf56 hL57 hf58 hL59 hf60 hL61 hf62 hL63 hf64 hL67 hf68 hL71 hf72 ) (cwV 0 C.2.2.2.2.1 (gU_V mw_1108 mw_1048 mw_1049 mw_2 (subU mw_1050)) rfl rfl rfl hde_X11_digest_V_10 ⟨Nat.le_of_ble_eq_true rfl, Nat.le_of_ble_eq_true rfl⟩) (p_preV C hw hL55 hf56 rfl) rfl rfl hl.1 rfl (lv_room (Nat.le_of_ble_eq_true rfl)) dX11_digest_146 ⟨Nat.le_of_ble_eq_true rfl, Nat.le_of_ble_eq_true rfl⟩) hw hA (fun r74 S73 H locs hpost hw => ?_)
  obtain ⟨hr_, hS_⟩ := hpost
  subst hr_
  subst hS_
  refine lv_i2l hx hb dX11_digest_149 rfl ?_
  refine lv_ladd hx hb dX11_digest_150 ?_
  exact (p_lret C hw (⟨(by decide +kernel), (by simp only [hS51, hS27, pup, pnew, List.append_nil, List.append_assoc, List.cons_append, List.nil_append]), (fun a_ ha_ hn_0 => ((hfr52 a_ (show a_ ∈ S25.1 from by rw [hS27]; exact List.mem_append_left _ ha_) hn_0).trans (hfr28 a_ ha_ hn_0)))⟩) hr hlocks dX11_digest_151)

theorem hde_X11_meanErrors_V_0 : yX5_become.cls = RX5 ∧ yX5_become.cls ≠ "java/lang/invoke/MethodHandle" ∧ yX5_become.cls ≠ "java/lang/invoke/VarHandle" ∧ (parseMethodDescriptor yX5_become.desc).map (fun d => d.parameters.length) = some 4 := by decide +kernel
theorem hde_X11_meanErrors_V_1 : yX11_send.cls = RX11 ∧ yX11_send.cls ≠ "java/lang/invoke/MethodHandle" ∧ yX11_send.cls ≠ "java/lang/invoke/VarHandle" ∧ (parseMethodDescriptor yX11_send.desc).map (fun d => d.parameters.length) = some 2 := by decide +kernel
theorem hde_X11_meanErrors_V_2 : yX1_decode.cls = RX1 ∧ yX1_decode.cls ≠ "java/lang/invoke/MethodHandle" ∧ yX1_decode.cls ≠ "java/lang/invoke/VarHandle" ∧ (parseMethodDescriptor yX1_decode.desc).map (fun d => d.parameters.length) = some 2 := by decide +kernel
theorem hde_X11_meanErrors_V_3 : yX11_errorsIn.cls = RX11 ∧ yX11_errorsIn.cls ≠ "java/lang/invoke/MethodHandle" ∧ yX11_errorsIn.cls ≠ "java/lang/invoke/VarHandle" ∧ (parseMethodDescriptor yX11_errorsIn.desc).map (fun d => d.parameters.length) = some 1 := by decide +kernel
set_option maxHeartbeats 4000000 in
set_option maxRecDepth 100000 in
/-- meanErrors -/
theorem e_X11_meanErrors (l : Launch) (hflags : l.stackTraces = false) (D : va_G) (cy : Nat → ClassId) (ed : Nat) (S : pS) (sz : Nat) (x : Nat) (ch : Nat) (ln : Nat) (sl : Nat) (mk : Nat) (co : Nat) (ca : Nat) (su : Nat) (lt : Nat) (lk : Nat) (mb : Nat) (col : Nat) (con : Nat) (cor0 : Nat) (cor1 : Nat) (cor2 : Nat) (cor3 : Nat) (cor4 : Nat) (cob0 : Nat) (sul : Nat) (sun : Nat) (sur0 : Nat) (sur1 : Nat) (sur2 : Nat) (sur3 : Nat) (sur4 : Nat) (sub0 : Nat) (pp : Int32) (rr : Int32) (hL_x : x ∈ S.1) (hf_x : S.2 x = .inr (11, [.ref ch, .ref ln, .ref sl, .ref mk, .ref co, .ref ca, .ref su, .ref lt])) (hL_ch : ch ∈ S.1) (hf_ch : S.2 ch = .inr (2, [.ref lk, .int (nI 0)])) (hL_sl : sl ∈ S.1) (hf_sl : S.2 sl = .inr (6, [.int (nI 0), .int (nI 0), .int (nI 0), .int (nI 0)])) (hL_mk : mk ∈ S.1) (hf_mk : S.2 mk = .inr (8, [.ref mb, .int (nI 320)])) (hL_mb : mb ∈ S.1) (hf_mb : S.2 mb = aN (cy 0) 320 (fun _ => 0)) (hL_co : co ∈ S.1) (hf_co : S.2 co = .inr (5, [.ref col, .ref con])) (hL_col : col ∈ S.1) (hf_col : S.2 col = aQ (cy 2) 5 (va_up (va_up (va_up (va_up (va_up (fun _ => none) 0 (some cor0)) 1 (some cor1)) 2 (some cor2)) 3 (some cor3)) 4 (some cor4))) (hL_cor0 : cor0 ∈ S.1) (hf_cor0 : S.2 cor0 = .inr (8, [.ref cob0, .int (nI 0)])) (hL_cob0 : cob0 ∈ S.1) (hf_cob0 : S.2 cob0 = aN (cy 0) 32 (fun _ => 0)) (hL_su : su ∈ S.1) (hf_su : S.2 su = .inr (5, [.ref sul, .ref sun])) (hL_sul : sul ∈ S.1) (hf_sul : S.2 sul = aQ (cy 2) 5 (va_up (va_up (va_up (va_up (va_up (fun _ => none) 0 (some sur0)) 1 (some sur1)) 2 (some sur2)) 3 (some sur3)) 4 (some sur4))) (hL_sur0 : sur0 ∈ S.1) (hf_sur0 : S.2 sur0 = .inr (8, [.ref sub0, .int (nI 0)])) (hL_sub0 : sub0 ∈ S.1) (hf_sub0 : S.2 sub0 = aN (cy 0) 32 (fun _ => 0)) (hne_mk_sur0 : mk ≠ sur0) (hne_mb_sub0 : mb ≠ sub0) (hne_cor0_sur0 : cor0 ≠ sur0) (hne_cob0_sub0 : cob0 ≠ sub0) : vx_Met l yX11_meanErrors (Cond.code yX11_meanErrors cX11_meanErrors 5 (some .double) :: lwU) ({ frames := 6, cells := 1, slots := 6, locals := 111 }) (ePc D cy ed S sz [.ref x, .int pp, .int rr]) (pQd D cy S sz (fun r S' => (okE pp rr) ∧ r = FP.dconst0 ∧ S'.1 = S.1 ++ [] ∧ (∀ a_, a_ ∈ S.1 → a_ ≠ sl → a_ ≠ sur0 → a_ ≠ sub0 → S'.2 a_ = S.2 a_))) (pX D S sz (fun E S' => (E = "java/lang/IllegalArgumentException" ∧ (¬ okE pp rr) ∧ S = S'))) 1 6 (pA S sz) := by
  refine vx_ofW (cc := cX11_meanErrors) (maxL := 5) (ret := (some .double)) (by decide) rfl ?_
  intro p e s m args below meth c s₁ B hml htab hv
  obtain ⟨rfl, rfl, C, hw, hA, hr, hlocks, hE⟩ := e_start B hml hv
  have hx := C.1
  have hb := C.2.1
  have hl := lv_entry ([.ref x, .int pp, .int rr]) (n := 5) (Nat.le_of_ble_eq_true rfl)
  rw [lg_entry_eq]
  generalize (lg_sl ([.ref x, .int pp, .int rr]) ++ List.replicate (5 - (lg_sl ([.ref x, .int pp, .int rr])).length) Slot.unset).toArray = ls at hl ⊢
  have hl : lv_has ls 5 [(0, .ref x), (1, .int pp), (2, .int rr)] := hl
  have hin_RX11 : ∀ w ∈ u_ws RX11 TX11 8, w ∈ (Cond.code yX11_meanErrors cX11_meanErrors 5 (some .double) :: lwU) := fun w h => mU (sub_RX11 w h)
  refine lv_iload_n hx hb dX11_meanErrors_0 rfl (lv_at hl 1 rfl) ?_
  refine z_if_lt (tgt := 11) hx hb rfl dX11_meanErrors_1 (by decide) (fun h_1 => ?_) (fun h_1 => ?_)
  · skip
    exact x_throw (y := yX11_meanErrors) C hflags hw hE (kS := 27) (kT := 0) mw_119 mw_120 tIA_x rfl rfl (by decide) tIA_n tIA_g hl.1.symm dX11_meanErrors_11 dX11_meanErrors_14 dX11_meanErrors_15 dX11_meanErrors_17 dX11_meanErrors_20 htab (Nat.le_of_ble_eq_true rfl) (Nat.le_of_ble_eq_true rfl) (Nat.le_of_ble_eq_true rfl) (Nat.le_of_ble_eq_true rfl) hlocks (⟨rfl, (fun h => by unfold okE at h; omega), rfl⟩) (Nat.le_of_ble_eq_true rfl) (Nat.le_of_ble_eq_true rfl)
  · skip
    refine lv_iload_n hx hb dX11_meanErrors_4 rfl (lv_at hl 1 rfl) ?_
    refine lv_sipush (v := nI 1000) hx hb dX11_meanErrors_5 (by decide) ?_
    refine z_icmp_le (tgt := 21) hx hb rfl (nI_toInt (by first | decide | omega)) dX11_meanErrors_8 (by decide) (fun h_8 => ?_) (fun h_8 => ?_)
    · skip
      refine lv_iload_n hx hb dX11_meanErrors_21 rfl (lv_at hl 2 rfl) ?_
      refine lv_iconst (v := nI 1) hx hb dX11_meanErrors_22 (by decide) ?_
      refine z_icmp_lt (tgt := 32) hx hb rfl (nI_toInt (by first | decide | omega)) dX11_meanErrors_23 (by decide) (fun h_23 => ?_) (fun h_23 => ?_)
      · skip
        exact x_throw (y := yX11_meanErrors) C hflags hw hE (kS := 28) (kT := 0) mw_119 mw_120 tIA_x rfl rfl (by decide) tIA_n tIA_g hl.1.symm dX11_meanErrors_32 dX11_meanErrors_35 dX11_meanErrors_36 dX11_meanErrors_38 dX11_meanErrors_41 htab (Nat.le_of_ble_eq_true rfl) (Nat.le_of_ble_eq_true rfl) (Nat.le_of_ble_eq_true rfl) (Nat.le_of_ble_eq_true rfl) hlocks (⟨rfl, (fun h => by unfold okE at h; omega), rfl⟩) (Nat.le_of_ble_eq_true rfl) (Nat.le_of_ble_eq_true rfl)
      · skip
        refine lv_iload_n hx hb dX11_meanErrors_26 rfl (lv_at hl 2 rfl) ?_
        refine lv_bipush (v := nI 20) hx hb dX11_meanErrors_27 (by decide) ?_
        refine z_icmp_le (tgt := 42) hx hb rfl (nI_toInt (by first | decide | omega)) dX11_meanErrors_29 (by decide) (fun h_29 => ?_) (fun h_29 => ?_)
        · skip
          obtain ⟨qN, hq31, rfl, hqi⟩ := z_nat (x := pp) (by omega)
          obtain ⟨rN, hr31, rfl, hri⟩ := z_nat (x := rr) (by omega)
          have hr1 : 1 ≤ rN := by omega
          have hr20 : rN ≤ 20 := by omega
          refine lv_iconst (v := nI 0) hx hb dX11_meanErrors_42 (by decide) ?_
          refine lv_istore_n (lv' := [(3, .int (nI 0)), (0, .ref x), (1, .int (nI qN)), (2, .int (nI rN))]) hx hb dX11_meanErrors_43 rfl hl (by decide) rfl (fun ls hl => ?_)
          refine lv_iconst (v := nI 1) hx hb dX11_meanErrors_44 (by decide) ?_
          refine lv_istore (lv' := [(4, .int (nI 1)), (3, .int (nI 0)), (0, .ref x), (1, .int (nI qN)), (2, .int (nI rN))]) hx hb dX11_meanErrors_45 hl (by decide) rfl (fun ls hl => ?_)
          have loop47_1 : ∀ (kf : Nat) (i : Nat) (lk0 : Nat) (la : Int32) (lb : Int32) (lc : Int32) (sg : Nat → Nat), rN + 1 - i < kf → ∀ (Sx2 : pS) (H : Heap) (locs : List Loc) (ls : Array Slot), (Sx2.1 = S.1 ++ []) → (∀ a_, a_ ∈ S.1 → a_ ≠ sl → a_ ≠ sur0 → a_ ≠ sub0 → Sx2.2 a_ = S.2 a_) → (sl ∈ Sx2.1) → (Sx2.2 sl = .inr (6, [.int (nI lk0), .int la, .int lb, .int lc])) → (sur0 ∈ Sx2.1) → (Sx2.2 sur0 = .inr (8, [.ref sub0, .int (nI 0)])) → (sub0 ∈ Sx2.1) → (Sx2.2 sub0 = aN (cy 0) 32 sg) → (1 ≤ i) → (i ≤ rN + 1) → (∀ q, sg q ≤ 2) → pW D (pA S s.heap.size) s.heap Sx2 H locs → lv_has ls 5 [(4, .int (nI i)), (3, .int (nI 0)), (0, .ref x), (1, .int (nI qN)), (2, .int (nI rN))] → W p l e (headSpec (Cond.code yX11_meanErrors cX11_meanErrors 5 (some .double) :: lwU) ({ frames := 6, cells := 1, slots := 6, locals := 111 } : Room)).room s m ([.ref x, .int (nI qN), .int (nI rN)]).toArray below meth c H locs 0 0 (vx_MQ below (pQd D cy S s.heap.size (fun r S' => (okE (nI qN) (nI rN)) ∧ r = FP.dconst0 ∧ S'.1 = S.1 ++ [] ∧ (∀ a_, a_ ∈ S.1 → a_ ≠ sl → a_ ≠ sur0 → a_ ≠ sub0 → S'.2 a_ = S.2 a_))) (pX D S s.heap.size (fun E S' => (E = "java/lang/IllegalArgumentException" ∧ (¬ okE (nI qN) (nI rN)) ∧ S = S'))) ([.ref x, .int (nI qN), .int (nI rN)]).toArray s 1 6 (pA S s.heap.size)) (F0 m 47 ls []) := by
            intro kf
            induction kf with
            | zero => intro i lk0 la lb lc sg hm; exact absurd hm (Nat.not_lt_zero _)
            | succ kf ihloop47_1 =>
              intro i lk0 la lb lc sg hm Sx2 H locs ls hS3 hfr4 hL5 hf6 hL7 hf8 hL9 hf10 hi1 hi2 hsg hw hl
              refine lv_iload hx hb dX11_meanErrors_47 (lv_at hl 0 rfl) ?_
              refine lv_iload_n hx hb dX11_meanErrors_49 rfl (lv_at hl 4 rfl) ?_
              refine n_icmp_gt (tgt := 109) hx hb (by first | decide | omega) (by first | decide | omega) dX11_meanErrors_50 (by decide) (fun h_50 => ?_) (fun h_50 => ?_)
              · skip
                refine lv_iload_n hx hb dX11_meanErrors_109 rfl (lv_at hl 1 rfl) ?_
                refine lv_i2d hx hb dX11_meanErrors_110 ?_
                refine lv_iload_n hx hb dX11_meanErrors_111 rfl (lv_at hl 4 rfl) ?_
                refine lv_i2d hx hb dX11_meanErrors_112 ?_
                refine lv_ddiv hx hb dX11_meanErrors_113 (zmean hr1 hr20).1 ?_
                refine vx_ret ?_
                refine W.widen (k := 1) (n := 6) (Nat.le_of_ble_eq_true rfl) (Nat.le_of_ble_eq_true rfl) ?_
                exact (p_dret C hw (⟨(by unfold okE; omega), (zmean hr1 hr20).2, (by simp only [hS3, pup, pnew, List.append_nil, List.append_assoc, List.cons_append, List.nil_append]), (fun a_ ha_ hn_0 hn_1 hn_2 => (hfr4 a_ ha_ hn_0 hn_1 hn_2))⟩) hr hlocks dX11_meanErrors_114)
              · skip
                refine lv_aload_n hx hb dX11_meanErrors_53 rfl (lv_at hl 2 rfl) ?_
                have hL11 : x ∈ Sx2.1 := by rw [hS3]; exact List.mem_append_left _ hL_x
                have hf12 : Sx2.2 x = .inr (11, [.ref ch, .ref ln, .ref sl, .ref mk, .ref co, .ref ca, .ref su, .ref lt]) := (hfr4 x hL_x (ne_cells hf_x hf_sl (by nofun)) (ne_cells hf_x hf_sur0 (by nofun)) (ne_cells hf_x hf_sub0 (by nofun))).trans hf_x
                refine p_get C hw (ci := 11) (Cn := RX11) (T := TX11) (N := 8) hL11 hf12 rfl hin_RX11 2 (by decide) (mU mw_22) rfl rfl dX11_meanErrors_54 ?_
                refine lv_iconst (v := nI 1) hx hb dX11_meanErrors_57 (by decide) ?_
                refine lv_iload_n hx hb dX11_meanErrors_58 rfl (lv_at hl 3 rfl) ?_
                refine lv_iload hx hb dX11_meanErrors_59 (lv_at hl 0 rfl) ?_
                refine lv_iconst (v := nI 0) hx hb dX11_meanErrors_61 (by decide) ?_
                refine p_callv (va_runV (As := [.int (nI 1), .int (nI qN), .int (nI i), .int (nI 0)]) (rest := []) C.fix (c_X5_become l D cy Sx2 H.size sl lk0 la lb lc 1 (nI qN) (nI i) (nI 0) hL5 hf6) (cwV 4 C.2.2.2.2.1 (gU_V mw_716 mw_717 mw_718 mw_20 sub_X5_become) rfl rfl rfl hde_X11_meanErrors_V_0 ⟨Nat.le_of_ble_eq_true rfl, Nat.le_of_ble_eq_true rfl⟩) (p_preV C hw hL5 hf6 rfl) rfl rfl hl.1 rfl (lv_room (Nat.le_of_ble_eq_true rfl)) dX11_meanErrors_62 ⟨Nat.le_of_ble_eq_true rfl, Nat.le_of_ble_eq_true rfl⟩) hw hA (fun S13 H locs hpost hw => ?_)
                have hS_ := hpost
                have hS15 := hS_
                have hL16 : sl ∈ S13.1 := by rw [hS15]; exact hL5
                have hf17 : S13.2 sl = .inr (6, [.int (nI 1), .int (nI qN), .int (nI i), .int (nI 0)]) := by rw [hS15]; exact pup_s
                refine lv_aload_n hx hb dX11_meanErrors_65 rfl (lv_at hl 2 rfl) ?_
                refine lv_aload_n hx hb dX11_meanErrors_66 rfl (lv_at hl 2 rfl) ?_
                have hL18 : x ∈ S13.1 := by rw [hS15]; exact hL11
                have hf19 : S13.2 x = .inr (11, [.ref ch, .ref ln, .ref sl, .ref mk, .ref co, .ref ca, .ref su, .ref lt]) := by rw [hS15]; exact (pup_n (ne_cells hf12 hf6 (by nofun))).trans hf12
                refine p_get C hw (ci := 11) (Cn := RX11) (T := TX11) (N := 8) hL18 hf19 rfl hin_RX11 2 (by decide) (mU mw_22) rfl rfl dX11_meanErrors_67 ?_
                refine lv_aload_n hx hb dX11_meanErrors_70 rfl (lv_at hl 2 rfl) ?_
                refine p_get C hw (ci := 11) (Cn := RX11) (T := TX11) (N := 8) hL18 hf19 rfl hin_RX11 6 (by decide) (mU mw_32) rfl rfl dX11_meanErrors_71 ?_
                have hL20 : ch ∈ Sx2.1 := by rw [hS3]; exact List.mem_append_left _ hL_ch
                have hf21 : Sx2.2 ch = .inr (2, [.ref lk, .int (nI 0)]) := (hfr4 ch hL_ch (ne_cells hf_ch hf_sl (by nofun)) (ne_cells hf_ch hf_sur0 (by nofun)) (ne_cells hf_ch hf_sub0 (by nofun))).trans hf_ch
                have hL22 : ch ∈ S13.1 := by rw [hS15]; exact hL20
                have hf23 : S13.2 ch = .inr (2, [.ref lk, .int (nI 0)]) := by rw [hS15]; exact (pup_n (ne_cells hf21 hf6 (by nofun))).trans hf21
                have hL24 : mk ∈ Sx2.1 := by rw [hS3]; exact List.mem_append_left _ hL_mk
                have hf25 : Sx2.2 mk = .inr (8, [.ref mb, .int (nI 320)]) := (hfr4 mk hL_mk (ne_cells hf_mk hf_sl (by nofun)) hne_mk_sur0 (ne_cells hf_mk hf_sub0 (by nofun))).trans hf_mk
                have hL26 : mk ∈ S13.1 := by rw [hS15]; exact hL24
                have hf27 : S13.2 mk = .inr (8, [.ref mb, .int (nI 320)]) := by rw [hS15]; exact (pup_n (ne_cells hf25 hf6 (by nofun))).trans hf25
                have hL28 : mb ∈ Sx2.1 := by rw [hS3]; exact List.mem_append_left _ hL_mb
                have hf29 : Sx2.2 mb = aN (cy 0) 320 (fun _ => 0) := (hfr4 mb hL_mb (ne_cells hf_mb hf_sl (by nofun)) (ne_cells hf_mb hf_sur0 (by nofun)) hne_mb_sub0).trans hf_mb
                have hL30 : mb ∈ S13.1 := by rw [hS15]; exact hL28
                have hf31 : S13.2 mb = aN (cy 0) 320 (fun _ => 0) := by rw [hS15]; exact (pup_n (ne_cells hf29 hf6 (by nofun))).trans hf29
                have hL32 : co ∈ Sx2.1 := by rw [hS3]; exact List.mem_append_left _ hL_co
                have hf33 : Sx2.2 co = .inr (5, [.ref col, .ref con]) := (hfr4 co hL_co (ne_cells hf_co hf_sl (by nofun)) (ne_cells hf_co hf_sur0 (by nofun)) (ne_cells hf_co hf_sub0 (by nofun))).trans hf_co
                have hL34 : co ∈ S13.1 := by rw [hS15]; exact hL32
                have hf35 : S13.2 co = .inr (5, [.ref col, .ref con]) := by rw [hS15]; exact (pup_n (ne_cells hf33 hf6 (by nofun))).trans hf33
                have hL36 : col ∈ Sx2.1 := by rw [hS3]; exact List.mem_append_left _ hL_col
                have hf37 : Sx2.2 col = aQ (cy 2) 5 (va_up (va_up (va_up (va_up (va_up (fun _ => none) 0 (some cor0)) 1 (some cor1)) 2 (some cor2)) 3 (some cor3)) 4 (some cor4)) := (hfr4 col hL_col (ne_cells hf_col hf_sl (by nofun)) (ne_cells hf_col hf_sur0 (by nofun)) (ne_cells hf_col hf_sub0 ne_QN)).trans hf_col
                have hL38 : col ∈ S13.1 := by rw [hS15]; exact hL36
                have hf39 : S13.2 col = aQ (cy 2) 5 (va_up (va_up (va_up (va_up (va_up (fun _ => none) 0 (some cor0)) 1 (some cor1)) 2 (some cor2)) 3 (some cor3)) 4 (some cor4)) := by rw [hS15]; exact (pup_n (ne_cells hf37 hf6 (by nofun))).trans hf37
                have hL40 : su ∈ Sx2.1 := by rw [hS3]; exact List.mem_append_left _ hL_su
                have hf41 : Sx2.2 su = .inr (5, [.ref sul, .ref sun]) := (hfr4 su hL_su (ne_cells hf_su hf_sl (by nofun)) (ne_cells hf_su hf_sur0 (by nofun)) (ne_cells hf_su hf_sub0 (by nofun))).trans hf_su
                have hL42 : su ∈ S13.1 := by rw [hS15]; exact hL40
                have hf43 : S13.2 su = .inr (5, [.ref sul, .ref sun]) := by rw [hS15]; exact (pup_n (ne_cells hf41 hf6 (by nofun))).trans hf41
                have hL44 : sul ∈ Sx2.1 := by rw [hS3]; exact List.mem_append_left _ hL_sul
                have hf45 : Sx2.2 sul = aQ (cy 2) 5 (va_up (va_up (va_up (va_up (va_up (fun _ => none) 0 (some sur0)) 1 (some sur1)) 2 (some sur2)) 3 (some sur3)) 4 (some sur4)) := (hfr4 sul hL_sul (ne_cells hf_sul hf_sl (by nofun)) (ne_cells hf_sul hf_sur0 (by nofun)) (ne_cells hf_sul hf_sub0 ne_QN)).trans hf_sul
                have hL46 : sul ∈ S13.1 := by rw [hS15]; exact hL44
                have hf47 : S13.2 sul = aQ (cy 2) 5 (va_up (va_up (va_up (va_up (va_up (fun _ => none) 0 (some sur0)) 1 (some sur1)) 2 (some sur2)) 3 (some sur3)) 4 (some sur4)) := by rw [hS15]; exact (pup_n (ne_cells hf45 hf6 (by nofun))).trans hf45
                have hL48 : cor0 ∈ Sx2.1 := by rw [hS3]; exact List.mem_append_left _ hL_cor0
                have hf49 : Sx2.2 cor0 = .inr (8, [.ref cob0, .int (nI 0)]) := (hfr4 cor0 hL_cor0 (ne_cells hf_cor0 hf_sl (by nofun)) hne_cor0_sur0 (ne_cells hf_cor0 hf_sub0 (by nofun))).trans hf_cor0
                have hL50 : cor0 ∈ S13.1 := by rw [hS15]; exact hL48
                have hf51 : S13.2 cor0 = .inr (8, [.ref cob0, .int (nI 0)]) := by rw [hS15]; exact (pup_n (ne_cells hf49 hf6 (by nofun))).trans hf49
                have hL52 : cob0 ∈ Sx2.1 := by rw [hS3]; exact List.mem_append_left _ hL_cob0
                have hf53 : Sx2.2 cob0 = aN (cy 0) 32 (fun _ => 0) := (hfr4 cob0 hL_cob0 (ne_cells hf_cob0 hf_sl (by nofun)) (ne_cells hf_cob0 hf_sur0 (by nofun)) hne_cob0_sub0).trans hf_cob0
                have hL54 : cob0 ∈ S13.1 := by rw [hS15]; exact hL52
                have hf55 : S13.2 cob0 = aN (cy 0) 32 (fun _ => 0) := by rw [hS15]; exact (pup_n (ne_cells hf53 hf6 (by nofun))).trans hf53
                have hL56 : sur0 ∈ S13.1 := by rw [hS15]; exact hL7
                have hf57 : S13.2 sur0 = .inr (8, [.ref sub0, .int (nI 0)]) := by rw [hS15]; exact (pup_n (ne_cells hf8 hf6 (by nofun))).trans hf8
                have hL58 : sub0 ∈ S13.1 := by rw [hS15]; exact hL9
                have hf59 : S13.2 sub0 = aN (cy 0) 32 sg := by rw [hS15]; exact (pup_n (ne_cells hf10 hf6 (by nofun))).trans hf10
                refine p_callv (va_runV (As := [.ref sl, .ref su]) (rest := []) C.fix (e_X11_send0 l D cy S13 H.size x sl su ch ln sl mk co ca su lt lk mb col con sul sun cor0 cob0 sur0 sub0 (va_up (va_up (va_up (va_up (va_up (fun _ => none) 0 (some cor0)) 1 (some cor1)) 2 (some cor2)) 3 (some cor3)) 4 (some cor4)) (va_up (va_up (va_up (va_up (va_up (fun _ => none) 0 (some sur0)) 1 (some sur1)) 2 (some sur2)) 3 (some sur3)) 4 (some sur4)) (fun _ => 0) (fun _ => 0) sg 0 1 (nI qN) (nI i) (nI 0) qN i 0 0 hL18 hf19 hL22 hf23 hL26 hf27 hL30 hf31 hL16 hf17 hL34 hf35 hL38 hf39 hL42 hf43 hL46 hf47 hL50 hf51 hL54 hf55 hL56 hf57 hL58 hf59 hne_cob0_sub0 hne_cor0_sur0 hne_mk_sur0 hne_mb_sub0 (by first | assumption | rfl | simp [va_up]) (by first | assumption | rfl | simp [va_up]) (by first | assumption | exact (fun _ => Nat.zero_le 2) | exact rnum_le (fun _ => Nat.zero_le 2) | exact rcop_le (by first | assumption | exact (fun _ => Nat.zero_le 2)) (by first | assumption | exact (fun _ => Nat.zero_le 2)) | exact rharm_le (rcop_le (by first | assumption | exact (fun _ => Nat.zero_le 2)) (by first | assumption | exact (fun _ => Nat.zero_le 2))) | exact rturn_le (fun _ => Nat.zero_le 2)) (by first | assumption | exact (fun _ => Nat.zero_le 2) | exact rnum_le (fun _ => Nat.zero_le 2) | exact rcop_le (by first | assumption | exact (fun _ => Nat.zero_le 2)) (by first | assumption | exact (fun _ => Nat.zero_le 2)) | exact rharm_le (rcop_le (by first | assumption | exact (fun _ => Nat.zero_le 2)) (by first | assumption | exact (fun _ => Nat.zero_le 2))) | exact rturn_le (fun _ => Nat.zero_le 2)) (by first | assumption | exact (fun _ => Nat.zero_le 2) | exact rnum_le (fun _ => Nat.zero_le 2) | exact rcop_le (by first | assumption | exact (fun _ => Nat.zero_le 2)) (by first | assumption | exact (fun _ => Nat.zero_le 2)) | exact rharm_le (rcop_le (by first | assumption | exact (fun _ => Nat.zero_le 2)) (by first | assumption | exact (fun _ => Nat.zero_le 2))) | exact rturn_le (fun _ => Nat.zero_le 2)) (by first | assumption | decide | omega) (by first | assumption | decide | omega) (by first | assumption | decide | omega) (by first | assumption | decide | omega) (by first | assumption | decide | omega) (fun h => absurd h (by decide)) (fun _ => ⟨rfl, rfl⟩) (by first | assumption | decide | omega)) (cwV 2 C.2.2.2.2.1 (gU_V mw_252 mw_253 mw_254 mw_2 (subU mw_255)) rfl rfl rfl hde_X11_meanErrors_V_1 ⟨Nat.le_of_ble_eq_true rfl, Nat.le_of_ble_eq_true rfl⟩) (p_preV C hw hL18 hf19 rfl) rfl rfl hl.1 rfl (lv_room (Nat.le_of_ble_eq_true rfl)) dX11_meanErrors_74 ⟨Nat.le_of_ble_eq_true rfl, Nat.le_of_ble_eq_true rfl⟩) hw hA (fun S60 H locs hpost hw => ?_)
                obtain ⟨wg62, hc63, hS64, hfr65, hf66, hf67⟩ := hpost
                have hL68 : sur0 ∈ S60.1 := by rw [hS64]; exact List.mem_append_left _ hL56
                have hL69 : sub0 ∈ S60.1 := by rw [hS64]; exact List.mem_append_left _ hL58
                refine lv_aload_n hx hb dX11_meanErrors_77 rfl (lv_at hl 2 rfl) ?_
                have hL70 : x ∈ S60.1 := by rw [hS64]; exact List.mem_append_left _ hL18
                have hf71 : S60.2 x = .inr (11, [.ref ch, .ref ln, .ref sl, .ref mk, .ref co, .ref ca, .ref su, .ref lt]) := (hfr65 x hL18 (ne_cells hf19 hf57 (by nofun)) (ne_cells hf19 hf59 (by nofun))).trans hf19
                refine p_get C hw (ci := 11) (Cn := RX11) (T := TX11) (N := 8) hL70 hf71 rfl hin_RX11 0 (by decide) (mU mw_17) rfl rfl dX11_meanErrors_78 ?_
                refine lv_aload_n hx hb dX11_meanErrors_81 rfl (lv_at hl 2 rfl) ?_
                refine p_get C hw (ci := 11) (Cn := RX11) (T := TX11) (N := 8) hL70 hf71 rfl hin_RX11 6 (by decide) (mU mw_32) rfl rfl dX11_meanErrors_82 ?_
                refine lv_aload_n hx hb dX11_meanErrors_85 rfl (lv_at hl 2 rfl) ?_
                refine p_get C hw (ci := 11) (Cn := RX11) (T := TX11) (N := 8) hL70 hf71 rfl hin_RX11 4 (by decide) (mU mw_30) rfl rfl dX11_meanErrors_86 ?_
                have hL72 : ch ∈ S60.1 := by rw [hS64]; exact List.mem_append_left _ hL22
                have hf73 : S60.2 ch = .inr (2, [.ref lk, .int (nI 0)]) := (hfr65 ch hL22 (ne_cells hf23 hf57 (by nofun)) (ne_cells hf23 hf59 (by nofun))).trans hf23
                refine p_callv (va_runV (As := [.ref su, .ref co]) (rest := []) C.fix (e_X1_decode0 l D cy S60 H.size ch su co lk hL72 hf73 ) (cwV 2 C.2.2.2.2.1 (gU_V mw_299 mw_300 mw_301 mw_16 (subU mw_302)) rfl rfl rfl hde_X11_meanErrors_V_2 ⟨Nat.le_of_ble_eq_true rfl, Nat.le_of_ble_eq_true rfl⟩) (p_preV C hw hL72 hf73 rfl) rfl rfl hl.1 rfl (lv_room (Nat.le_of_ble_eq_true rfl)) dX11_meanErrors_89 ⟨Nat.le_of_ble_eq_true rfl, Nat.le_of_ble_eq_true rfl⟩) hw hA (fun S74 H locs hpost hw => ?_)
                have hS_ := hpost
                subst hS_
                refine lv_iload_n hx hb dX11_meanErrors_92 rfl (lv_at hl 1 rfl) ?_
                refine lv_aload_n hx hb dX11_meanErrors_93 rfl (lv_at hl 2 rfl) ?_
                refine lv_aload_n hx hb dX11_meanErrors_94 rfl (lv_at hl 2 rfl) ?_
                refine p_get C hw (ci := 11) (Cn := RX11) (T := TX11) (N := 8) hL70 hf71 rfl hin_RX11 6 (by decide) (mU mw_32) rfl rfl dX11_meanErrors_95 ?_
                have hL76 : co ∈ S60.1 := by rw [hS64]; exact List.mem_append_left _ hL34
                have hf77 : S60.2 co = .inr (5, [.ref col, .ref con]) := (hfr65 co hL34 (ne_cells hf35 hf57 (by nofun)) (ne_cells hf35 hf59 (by nofun))).trans hf35
                have hL78 : col ∈ S60.1 := by rw [hS64]; exact List.mem_append_left _ hL38
                have hf79 : S60.2 col = aQ (cy 2) 5 (va_up (va_up (va_up (va_up (va_up (fun _ => none) 0 (some cor0)) 1 (some cor1)) 2 (some cor2)) 3 (some cor3)) 4 (some cor4)) := (hfr65 col hL38 (ne_cells hf39 hf57 (by nofun)) (ne_cells hf39 hf59 ne_QN)).trans hf39
                have hL80 : cor0 ∈ S60.1 := by rw [hS64]; exact List.mem_append_left _ hL50
                have hf81 : S60.2 cor0 = .inr (8, [.ref cob0, .int (nI 0)]) := (hfr65 cor0 hL50 hne_cor0_sur0 (ne_cells hf51 hf59 (by nofun))).trans hf51
                have hL82 : su ∈ S60.1 := by rw [hS64]; exact List.mem_append_left _ hL42
                have hf83 : S60.2 su = .inr (5, [.ref sul, .ref sun]) := (hfr65 su hL42 (ne_cells hf43 hf57 (by nofun)) (ne_cells hf43 hf59 (by nofun))).trans hf43
                have hL84 : sul ∈ S60.1 := by rw [hS64]; exact List.mem_append_left _ hL46
                have hf85 : S60.2 sul = aQ (cy 2) 5 (va_up (va_up (va_up (va_up (va_up (fun _ => none) 0 (some sur0)) 1 (some sur1)) 2 (some sur2)) 3 (some sur3)) 4 (some sur4)) := (hfr65 sul hL46 (ne_cells hf47 hf57 (by nofun)) (ne_cells hf47 hf59 ne_QN)).trans hf47
                refine p_calli (va_runV (As := [.ref su]) (rest := [.int (nI 0)]) C.fix (e_X11_errorsIn0 l D cy S60 H.size x su ch ln sl mk co ca su lt col con cor0 cor1 cor2 cor3 cor4 cob0 sul sun (va_up (va_up (va_up (va_up (va_up (fun _ => none) 0 (some sur0)) 1 (some sur1)) 2 (some sur2)) 3 (some sur3)) 4 (some sur4)) sur0 hL70 hf71 hL76 hf77 hL78 hf79 hL80 hf81 hL82 hf83 hL84 hf85 (by first | assumption | rfl | simp [va_up])) (cwV 1 C.2.2.2.2.1 (gU_V mw_931 mw_932 mw_933 mw_2 (subU mw_934)) rfl rfl rfl hde_X11_meanErrors_V_3 ⟨Nat.le_of_ble_eq_true rfl, Nat.le_of_ble_eq_true rfl⟩) (p_preV C hw hL70 hf71 rfl) rfl rfl hl.1 rfl (lv_room (Nat.le_of_ble_eq_true rfl)) dX11_meanErrors_98 ⟨Nat.le_of_ble_eq_true rfl, Nat.le_of_ble_eq_true rfl⟩) hw hA (fun r87 S86 H locs hpost hw => ?_)
                obtain ⟨hr_, hS_⟩ := hpost
                subst hr_
                subst hS_
                refine n_ren (b := 0) rfl ?_
                refine n_iadd hx hb dX11_meanErrors_101 ?_
                refine n_ren (b := 0) (by first | rfl | omega | simp) ?_
                refine lv_istore_n (lv' := [(3, .int (nI 0)), (4, .int (nI i)), (0, .ref x), (1, .int (nI qN)), (2, .int (nI rN))]) hx hb dX11_meanErrors_102 rfl hl (by decide) rfl (fun ls hl => ?_)
                refine lv_iinc (v := (nI (i + 1))) (lv' := [(4, .int (nI (i + 1))), (3, .int (nI 0)), (0, .ref x), (1, .int (nI qN)), (2, .int (nI rN))]) hx hb dX11_meanErrors_103 hl (k := 1) rfl (by rw [show Int32.ofInt 1 = nI 1 from by decide, nI_add]) (by decide) rfl (fun ls hl => ?_)
                refine lv_goto (tgt := 47) hx hb dX11_meanErrors_106 (by decide) ?_
                have hL88 : sl ∈ S60.1 := by rw [hS64]; exact List.mem_append_left _ hL16
                have hf89 : S60.2 sl = .inr (6, [.int (nI 1), .int (nI qN), .int (nI i), .int (nI 0)]) := (hfr65 sl hL16 (ne_cells hf17 hf57 (by nofun)) (ne_cells hf17 hf59 (by nofun))).trans hf17
                exact ihloop47_1 (i + 1) 1 (nI qN) (nI i) (nI 0) wg62 (by omega) S60 H locs ls (by simp only [hS64, hS15, hS3, pup, pnew, List.append_nil, List.append_assoc, List.cons_append, List.nil_append]) (fun a_ ha_ hn_0 hn_1 hn_2 => ((hfr65 a_ (show a_ ∈ S13.1 from by rw [hS15]; exact (show a_ ∈ Sx2.1 from by rw [hS3]; exact List.mem_append_left _ ha_)) hn_1 hn_2).trans ((show S13.2 a_ = Sx2.2 a_ from by rw [hS15]; exact pup_n hn_0).trans (hfr4 a_ ha_ hn_0 hn_1 hn_2)))) hL88 hf89 hL68 hf66 hL69 hf67 (by omega) (by omega) hc63 hw (lv_sub hl [0, 1, 2, 3, 4] rfl)
          exact loop47_1 (rN + 1 - 1 + 1) 1 0 (nI 0) (nI 0) (nI 0) (fun _ => 0) (by omega) S s.heap [] ls (List.append_nil _).symm (fun a_ ha_ hn_0 hn_1 hn_2 => rfl) hL_sl hf_sl hL_sur0 hf_sur0 hL_sub0 hf_sub0 (by omega) (by omega) (fun _ => Nat.zero_le 2) hw (lv_sub hl [0, 1, 2, 3, 4] rfl)
        · skip
          exact x_throw (y := yX11_meanErrors) C hflags hw hE (kS := 28) (kT := 0) mw_119 mw_120 tIA_x rfl rfl (by decide) tIA_n tIA_g hl.1.symm dX11_meanErrors_32 dX11_meanErrors_35 dX11_meanErrors_36 dX11_meanErrors_38 dX11_meanErrors_41 htab (Nat.le_of_ble_eq_true rfl) (Nat.le_of_ble_eq_true rfl) (Nat.le_of_ble_eq_true rfl) (Nat.le_of_ble_eq_true rfl) hlocks (⟨rfl, (fun h => by unfold okE at h; omega), rfl⟩) (Nat.le_of_ble_eq_true rfl) (Nat.le_of_ble_eq_true rfl)
    · skip
      exact x_throw (y := yX11_meanErrors) C hflags hw hE (kS := 27) (kT := 0) mw_119 mw_120 tIA_x rfl rfl (by decide) tIA_n tIA_g hl.1.symm dX11_meanErrors_11 dX11_meanErrors_14 dX11_meanErrors_15 dX11_meanErrors_17 dX11_meanErrors_20 htab (Nat.le_of_ble_eq_true rfl) (Nat.le_of_ble_eq_true rfl) (Nat.le_of_ble_eq_true rfl) (Nat.le_of_ble_eq_true rfl) hlocks (⟨rfl, (fun h => by unfold okE at h; omega), rfl⟩) (Nat.le_of_ble_eq_true rfl) (Nat.le_of_ble_eq_true rfl)
