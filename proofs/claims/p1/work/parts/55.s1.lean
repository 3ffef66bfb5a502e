theorem lc_self (a : Int64) : lg_cmp a a = 0 := by unfold lg_cmp; simp
theorem lc_upd (f : Nat → Int64) (v : Int64) : lg_cmp (vp_updL f 0 v 0) v = 0 := by
  rw [show vp_updL f 0 v 0 = v from by simp [vp_updL]]; exact lc_self v
theorem dc_self : Op.cmpValue (FP.dcmp FP.dconst0 FP.dconst0) .l = 0 := by decide +kernel
theorem dc_upd {f : Nat → UInt64} : Op.cmpValue (FP.dcmp (vf_upd f 0 FP.dconst0 0) FP.dconst0) .l = 0 := by
  rw [show vf_upd f 0 FP.dconst0 0 = FP.dconst0 from by simp [vf_upd]]; exact dc_self
theorem dc_upd2 {f : Nat → UInt64} : Op.cmpValue (FP.dcmp (vf_upd f 0 FP.dconst0 0) (vf_upd f 0 FP.dconst0 0)) .l = 0 := by
  rw [show vf_upd f 0 FP.dconst0 0 = FP.dconst0 from by simp [vf_upd]]; exact dc_self
theorem hde_law_164_S_0 : yL_write.cls ≠ "java/lang/invoke/MethodHandle" ∧ yL_write.cls ≠ "java/lang/invoke/VarHandle" ∧ (parseMethodDescriptor yL_write.desc).map (fun d => d.parameters.length) = some 4 := by decide +kernel
theorem hde_law_164_V_1 : yX13_write.cls = RX13 ∧ yX13_write.cls ≠ "java/lang/invoke/MethodHandle" ∧ yX13_write.cls ≠ "java/lang/invoke/VarHandle" ∧ (parseMethodDescriptor yX13_write.desc).map (fun d => d.parameters.length) = some 2 := by decide +kernel
theorem hde_law_164_V_2 : yX13_thrown.cls = RX13 ∧ yX13_thrown.cls ≠ "java/lang/invoke/MethodHandle" ∧ yX13_thrown.cls ≠ "java/lang/invoke/VarHandle" ∧ (parseMethodDescriptor yX13_thrown.desc).map (fun d => d.parameters.length) = some 0 := by decide +kernel
set_option maxHeartbeats 8000000 in
set_option maxRecDepth 100000 in
theorem e_law_164 {p : Program} {e : Env} {s : State} {m : MethodId} {below : List Frame} {meth : Method} {c : Code} (l : Launch) (hflags : l.stackTraces = false) (D : va_G) (cy : Nat → ClassId) (ed : Nat) {b : Nat} {xs : Nat → Int32} {Q : State → Prop} {S0 : pS} {cw : Cond} (C : pC p s m #[Value.ref b] c code 10 RL (cw :: lwU) D cy) (hE : eK (pA S0 s.heap.size) ed s s.heap) (hA : ∀ q, s.heap.size ≤ q → pA S0 s.heap.size q) (hXs : va_X b 7 xs s s.heap) (hbl : b < s.heap.size) (hbA : ¬ pA S0 s.heap.size b) (S : pS) (H : Heap) (locs : List Loc) (ls : Array Slot) (x : Nat) (mm : Nat) (jo : Nat) (dd : Nat) (ch : Nat) (ln : Nat) (sl : Nat) (mk : Nat) (co : Nat) (ca : Nat) (su : Nat) (lt : Nat) (lk : Nat) (mb : Nat) (col : Nat) (con : Nat) (cor0 : Nat) (cor1 : Nat) (cor2 : Nat) (cor3 : Nat) (cor4 : Nat) (cob0 : Nat) (cal : Nat) (can : Nat) (car0 : Nat) (car1 : Nat) (car2 : Nat) (car3 : Nat) (car4 : Nat) (cab0 : Nat) (me : Nat) (sg : Nat) (cn : Nat) (im : Nat) (hL_x : x ∈ S.1) (hf_x : S.2 x = .inr (11, [.ref ch, .ref ln, .ref sl, .ref mk, .ref co, .ref ca, .ref su, .ref lt])) (hL_ch : ch ∈ S.1) (hf_ch : S.2 ch = .inr (2, [.ref lk, .int (nI 0)])) (hL_ln : ln ∈ S.1) (hf_ln : S.2 ln = .inr (6, [.int (nI 0), .int (nI 0), .int (nI 0), .int (nI 0)])) (hL_mk : mk ∈ S.1) (hf_mk : S.2 mk = .inr (8, [.ref mb, .int (nI 320)])) (hL_mb : mb ∈ S.1) (hf_mb : S.2 mb = aN (cy 0) 320 (fun _ => 0)) (hL_co : co ∈ S.1) (hf_co : S.2 co = .inr (5, [.ref col, .ref con])) (hL_col : col ∈ S.1) (hf_col : S.2 col = aQ (cy 2) 5 (va_up (va_up (va_up (va_up (va_up (fun _ => none) 0 (some cor0)) 1 (some cor1)) 2 (some cor2)) 3 (some cor3)) 4 (some cor4))) (hL_cor0 : cor0 ∈ S.1) (hf_cor0 : S.2 cor0 = .inr (8, [.ref cob0, .int (nI 0)])) (hL_cob0 : cob0 ∈ S.1) (hf_cob0 : S.2 cob0 = aN (cy 0) 32 (fun _ => 0)) (hL_ca : ca ∈ S.1) (hf_ca : S.2 ca = .inr (5, [.ref cal, .ref can])) (hL_cal : cal ∈ S.1) (hf_cal : S.2 cal = aQ (cy 2) 5 (va_up (va_up (va_up (va_up (va_up (fun _ => none) 0 (some car0)) 1 (some car1)) 2 (some car2)) 3 (some car3)) 4 (some car4))) (hL_car0 : car0 ∈ S.1) (hf_car0 : S.2 car0 = .inr (8, [.ref cab0, .int (nI 0)])) (hL_cab0 : cab0 ∈ S.1) (hf_cab0 : S.2 cab0 = aN (cy 0) 32 (fun _ => 0)) (hL_mm : mm ∈ S.1) (hf_mm : S.2 mm = .inr (13, [.int (nI 0), .ref me, .ref sg, .ref cn, .ref im])) (hL_me : me ∈ S.1) (hf_me : S.2 me = .inl (cy 0, 0, .inl (fun _ => 0))) (hL_sg : sg ∈ S.1) (hf_sg : S.2 sg = .inr (0, [.int (nI 0), .ref ed, .int (nI 0)])) (hL_jo : jo ∈ S.1) (hf_jo : S.2 jo = .inl (cy 6, 1, .inr (.inl (fun _ => 0)))) (hne_mk_cor0 : mk ≠ cor0) (hne_mb_cob0 : mb ≠ cob0) (hne_car0_cor0 : car0 ≠ cor0) (hne_cab0_cob0 : cab0 ≠ cob0) (hne_mk_car0 : mk ≠ car0) (hne_mb_cab0 : mb ≠ cab0) (hne_jo_cob0 : jo ≠ cob0) (hne_jo_cab0 : jo ≠ cab0) (hne_me_cob0 : me ≠ cob0) (hne_me_cab0 : me ≠ cab0) (hne_me_jo : me ≠ jo) (hw : pW D (pA S0 s.heap.size) s.heap S H locs) (hl : lv_has ls 10 [(5, .int (nI 0)), (4, .ref dd), (3, .ref jo), (2, .ref mm), (1, .ref x), (0, .ref b)]) (kk : ∀ (S' : pS) (H' : Heap) (locs' : List Loc) (ls' : Array Slot), pW D (pA S0 s.heap.size) s.heap S' H' locs' → lv_has ls' 10 [(5, .int (nI 0)), (0, .ref b)] → W p l e room_1 s m #[Value.ref b] below meth c H' locs' 600002 7302232 Q (F0 m 1501 ls' [])) : W p l e room_1 s m #[Value.ref b] below meth c H locs 60 5026 Q (F0 m 164 ls []) := by
  have hx := C.1
  have hb := C.2.1
  refine lv_aload_n hx hb dL_law_164 rfl (lv_at hl 4 rfl) ?_
  refine lv_aload_n hx hb dL_law_165 rfl (lv_at hl 5 rfl) ?_
  refine lv_iload hx hb dL_law_166 (lv_at hl 0 rfl) ?_
  refine lv_iconst (v := nI 1) hx hb dL_law_168 (by decide) ?_
  refine n_iadd hx hb dL_law_169 ?_
  refine n_ren (b := 1) (by first | rfl | omega | simp) ?_
  refine va_sld hx hb hXs hbl hbA hw.2.2 (i := nI 1) (show vp_in (nI 1) 7 from by unfold vp_in; decide) dL_law_170 ?_
  refine lv_aload_n hx hb dL_law_171 rfl (lv_at hl 5 rfl) ?_
  refine lv_iload hx hb dL_law_172 (lv_at hl 0 rfl) ?_
  refine lv_iconst (v := nI 2) hx hb dL_law_174 (by decide) ?_
  refine n_iadd hx hb dL_law_175 ?_
  refine n_ren (b := 2) (by first | rfl | omega | simp) ?_
  refine va_sld hx hb hXs hbl hbA hw.2.2 (i := nI 2) (show vp_in (nI 2) 7 from by unfold vp_in; decide) dL_law_176 ?_
  refine lv_aload_n hx hb dL_law_177 rfl (lv_at hl 2 rfl) ?_
  refine x_calli (vx_runSX (As := [.ref x, .int (xs (nI 1).toNatClampNeg), .int (xs (nI 2).toNatClampNeg), .ref jo]) (rest := []) C.fix (e_L_write l hflags D cy ed S H.size x jo ch ln sl mk co ca su lt lk mb col con cor0 cor1 cor2 cor3 cor4 cob0 cal can car0 car1 car2 car3 car4 cab0 (xs (nI 1).toNatClampNeg) (xs (nI 2).toNatClampNeg) (fun _ => 0) hL_x hf_x hL_ch hf_ch hL_ln hf_ln hL_mk hf_mk hL_mb hf_mb hL_co hf_co hL_col hf_col hL_cor0 hf_cor0 hL_cob0 hf_cob0 hL_ca hf_ca hL_cal hf_cal hL_car0 hf_car0 hL_cab0 hf_cab0 hL_jo hf_jo hne_mk_cor0 hne_mb_cob0 hne_car0_cor0 hne_cab0_cob0 hne_mk_car0 hne_mb_cab0 hne_jo_cob0 hne_jo_cab0) (vx_cwSW 4 C.2.2.2.2.1 (gU_S mw_109 mw_110 mw_111 (subU mw_112)) rfl rfl rfl hde_law_164_S_0 ⟨Nat.le_of_ble_eq_true rfl, Nat.le_of_ble_eq_true rfl⟩) (e_preS C hw hA hE) rfl rfl hl.1 rfl (lv_room (Nat.le_of_ble_eq_true rfl)) dL_law_178 ⟨(Nat.le_of_ble_eq_true rfl), (Nat.le_of_ble_eq_true rfl)⟩) hw hA (fun E9 ce9 q9 S1 H locs hpost hw hce9 hcv9 hcl9 => ?_) (fun r2 S1 H locs hpost hw => ?_)
  · skip
    exact hpost.elim
  rcases hpost with hpost | hpost
  · skip
    obtain ⟨hc3, hr_, hS4, hfr5, hf6⟩ := hpost
    subst hr_
    have hL7 : jo ∈ S1.1 := by rw [hS4]; exact List.mem_append_left _ hL_jo
    refine lv_istore (lv' := [(6, .int (nI 0)), (5, .int (nI 0)), (4, .ref dd), (3, .ref jo), (2, .ref mm), (1, .ref x), (0, .ref b)]) hx hb dL_law_181 hl (by decide) rfl (fun ls hl => ?_)
    refine lv_aload_n hx hb dL_law_183 rfl (lv_at hl 4 rfl) ?_
    refine lv_aload_n hx hb dL_law_184 rfl (lv_at hl 6 rfl) ?_
    refine lv_iload hx hb dL_law_185 (lv_at hl 1 rfl) ?_
    refine lv_iconst (v := nI 1) hx hb dL_law_187 (by decide) ?_
    refine n_iadd hx hb dL_law_188 ?_
    refine n_ren (b := 1) (by first | rfl | omega | simp) ?_
    refine va_sld hx hb hXs hbl hbA hw.2.2 (i := nI 1) (show vp_in (nI 1) 7 from by unfold vp_in; decide) dL_law_189 ?_
    refine lv_aload_n hx hb dL_law_190 rfl (lv_at hl 6 rfl) ?_
    refine lv_iload hx hb dL_law_191 (lv_at hl 1 rfl) ?_
    refine lv_iconst (v := nI 2) hx hb dL_law_193 (by decide) ?_
    refine n_iadd hx hb dL_law_194 ?_
    refine n_ren (b := 2) (by first | rfl | omega | simp) ?_
    refine va_sld hx hb hXs hbl hbA hw.2.2 (i := nI 2) (show vp_in (nI 2) 7 from by unfold vp_in; decide) dL_law_195 ?_
    have hL8 : mm ∈ S1.1 := by rw [hS4]; exact List.mem_append_left _ hL_mm
    have hf9 : S1.2 mm = .inr (13, [.int (nI 0), .ref me, .ref sg, .ref cn, .ref im]) := (hfr5 mm hL_mm (ne_cells hf_mm hf_cor0 (by nofun)) (ne_cells hf_mm hf_cob0 (by nofun)) (ne_cells hf_mm hf_car0 (by nofun)) (ne_cells hf_mm hf_cab0 (by nofun)) (ne_cells hf_mm hf_jo (by nofun))).trans hf_mm
    have hL10 : me ∈ S1.1 := by rw [hS4]; exact List.mem_append_left _ hL_me
    have hf11 : S1.2 me = .inl (cy 0, 0, .inl (fun _ => 0)) := (hfr5 me hL_me (ne_cells hf_me hf_cor0 (by nofun)) hne_me_cob0 (ne_cells hf_me hf_car0 (by nofun)) hne_me_cab0 hne_me_jo).trans hf_me
    have hL12 : sg ∈ S1.1 := by rw [hS4]; exact List.mem_append_left _ hL_sg
    have hf13 : S1.2 sg = .inr (0, [.int (nI 0), .ref ed, .int (nI 0)]) := (hfr5 sg hL_sg (ne_cells hf_sg hf_cor0 (by nofun)) (ne_cells hf_sg hf_cob0 (by nofun)) (ne_cells hf_sg hf_car0 (by nofun)) (ne_cells hf_sg hf_cab0 (by nofun)) (ne_cells hf_sg hf_jo (by nofun))).trans hf_sg
    refine p_calli (va_runV (As := [.int (xs (nI 1).toNatClampNeg), .int (xs (nI 2).toNatClampNeg)]) (rest := []) C.fix (e_X13_write l D cy ed S1 H.size mm me sg cn im (xs (nI 1).toNatClampNeg) (xs (nI 2).toNatClampNeg) hL8 hf9 hL10 hf11 hL12 hf13 ) (cwV 2 C.2.2.2.2.1 (gU_V mw_386 mw_387 mw_388 mw_5 (subU mw_389)) rfl rfl rfl hde_law_164_V_1 ⟨Nat.le_of_ble_eq_true rfl, Nat.le_of_ble_eq_true rfl⟩) (e_preV C hw hA hE hL8 hf9 rfl) rfl rfl hl.1 rfl (lv_room (Nat.le_of_ble_eq_true rfl)) dL_law_196 ⟨(Nat.le_of_ble_eq_true rfl), (Nat.le_of_ble_eq_true rfl)⟩) hw hA (fun r15 S14 H locs hpost hw => ?_)
    rcases hpost with hpost | hpost
    · skip
      obtain ⟨w916, nl17, hc18, hr_, hS19, hfr20, hf21⟩ := hpost
      replace hr_ := hr_.symm
      subst hr_
      have hL22 : mm ∈ S14.1 := by rw [hS19]; exact List.mem_append_left _ hL8
      refine lv_istore (lv' := [(7, .int (xs (nI 2).toNatClampNeg)), (6, .int (nI 0)), (5, .int (nI 0)), (4, .ref dd), (3, .ref jo), (2, .ref mm), (1, .ref x), (0, .ref b)]) hx hb dL_law_199 hl (by decide) rfl (fun ls hl => ?_)
      refine lv_aload_n hx hb dL_law_201 rfl (lv_at hl 5 rfl) ?_
      refine p_calli (va_runV (As := []) (rest := []) C.fix (e_X13_thrown l D cy S14 H.size mm w916 sg cn im 0 hL22 hf21 ) (cwV 0 C.2.2.2.2.1 (gU_V mw_544 mw_545 mw_546 mw_5 (subU mw_547)) rfl rfl rfl hde_law_164_V_2 ⟨Nat.le_of_ble_eq_true rfl, Nat.le_of_ble_eq_true rfl⟩) (p_preV C hw hL22 hf21 rfl) rfl rfl hl.1 rfl (lv_room (Nat.le_of_ble_eq_true rfl)) dL_law_202 ⟨(Nat.le_of_ble_eq_true rfl), (Nat.le_of_ble_eq_true rfl)⟩) hw hA (fun r24 S23 H locs hpost hw => ?_)
      obtain ⟨hr_, hS_⟩ := hpost
      subst hr_
      subst hS_
      refine lv_iload hx hb dL_law_205 (lv_at hl 1 rfl) ?_
      refine n_icmp_eq (tgt := 212) hx hb (by first | decide | omega) (by first | decide | omega) dL_law_207 (by decide) (fun h_207 => ?_) (fun h_207 => ?_)
      · skip
        refine lv_iload hx hb dL_law_212 (lv_at hl 1 rfl) ?_
        refine n_if_ne (tgt := 229) hx hb (by first | decide | omega) dL_law_214 (by decide) (fun h_214 => ?_) (fun h_214 => ?_)
        · exact absurd h_214 (by first | decide | omega)
        · skip
          refine lv_aload_n hx hb dL_law_217 rfl (lv_at hl 4 rfl) ?_
          refine lv_iconst (v := nI 0) hx hb dL_law_218 (by decide) ?_
          have hL25 : jo ∈ S14.1 := by rw [hS19]; exact List.mem_append_left _ hL7
          have hf26 : S14.2 jo = .inl (cy 6, 1, .inr (.inl (vp_updL (fun _ => 0) 0 ((xs (nI 2).toNatClampNeg)).toInt64))) := (hfr20 jo hL7 (ne_cells hf6 hf9 (by nofun))).trans hf6
          refine p_lald C hw 6 rfl hL25 hf26 (by decide) (by decide) dL_law_219 ?_
          refine lv_iload hx hb dL_law_220 (lv_at hl 0 rfl) ?_
          refine lv_i2l hx hb dL_law_222 rfl ?_
          refine W.lcmp hx hb dL_law_223 ?_
          refine x_ren (b := 0) (by first | exact lc_self _ | exact lc_upd _ _) ?_
          refine z_if_eq (tgt := 229) hx hb (show (0 : Int32).toInt = 0 from by decide) dL_law_224 (by decide) (fun h_224 => ?_) (fun h_224 => ?_)
          · skip
            refine lv_goto (tgt := 1501) hx hb dL_law_229 (by decide) ?_
            exact W.widen (k := 600002) (n := 7302232) (Nat.le_of_ble_eq_true rfl) (Nat.le_of_ble_eq_true rfl) (kk S14 H locs ls hw (lv_sub hl [2, 7] rfl))
          · exact absurd h_224 (by first | decide | omega)
      · exact absurd h_207 (by first | decide | omega)
    · skip
      obtain ⟨nl27, hc28, hr_, hS29, hfr30, hf31⟩ := hpost
      subst hr_
      have hL32 : mm ∈ S14.1 := by rw [hS29]; exact List.mem_append_left _ hL8
      refine lv_istore (lv' := [(7, .int (nI 0)), (6, .int (nI 0)), (5, .int (nI 0)), (4, .ref dd), (3, .ref jo), (2, .ref mm), (1, .ref x), (0, .ref b)]) hx hb dL_law_199 hl (by decide) rfl (fun ls hl => ?_)
      refine lv_aload_n hx hb dL_law_201 rfl (lv_at hl 5 rfl) ?_
      refine p_calli (va_runV (As := []) (rest := []) C.fix (e_X13_thrown l D cy S14 H.size mm me sg cn im 1 hL32 hf31 ) (cwV 0 C.2.2.2.2.1 (gU_V mw_544 mw_545 mw_546 mw_5 (subU mw_547)) rfl rfl rfl hde_law_164_V_2 ⟨Nat.le_of_ble_eq_true rfl, Nat.le_of_ble_eq_true rfl⟩) (p_preV C hw hL32 hf31 rfl) rfl rfl hl.1 rfl (lv_room (Nat.le_of_ble_eq_true rfl)) dL_law_202 ⟨(Nat.le_of_ble_eq_true rfl), (Nat.le_of_ble_eq_true rfl)⟩) hw hA (fun r34 S33 H locs hpost hw => ?_)
      obtain ⟨hr_, hS_⟩ := hpost
      subst hr_
      subst hS_
      refine lv_iload hx hb dL_law_205 (lv_at hl 1 rfl) ?_
      refine n_icmp_eq (tgt := 212) hx hb (by first | decide | omega) (by first | decide | omega) dL_law_207 (by decide) (fun h_207 => ?_) (fun h_207 => ?_)
      · exact absurd h_207 (by first | decide | omega)
      · skip
        refine lv_iconst (v := nI 0) hx hb dL_law_210 (by decide) ?_
        contradiction
  · skip
    obtain ⟨hc35, hr_, hS_⟩ := hpost
    subst hr_
    subst hS_
    refine lv_istore (lv' := [(6, .int (nI 1)), (5, .int (nI 0)), (4, .ref dd), (3, .ref jo), (2, .ref mm), (1, .ref x), (0, .ref b)]) hx hb dL_law_181 hl (by decide) rfl (fun ls hl => ?_)
    refine lv_aload_n hx hb dL_law_183 rfl (lv_at hl 4 rfl) ?_
    refine lv_aload_n hx hb dL_law_184 rfl (lv_at hl 6 rfl) ?_
    refine lv_iload hx hb dL_law_185 (lv_at hl 1 rfl) ?_
    refine lv_iconst (v := nI 1) hx hb dL_law_187 (by decide) ?_
    refine n_iadd hx hb dL_law_188 ?_
    refine n_ren (b := 1) (by first | rfl | omega | simp) ?_
    refine va_sld hx hb hXs hbl hbA hw.2.2 (i := nI 1) (show vp_in (nI 1) 7 from by unfold vp_in; decide) dL_law_189 ?_
    refine lv_aload_n hx hb dL_law_190 rfl (lv_at hl 6 rfl) ?_
    refine lv_iload hx hb dL_law_191 (lv_at hl 1 rfl) ?_
    refine lv_iconst (v := nI 2) hx hb dL_law_193 (by decide) ?_
    refine n_iadd hx hb dL_law_194 ?_
    refine n_ren (b := 2) (by first | rfl | omega | simp) ?_
    refine va_sld hx hb hXs hbl hbA hw.2.2 (i := nI 2) (show vp_in (nI 2) 7 from by unfold vp_in; decide) dL_law_195 ?_
    refine p_calli (va_runV (As := [.int (xs (nI 1).toNatClampNeg), .int (xs (nI 2).toNatClampNeg)]) (rest := []) C.fix (e_X13_write l D cy ed S H.size mm me sg cn im (xs (nI 1).toNatClampNeg) (xs (nI 2).toNatClampNeg) hL_mm hf_mm hL_me hf_me hL_sg hf_sg ) (cwV 2 C.2.2.2.2.1 (gU_V mw_386 mw_387 mw_388 mw_5 (subU mw_389)) rfl rfl rfl hde_law_164_V_1 ⟨Nat.le_of_ble_eq_true rfl, Nat.le_of_ble_eq_true rfl⟩) (e_preV C hw hA hE hL_mm hf_mm rfl) rfl rfl hl.1 rfl (lv_room (Nat.le_of_ble_eq_true rfl)) dL_law_196 ⟨(Nat.le_of_ble_eq_true rfl), (Nat.le_of_ble_eq_true rfl)⟩) hw hA (fun r37 S36 H locs hpost hw => ?_)
    rcases hpost with hpost | hpost
    · skip
      obtain ⟨w938, nl39, hc40, hr_, hS41, hfr42, hf43⟩ := hpost
      replace hr_ := hr_.symm
      subst hr_
      have hL44 : mm ∈ S36.1 := by rw [hS41]; exact List.mem_append_left _ hL_mm
      refine lv_istore (lv' := [(7, .int (xs (nI 2).toNatClampNeg)), (6, .int (nI 1)), (5, .int (nI 0)), (4, .ref dd), (3, .ref jo), (2, .ref mm), (1, .ref x), (0, .ref b)]) hx hb dL_law_199 hl (by decide) rfl (fun ls hl => ?_)
      refine lv_aload_n hx hb dL_law_201 rfl (lv_at hl 5 rfl) ?_
      refine p_calli (va_runV (As := []) (rest := []) C.fix (e_X13_thrown l D cy S36 H.size mm w938 sg cn im 0 hL44 hf43 ) (cwV 0 C.2.2.2.2.1 (gU_V mw_544 mw_545 mw_546 mw_5 (subU mw_547)) rfl rfl rfl hde_law_164_V_2 ⟨Nat.le_of_ble_eq_true rfl, Nat.le_of_ble_eq_true rfl⟩) (p_preV C hw hL44 hf43 rfl) rfl rfl hl.1 rfl (lv_room (Nat.le_of_ble_eq_true rfl)) dL_law_202 ⟨(Nat.le_of_ble_eq_true rfl), (Nat.le_of_ble_eq_true rfl)⟩) hw hA (fun r46 S45 H locs hpost hw => ?_)
      obtain ⟨hr_, hS_⟩ := hpost
      subst hr_
      subst hS_
      refine lv_iload hx hb dL_law_205 (lv_at hl 1 rfl) ?_
      refine n_icmp_eq (tgt := 212) hx hb (by first | decide | omega) (by first | decide | omega) dL_law_207 (by decide) (fun h_207 => ?_) (fun h_207 => ?_)
      · exact absurd h_207 (by first | decide | omega)
      · skip
        refine lv_iconst (v := nI 0) hx hb dL_law_210 (by decide) ?_
        contradiction
    · skip
      obtain ⟨nl47, hc48, hr_, hS49, hfr50, hf51⟩ := hpost
      subst hr_
      have hL52 : mm ∈ S36.1 := by rw [hS49]; exact List.mem_append_left _ hL_mm
      refine lv_istore (lv' := [(7, .int (nI 0)), (6, .int (nI 1)), (5, .int (nI 0)), (4, .ref dd), (3, .ref jo), (2, .ref mm), (1, .ref x), (0, .ref b)]) hx hb dL_law_199 hl (by decide) rfl (fun ls hl => ?_)
      refine lv_aload_n hx hb dL_law_201 rfl (lv_at hl 5 rfl) ?_
      refine p_calli (va_runV (As := []) (rest := []) C.fix (e_X13_thrown l D cy S36 H.size mm me sg cn im 1 hL52 hf51 ) (cwV 0 C.2.2.2.2.1 (gU_V mw_544 mw_545 mw_546 mw_5 (subU mw_547)) rfl rfl rfl hde_law_164_V_2 ⟨Nat.le_of_ble_eq_true rfl, Nat.le_of_ble_eq_true rfl⟩) (p_preV C hw hL52 hf51 rfl) rfl rfl hl.1 rfl (lv_room (Nat.le_of_ble_eq_true rfl)) dL_law_202 ⟨(Nat.le_of_ble_eq_true rfl), (Nat.le_of_ble_eq_true rfl)⟩) hw hA (fun r54 S53 H locs hpost hw => ?_)
      obtain ⟨hr_, hS_⟩ := hpost
      subst hr_
      subst hS_
      refine lv_iload hx hb dL_law_205 (lv_at hl 1 rfl) ?_
      refine n_icmp_eq (tgt := 212) hx hb (by first | decide | omega) (by first | decide | omega) dL_law_207 (by decide) (fun h_207 => ?_) (fun h_207 => ?_)
      · skip
        refine lv_iload hx hb dL_law_212 (lv_at hl 1 rfl) ?_
        refine n_if_ne (tgt := 229) hx hb (by first | decide | omega) dL_law_214 (by decide) (fun h_214 => ?_) (fun h_214 => ?_)
        · skip
          refine lv_goto (tgt := 1501) hx hb dL_law_229 (by decide) ?_
          exact W.widen (k := 600002) (n := 7302232) (Nat.le_of_ble_eq_true rfl) (Nat.le_of_ble_eq_true rfl) (kk S36 H locs ls hw (lv_sub hl [2, 7] rfl))
        · exact absurd h_214 (by first | decide | omega)
      · exact absurd h_207 (by first | decide | omega)

theorem hde_law_232_V_0 : yX11_clear.cls = RX11 ∧ yX11_clear.cls ≠ "java/lang/invoke/MethodHandle" ∧ yX11_clear.cls ≠ "java/lang/invoke/VarHandle" ∧ (parseMethodDescriptor yX11_clear.desc).map (fun d => d.parameters.length) = some 0 := by decide +kernel
theorem hde_law_232_V_1 : yX13_clear.cls = RX13 ∧ yX13_clear.cls ≠ "java/lang/invoke/MethodHandle" ∧ yX13_clear.cls ≠ "java/lang/invoke/VarHandle" ∧ (parseMethodDescriptor yX13_clear.desc).map (fun d => d.parameters.length) = some 0 := by decide +kernel
set_option maxHeartbeats 8000000 in
set_option maxRecDepth 100000 in
theorem e_law_232 {p : Program} {e : Env} {s : State} {m : MethodId} {below : List Frame} {meth : Method} {c : Code} (l : Launch) (hflags : l.stackTraces = false) (D : va_G) (cy : Nat → ClassId) (ed : Nat) {b : Nat} {xs : Nat → Int32} {Q : State → Prop} {S0 : pS} {cw : Cond} (C : pC p s m #[Value.ref b] c code 10 RL (cw :: lwU) D cy) (hE : eK (pA S0 s.heap.size) ed s s.heap) (hA : ∀ q, s.heap.size ≤ q → pA S0 s.heap.size q) (hXs : va_X b 7 xs s s.heap) (hbl : b < s.heap.size) (hbA : ¬ pA S0 s.heap.size b) (S : pS) (H : Heap) (locs : List Loc) (ls : Array Slot) (x : Nat) (mm : Nat) (jo : Nat) (dd : Nat) (ch : Nat) (ln : Nat) (sl : Nat) (mk : Nat) (co : Nat) (ca : Nat) (su : Nat) (lt : Nat) (lk : Nat) (mb : Nat) (col : Nat) (con : Nat) (cor0 : Nat) (cor1 : Nat) (cor2 : Nat) (cor3 : Nat) (cor4 : Nat) (cob0 : Nat) (cal : Nat) (can : Nat) (car0 : Nat) (car1 : Nat) (car2 : Nat) (car3 : Nat) (car4 : Nat) (cab0 : Nat) (me : Nat) (sg : Nat) (cn : Nat) (im : Nat) (hL_x : x ∈ S.1) (hf_x : S.2 x = .inr (11, [.ref ch, .ref ln, .ref sl, .ref mk, .ref co, .ref ca, .ref su, .ref lt])) (hL_ch : ch ∈ S.1) (hf_ch : S.2 ch = .inr (2, [.ref lk, .int (nI 0)])) (hL_ln : ln ∈ S.1) (hf_ln : S.2 ln = .inr (6, [.int (nI 0), .int (nI 0), .int (nI 0), .int (nI 0)])) (hL_mk : mk ∈ S.1) (hf_mk : S.2 mk = .inr (8, [.ref mb, .int (nI 320)])) (hL_mb : mb ∈ S.1) (hf_mb : S.2 mb = aN (cy 0) 320 (fun _ => 0)) (hL_co : co ∈ S.1) (hf_co : S.2 co = .inr (5, [.ref col, .ref con])) (hL_col : col ∈ S.1) (hf_col : S.2 col = aQ (cy 2) 5 (va_up (va_up (va_up (va_up (va_up (fun _ => none) 0 (some cor0)) 1 (some cor1)) 2 (some cor2)) 3 (some cor3)) 4 (some cor4))) (hL_cor0 : cor0 ∈ S.1) (hf_cor0 : S.2 cor0 = .inr (8, [.ref cob0, .int (nI 0)])) (hL_cob0 : cob0 ∈ S.1) (hf_cob0 : S.2 cob0 = aN (cy 0) 32 (fun _ => 0)) (hL_ca : ca ∈ S.1) (hf_ca : S.2 ca = .inr (5, [.ref cal, .ref can])) (hL_cal : cal ∈ S.1) (hf_cal : S.2 cal = aQ (cy 2) 5 (va_up (va_up (va_up (va_up (va_up (fun _ => none) 0 (some car0)) 1 (some car1)) 2 (some car2)) 3 (some car3)) 4 (some car4))) (hL_car0 : car0 ∈ S.1) (hf_car0 : S.2 car0 = .inr (8, [.ref cab0, .int (nI 0)])) (hL_cab0 : cab0 ∈ S.1) (hf_cab0 : S.2 cab0 = aN (cy 0) 32 (fun _ => 0)) (hL_mm : mm ∈ S.1) (hf_mm : S.2 mm = .inr (13, [.int (nI 0), .ref me, .ref sg, .ref cn, .ref im])) (hL_me : me ∈ S.1) (hf_me : S.2 me = .inl (cy 0, 0, .inl (fun _ => 0))) (hne_cob0_cab0 : cob0 ≠ cab0) (hne_cor0_car0 : cor0 ≠ car0) (hne_mk_car0 : mk ≠ car0) (hne_mb_cab0 : mb ≠ cab0) (hne_me_cab0 : me ≠ cab0) (hw : pW D (pA S0 s.heap.size) s.heap S H locs) (hl : lv_has ls 10 [(5, .int (nI 0)), (4, .ref dd), (3, .ref jo), (2, .ref mm), (1, .ref x), (0, .ref b)]) (kk : ∀ (S' : pS) (H' : Heap) (locs' : List Loc) (ls' : Array Slot), pW D (pA S0 s.heap.size) s.heap S' H' locs' → lv_has ls' 10 [(5, .int (nI 0)), (0, .ref b)] → W p l e room_1 s m #[Value.ref b] below meth c H' locs' 600002 7302232 Q (F0 m 1501 ls' [])) : W p l e room_1 s m #[Value.ref b] below meth c H locs 60 5026 Q (F0 m 232 ls []) := by
  have hx := C.1
  have hb := C.2.1
  refine lv_aload_n hx hb dL_law_232 rfl (lv_at hl 4 rfl) ?_
  refine p_calli (va_runV (As := []) (rest := []) C.fix (e_X11_clear l D cy S H.size x ch ln sl mk co ca su lt lk mb col con cor0 cor1 cor2 cor3 cor4 cob0 cal can car0 car1 car2 car3 car4 cab0 hL_x hf_x hL_ch hf_ch hL_ln hf_ln hL_mk hf_mk hL_mb hf_mb hL_co hf_co hL_col hf_col hL_cor0 hf_cor0 hL_cob0 hf_cob0 hL_ca hf_ca hL_cal hf_cal hL_car0 hf_car0 hL_cab0 hf_cab0 hne_cob0_cab0 hne_cor0_car0 hne_mk_car0 hne_mb_cab0) (cwV 0 C.2.2.2.2.1 (gU_V mw_548 mw_549 mw_550 mw_2 (subU mw_551)) rfl rfl rfl hde_law_232_V_0 ⟨Nat.le_of_ble_eq_true rfl, Nat.le_of_ble_eq_true rfl⟩) (p_preV C hw hL_x hf_x rfl) rfl rfl hl.1 rfl (lv_room (Nat.le_of_ble_eq_true rfl)) dL_law_233 ⟨(Nat.le_of_ble_eq_true rfl), (Nat.le_of_ble_eq_true rfl)⟩) hw hA (fun r2 S1 H locs hpost hw => ?_)
  obtain ⟨hr_, hS3, hfr4⟩ := hpost
  subst hr_
  refine lv_aload_n hx hb dL_law_236 rfl (lv_at hl 3 rfl) ?_
  have hL5 : mm ∈ S1.1 := by rw [hS3]; exact List.mem_append_left _ hL_mm
  have hf6 : S1.2 mm = .inr (13, [.int (nI 0), .ref me, .ref sg, .ref cn, .ref im]) := (hfr4 mm hL_mm (ne_cells hf_mm hf_car0 (by nofun)) (ne_cells hf_mm hf_cab0 (by nofun))).trans hf_mm
  have hL7 : me ∈ S1.1 := by rw [hS3]; exact List.mem_append_left _ hL_me
  have hf8 : S1.2 me = .inl (cy 0, 0, .inl (fun _ => 0)) := (hfr4 me hL_me (ne_cells hf_me hf_car0 (by nofun)) hne_me_cab0).trans hf_me
  refine p_calli (va_runV (As := []) (rest := [.int (nI 0)]) C.fix (e_X13_clear l D cy ed S1 H.size mm me sg cn im hL5 hf6 hL7 hf8 ) (cwV 0 C.2.2.2.2.1 (gU_V mw_552 mw_553 mw_554 mw_5 (subU mw_555)) rfl rfl rfl hde_law_232_V_1 ⟨Nat.le_of_ble_eq_true rfl, Nat.le_of_ble_eq_true rfl⟩) (e_preV C hw hA hE hL5 hf6 rfl) rfl rfl hl.1 rfl (lv_room (Nat.le_of_ble_eq_true rfl)) dL_law_237 ⟨(Nat.le_of_ble_eq_true rfl), (Nat.le_of_ble_eq_true rfl)⟩) hw hA (fun r10 S9 H locs hpost hw => ?_)
  obtain ⟨w911, nl12, hr_, hS13, hfr14, hf15⟩ := hpost
  subst hr_
  have hL16 : mm ∈ S9.1 := by rw [hS13]; exact List.mem_append_left _ hL5
  refine n_icmp_eq (tgt := 1501) hx hb (by first | decide | omega) (by first | decide | omega) dL_law_240 (by decide) (fun h_240 => ?_) (fun h_240 => ?_)
  · skip
    exact W.widen (k := 600002) (n := 7302232) (Nat.le_of_ble_eq_true rfl) (Nat.le_of_ble_eq_true rfl) (kk S9 H locs ls hw (lv_sub hl [0, 5] rfl))
  · exact absurd h_240 (by first | decide | omega)

theorem hde_law_245_S_0 : yL_repeat.cls ≠ "java/lang/invoke/MethodHandle" ∧ yL_repeat.cls ≠ "java/lang/invoke/VarHandle" ∧ (parseMethodDescriptor yL_repeat.desc).map (fun d => d.parameters.length) = some 3 := by decide +kernel
theorem hde_law_245_V_1 : yX13_repeat.cls = RX13 ∧ yX13_repeat.cls ≠ "java/lang/invoke/MethodHandle" ∧ yX13_repeat.cls ≠ "java/lang/invoke/VarHandle" ∧ (parseMethodDescriptor yX13_repeat.desc).map (fun d => d.parameters.length) = some 1 := by decide +kernel
theorem hde_law_245_V_2 : yX13_thrown.cls = RX13 ∧ yX13_thrown.cls ≠ "java/lang/invoke/MethodHandle" ∧ yX13_thrown.cls ≠ "java/lang/invoke/VarHandle" ∧ (parseMethodDescriptor yX13_thrown.desc).map (fun d => d.parameters.length) = some 0 := by decide +kernel
set_option maxHeartbeats 8000000 in
set_option maxRecDepth 100000 in
theorem e_law_245 {p : Program} {e : Env} {s : State} {m : MethodId} {below : List Frame} {meth : Method} {c : Code} (l : Launch) (hflags : l.stackTraces = false) (D : va_G) (cy : Nat → ClassId) (ed : Nat) {b : Nat} {xs : Nat → Int32} {Q : State → Prop} {S0 : pS} {cw : Cond} (C : pC p s m #[Value.ref b] c code 10 RL (cw :: lwU) D cy) (hE : eK (pA S0 s.heap.size) ed s s.heap) (hA : ∀ q, s.heap.size ≤ q → pA S0 s.heap.size q) (hXs : va_X b 7 xs s s.heap) (hbl : b < s.heap.size) (hbA : ¬ pA S0 s.heap.size b) (S : pS) (H : Heap) (locs : List Loc) (ls : Array Slot) (x : Nat) (mm : Nat) (jo : Nat) (dd : Nat) (ch : Nat) (ln : Nat) (sl : Nat) (mk : Nat) (co : Nat) (ca : Nat) (su : Nat) (lt : Nat) (lk : Nat) (mb : Nat) (col : Nat) (con : Nat) (cor0 : Nat) (cor1 : Nat) (cor2 : Nat) (cor3 : Nat) (cor4 : Nat) (cob0 : Nat) (cob1 : Nat) (cal : Nat) (can : Nat) (car0 : Nat) (car1 : Nat) (car2 : Nat) (car3 : Nat) (car4 : Nat) (cab0 : Nat) (cab1 : Nat) (me : Nat) (sg : Nat) (cn : Nat) (im : Nat) (hL_x : x ∈ S.1) (hf_x : S.2 x = .inr (11, [.ref ch, .ref ln, .ref sl, .ref mk, .ref co, .ref ca, .ref su, .ref lt])) (hL_ch : ch ∈ S.1) (hf_ch : S.2 ch = .inr (2, [.ref lk, .int (nI 0)])) (hL_lk : lk ∈ S.1) (hf_lk : S.2 lk = aQ (cy 3) 4 (fun _ => none)) (hL_ln : ln ∈ S.1) (hf_ln : S.2 ln = .inr (6, [.int (nI 0), .int (nI 0), .int (nI 0), .int (nI 0)])) (hL_mk : mk ∈ S.1) (hf_mk : S.2 mk = .inr (8, [.ref mb, .int (nI 320)])) (hL_mb : mb ∈ S.1) (hf_mb : S.2 mb = aN (cy 0) 320 (fun _ => 0)) (hL_co : co ∈ S.1) (hf_co : S.2 co = .inr (5, [.ref col, .ref con])) (hL_col : col ∈ S.1) (hf_col : S.2 col = aQ (cy 2) 5 (va_up (va_up (va_up (va_up (va_up (fun _ => none) 0 (some cor0)) 1 (some cor1)) 2 (some cor2)) 3 (some cor3)) 4 (some cor4))) (hL_cor0 : cor0 ∈ S.1) (hf_cor0 : S.2 cor0 = .inr (8, [.ref cob0, .int (nI 0)])) (hL_cor1 : cor1 ∈ S.1) (hf_cor1 : S.2 cor1 = .inr (8, [.ref cob1, .int (nI 0)])) (hL_cob1 : cob1 ∈ S.1) (hf_cob1 : S.2 cob1 = aN (cy 0) 320 (fun _ => 0)) (hL_ca : ca ∈ S.1) (hf_ca : S.2 ca = .inr (5, [.ref cal, .ref can])) (hL_cal : cal ∈ S.1) (hf_cal : S.2 cal = aQ (cy 2) 5 (va_up (va_up (va_up (va_up (va_up (fun _ => none) 0 (some car0)) 1 (some car1)) 2 (some car2)) 3 (some car3)) 4 (some car4))) (hL_car0 : car0 ∈ S.1) (hf_car0 : S.2 car0 = .inr (8, [.ref cab0, .int (nI 0)])) (hL_cab0 : cab0 ∈ S.1) (hf_cab0 : S.2 cab0 = aN (cy 0) 32 (fun _ => 0)) (hL_car1 : car1 ∈ S.1) (hf_car1 : S.2 car1 = .inr (8, [.ref cab1, .int (nI 0)])) (hL_cab1 : cab1 ∈ S.1) (hf_cab1 : S.2 cab1 = aN (cy 0) 320 (fun _ => 0)) (hL_mm : mm ∈ S.1) (hf_mm : S.2 mm = .inr (13, [.int (nI 0), .ref me, .ref sg, .ref cn, .ref im])) (hL_me : me ∈ S.1) (hf_me : S.2 me = .inl (cy 0, 0, .inl (fun _ => 0))) (hL_sg : sg ∈ S.1) (hf_sg : S.2 sg = .inr (0, [.int (nI 0), .ref ed, .int (nI 0)])) (hL_jo : jo ∈ S.1) (hf_jo : S.2 jo = .inl (cy 6, 1, .inr (.inl (fun _ => 0)))) (hne_col_lk : col ≠ lk) (hne_cal_lk : cal ≠ lk) (hne_cor0_cor1 : cor0 ≠ cor1) (hne_mk_cor1 : mk ≠ cor1) (hne_car1_cor1 : car1 ≠ cor1) (hne_cob1_cab1 : cob1 ≠ cab1) (hne_mk_car1 : mk ≠ car1) (hne_mb_cab1 : mb ≠ cab1) (hne_cor0_car1 : cor0 ≠ car1) (hne_car0_cor1 : car0 ≠ cor1) (hne_car0_car1 : car0 ≠ car1) (hne_cab0_cab1 : cab0 ≠ cab1) (hne_jo_lk : jo ≠ lk) (hne_jo_cab1 : jo ≠ cab1) (hne_me_lk : me ≠ lk) (hne_me_cab1 : me ≠ cab1) (hne_me_jo : me ≠ jo) (hw : pW D (pA S0 s.heap.size) s.heap S H locs) (hl : lv_has ls 10 [(5, .int (nI 0)), (4, .ref dd), (3, .ref jo), (2, .ref mm), (1, .ref x), (0, .ref b)]) (kk : ∀ (S' : pS) (H' : Heap) (locs' : List Loc) (ls' : Array Slot), pW D (pA S0 s.heap.size) s.heap S' H' locs' → lv_has ls' 10 [(5, .int (nI 0)), (0, .ref b)] → W p l e room_1 s m #[Value.ref b] below meth c H' locs' 600002 7302232 Q (F0 m 1501 ls' [])) : W p l e room_1 s m #[Value.ref b] below meth c H locs 60 5026 Q (F0 m 245 ls []) := by
  have hx := C.1
  have hb := C.2.1
  refine lv_aload_n hx hb dL_law_245 rfl (lv_at hl 4 rfl) ?_
  refine lv_aload_n hx hb dL_law_246 rfl (lv_at hl 5 rfl) ?_
  refine lv_iload hx hb dL_law_247 (lv_at hl 0 rfl) ?_
  refine lv_iconst (v := nI 1) hx hb dL_law_249 (by decide) ?_
  refine n_iadd hx hb dL_law_250 ?_
  refine n_ren (b := 1) (by first | rfl | omega | simp) ?_
  refine va_sld hx hb hXs hbl hbA hw.2.2 (i := nI 1) (show vp_in (nI 1) 7 from by unfold vp_in; decide) dL_law_251 ?_
  refine lv_aload_n hx hb dL_law_252 rfl (lv_at hl 2 rfl) ?_
  refine x_calli (vx_runSX (As := [.ref x, .int (xs (nI 1).toNatClampNeg), .ref jo]) (rest := []) C.fix (e_L_repeat l hflags D cy ed S H.size x jo ch ln sl mk co ca su lt lk mb col con cor0 cor1 cor2 cor3 cor4 cob0 cob1 cal can car0 car1 car2 car3 car4 cab0 cab1 (xs (nI 1).toNatClampNeg) (fun _ => 0) hL_x hf_x hL_ch hf_ch hL_lk hf_lk hL_ln hf_ln hL_mk hf_mk hL_mb hf_mb hL_co hf_co hL_col hf_col hL_cor0 hf_cor0 hL_cor1 hf_cor1 hL_cob1 hf_cob1 hL_ca hf_ca hL_cal hf_cal hL_car0 hf_car0 hL_cab0 hf_cab0 hL_car1 hf_car1 hL_cab1 hf_cab1 hL_jo hf_jo hne_col_lk hne_cal_lk hne_cor0_cor1 hne_mk_cor1 hne_car1_cor1 hne_cob1_cab1 hne_mk_car1 hne_mb_cab1 hne_cor0_car1 hne_car0_cor1 hne_car0_car1 hne_cab0_cab1 hne_jo_lk hne_jo_cab1) (vx_cwSW 3 C.2.2.2.2.1 (gU_S mw_560 mw_561 mw_111 (subU mw_562)) rfl rfl rfl hde_law_245_S_0 ⟨Nat.le_of_ble_eq_true rfl, Nat.le_of_ble_eq_true rfl⟩) (e_preS C hw hA hE) rfl rfl hl.1 rfl (lv_room (Nat.le_of_ble_eq_true rfl)) dL_law_253 ⟨(Nat.le_of_ble_eq_true rfl), (Nat.le_of_ble_eq_true rfl)⟩) hw hA (fun E9 ce9 q9 S1 H locs hpost hw hce9 hcv9 hcl9 => ?_) (fun r2 S1 H locs hpost hw => ?_)
  · skip
    exact hpost.elim
  rcases hpost with hpost | hpost
  · skip
    obtain ⟨st3, hc4, hr_, hS5, hfr6, hf7⟩ := hpost
    subst hr_
    have hq8 : st3 ∉ S.1 := p_fresh hw hS5 0 rfl
    have hL9 : jo ∈ S1.1 := by rw [hS5]; exact List.mem_append_left _ hL_jo
    refine lv_istore (lv' := [(6, .int (nI 0)), (5, .int (nI 0)), (4, .ref dd), (3, .ref jo), (2, .ref mm), (1, .ref x), (0, .ref b)]) hx hb dL_law_256 hl (by decide) rfl (fun ls hl => ?_)
    refine lv_aload_n hx hb dL_law_258 rfl (lv_at hl 4 rfl) ?_
    refine lv_aload_n hx hb dL_law_259 rfl (lv_at hl 6 rfl) ?_
    refine lv_iload hx hb dL_law_260 (lv_at hl 1 rfl) ?_
    refine lv_iconst (v := nI 1) hx hb dL_law_262 (by decide) ?_
    refine n_iadd hx hb dL_law_263 ?_
    refine n_ren (b := 1) (by first | rfl | omega | simp) ?_
    refine va_sld hx hb hXs hbl hbA hw.2.2 (i := nI 1) (show vp_in (nI 1) 7 from by unfold vp_in; decide) dL_law_264 ?_
    have hL10 : mm ∈ S1.1 := by rw [hS5]; exact List.mem_append_left _ hL_mm
    have hf11 : S1.2 mm = .inr (13, [.int (nI 0), .ref me, .ref sg, .ref cn, .ref im]) := (hfr6 mm hL_mm (ne_cells hf_mm hf_lk (by nofun)) (ne_cells hf_mm hf_ch (by nofun)) (ne_cells hf_mm hf_cor1 (by nofun)) (ne_cells hf_mm hf_car1 (by nofun)) (ne_cells hf_mm hf_cab1 (by nofun)) (ne_cells hf_mm hf_car0 (by nofun)) (ne_cells hf_mm hf_jo (by nofun))).trans hf_mm
    have hL12 : me ∈ S1.1 := by rw [hS5]; exact List.mem_append_left _ hL_me
    have hf13 : S1.2 me = .inl (cy 0, 0, .inl (fun _ => 0)) := (hfr6 me hL_me hne_me_lk (ne_cells hf_me hf_ch (by nofun)) (ne_cells hf_me hf_cor1 (by nofun)) (ne_cells hf_me hf_car1 (by nofun)) hne_me_cab1 (ne_cells hf_me hf_car0 (by nofun)) hne_me_jo).trans hf_me
    have hL14 : sg ∈ S1.1 := by rw [hS5]; exact List.mem_append_left _ hL_sg
    have hf15 : S1.2 sg = .inr (0, [.int (nI 0), .ref ed, .int (nI 0)]) := (hfr6 sg hL_sg (ne_cells hf_sg hf_lk (by nofun)) (ne_cells hf_sg hf_ch (by nofun)) (ne_cells hf_sg hf_cor1 (by nofun)) (ne_cells hf_sg hf_car1 (by nofun)) (ne_cells hf_sg hf_cab1 (by nofun)) (ne_cells hf_sg hf_car0 (by nofun)) (ne_cells hf_sg hf_jo (by nofun))).trans hf_sg
    refine p_calli (va_runV (As := [.int (xs (nI 1).toNatClampNeg)]) (rest := []) C.fix (e_X13_repeat l D cy ed S1 H.size mm me sg cn im (xs (nI 1).toNatClampNeg) hL10 hf11 hL12 hf13 hL14 hf15 ) (cwV 1 C.2.2.2.2.1 (gU_V mw_585 mw_586 mw_587 mw_5 (subU mw_588)) rfl rfl rfl hde_law_245_V_1 ⟨Nat.le_of_ble_eq_true rfl, Nat.le_of_ble_eq_true rfl⟩) (e_preV C hw hA hE hL10 hf11 rfl) rfl rfl hl.1 rfl (lv_room (Nat.le_of_ble_eq_true rfl)) dL_law_265 ⟨(Nat.le_of_ble_eq_true rfl), (Nat.le_of_ble_eq_true rfl)⟩) hw hA (fun r17 S16 H locs hpost hw => ?_)
    rcases hpost with hpost | hpost
    · skip
      obtain ⟨nl18, hc19, hr_, hS20, hfr21, hf22⟩ := hpost
      subst hr_
      have hL23 : mm ∈ S16.1 := by rw [hS20]; exact List.mem_append_left _ hL10
      refine lv_istore (lv' := [(7, .int (nI 0)), (6, .int (nI 0)), (5, .int (nI 0)), (4, .ref dd), (3, .ref jo), (2, .ref mm), (1, .ref x), (0, .ref b)]) hx hb dL_law_268 hl (by decide) rfl (fun ls hl => ?_)
      refine lv_aload_n hx hb dL_law_270 rfl (lv_at hl 5 rfl) ?_
      refine p_calli (va_runV (As := []) (rest := []) C.fix (e_X13_thrown l D cy S16 H.size mm me sg cn im 0 hL23 hf22 ) (cwV 0 C.2.2.2.2.1 (gU_V mw_544 mw_545 mw_546 mw_5 (subU mw_547)) rfl rfl rfl hde_law_245_V_2 ⟨Nat.le_of_ble_eq_true rfl, Nat.le_of_ble_eq_true rfl⟩) (p_preV C hw hL23 hf22 rfl) rfl rfl hl.1 rfl (lv_room (Nat.le_of_ble_eq_true rfl)) dL_law_271 ⟨(Nat.le_of_ble_eq_true rfl), (Nat.le_of_ble_eq_true rfl)⟩) hw hA (fun r25 S24 H locs hpost hw => ?_)
      obtain ⟨hr_, hS_⟩ := hpost
      subst hr_
      subst hS_
      refine lv_iload hx hb dL_law_274 (lv_at hl 1 rfl) ?_
      refine n_icmp_eq (tgt := 281) hx hb (by first | decide | omega) (by first | decide | omega) dL_law_276 (by decide) (fun h_276 => ?_) (fun h_276 => ?_)
      · skip
        refine lv_iload hx hb dL_law_281 (lv_at hl 1 rfl) ?_
        refine n_if_ne (tgt := 298) hx hb (by first | decide | omega) dL_law_283 (by decide) (fun h_283 => ?_) (fun h_283 => ?_)
        · exact absurd h_283 (by first | decide | omega)
        · skip
          refine lv_aload_n hx hb dL_law_286 rfl (lv_at hl 4 rfl) ?_
          refine lv_iconst (v := nI 0) hx hb dL_law_287 (by decide) ?_
          have hL26 : jo ∈ S16.1 := by rw [hS20]; exact List.mem_append_left _ hL9
          have hf27 : S16.2 jo = .inl (cy 6, 1, .inr (.inl (vp_updL (fun _ => 0) 0 ((nI 0)).toInt64))) := (hfr21 jo hL9 (ne_cells hf7 hf11 (by nofun)) (ne_cells hf7 hf15 (by nofun))).trans hf7
          refine p_lald C hw 6 rfl hL26 hf27 (by decide) (by decide) dL_law_288 ?_
          refine lv_iload hx hb dL_law_289 (lv_at hl 0 rfl) ?_
          refine lv_i2l hx hb dL_law_291 rfl ?_
          refine W.lcmp hx hb dL_law_292 ?_
          refine x_ren (b := 0) (by first | exact lc_self _ | exact lc_upd _ _) ?_
          refine z_if_eq (tgt := 298) hx hb (show (0 : Int32).toInt = 0 from by decide) dL_law_293 (by decide) (fun h_293 => ?_) (fun h_293 => ?_)
          · skip
            refine lv_goto (tgt := 1501) hx hb dL_law_298 (by decide) ?_
            exact W.widen (k := 600002) (n := 7302232) (Nat.le_of_ble_eq_true rfl) (Nat.le_of_ble_eq_true rfl) (kk S16 H locs ls hw (lv_sub hl [2, 7] rfl))
          · exact absurd h_293 (by first | decide | omega)
      · exact absurd h_276 (by first | decide | omega)
    · skip
      obtain ⟨nl28, hc29, hr_, hS30, hfr31, hf32⟩ := hpost
      subst hr_
      have hL33 : mm ∈ S16.1 := by rw [hS30]; exact List.mem_append_left _ hL10
      refine lv_istore (lv' := [(7, .int (nI 0)), (6, .int (nI 0)), (5, .int (nI 0)), (4, .ref dd), (3, .ref jo), (2, .ref mm), (1, .ref x), (0, .ref b)]) hx hb dL_law_268 hl (by decide) rfl (fun ls hl => ?_)
      refine lv_aload_n hx hb dL_law_270 rfl (lv_at hl 5 rfl) ?_
      refine p_calli (va_runV (As := []) (rest := []) C.fix (e_X13_thrown l D cy S16 H.size mm me sg cn im 1 hL33 hf32 ) (cwV 0 C.2.2.2.2.1 (gU_V mw_544 mw_545 mw_546 mw_5 (subU mw_547)) rfl rfl rfl hde_law_245_V_2 ⟨Nat.le_of_ble_eq_true rfl, Nat.le_of_ble_eq_true rfl⟩) (p_preV C hw hL33 hf32 rfl) rfl rfl hl.1 rfl (lv_room (Nat.le_of_ble_eq_true rfl)) dL_law_271 ⟨(Nat.le_of_ble_eq_true rfl), (Nat.le_of_ble_eq_true rfl)⟩) hw hA (fun r35 S34 H locs hpost hw => ?_)
      obtain ⟨hr_, hS_⟩ := hpost
      subst hr_
      subst hS_
      refine lv_iload hx hb dL_law_274 (lv_at hl 1 rfl) ?_
      refine n_icmp_eq (tgt := 281) hx hb (by first | decide | omega) (by first | decide | omega) dL_law_276 (by decide) (fun h_276 => ?_) (fun h_276 => ?_)
      · exact absurd h_276 (by first | decide | omega)
      · skip
        refine lv_iconst (v := nI 0) hx hb dL_law_279 (by decide) ?_
        contradiction
  · skip
    obtain ⟨hc36, hr_, hS_⟩ := hpost
    subst hr_
    subst hS_
    refine lv_istore (lv' := [(6, .int (nI 1)), (5, .int (nI 0)), (4, .ref dd), (3, .ref jo), (2, .ref mm), (1, .ref x), (0, .ref b)]) hx hb dL_law_256 hl (by decide) rfl (fun ls hl => ?_)
    refine lv_aload_n hx hb dL_law_258 rfl (lv_at hl 4 rfl) ?_
    refine lv_aload_n hx hb dL_law_259 rfl (lv_at hl 6 rfl) ?_
    refine lv_iload hx hb dL_law_260 (lv_at hl 1 rfl) ?_
    refine lv_iconst (v := nI 1) hx hb dL_law_262 (by decide) ?_
    refine n_iadd hx hb dL_law_263 ?_
    refine n_ren (b := 1) (by first | rfl | omega | simp) ?_
    refine va_sld hx hb hXs hbl hbA hw.2.2 (i := nI 1) (show vp_in (nI 1) 7 from by unfold vp_in; decide) dL_law_264 ?_
    refine p_calli (va_runV (As := [.int (xs (nI 1).toNatClampNeg)]) (rest := []) C.fix (e_X13_repeat l D cy ed S H.size mm me sg cn im (xs (nI 1).toNatClampNeg) hL_mm hf_mm hL_me hf_me hL_sg hf_sg ) (cwV 1 C.2.2.2.2.1 (gU_V mw_585 mw_586 mw_587 mw_5 (subU mw_588)) rfl rfl rfl hde_law_245_V_1 ⟨Nat.le_of_ble_eq_true rfl, Nat.le_of_ble_eq_true rfl⟩) (e_preV C hw hA hE hL_mm hf_mm rfl) rfl rfl hl.1 rfl (lv_room (Nat.le_of_ble_eq_true rfl)) dL_law_265 ⟨(Nat.le_of_ble_eq_true rfl), (Nat.le_of_ble_eq_true rfl)⟩) hw hA (fun r38 S37 H locs hpost hw => ?_)
    rcases hpost with hpost | hpost
    · skip
      obtain ⟨nl39, hc40, hr_, hS41, hfr42, hf43⟩ := hpost
      subst hr_
      have hL44 : mm ∈ S37.1 := by rw [hS41]; exact List.mem_append_left _ hL_mm
      refine lv_istore (lv' := [(7, .int (nI 0)), (6, .int (nI 1)), (5, .int (nI 0)), (4, .ref dd), (3, .ref jo), (2, .ref mm), (1, .ref x), (0, .ref b)]) hx hb dL_law_268 hl (by decide) rfl (fun ls hl => ?_)
      refine lv_aload_n hx hb dL_law_270 rfl (lv_at hl 5 rfl) ?_
      refine p_calli (va_runV (As := []) (rest := []) C.fix (e_X13_thrown l D cy S37 H.size mm me sg cn im 0 hL44 hf43 ) (cwV 0 C.2.2.2.2.1 (gU_V mw_544 mw_545 mw_546 mw_5 (subU mw_547)) rfl rfl rfl hde_law_245_V_2 ⟨Nat.le_of_ble_eq_true rfl, Nat.le_of_ble_eq_true rfl⟩) (p_preV C hw hL44 hf43 rfl) rfl rfl hl.1 rfl (lv_room (Nat.le_of_ble_eq_true rfl)) dL_law_271 ⟨(Nat.le_of_ble_eq_true rfl), (Nat.le_of_ble_eq_true rfl)⟩) hw hA (fun r46 S45 H locs hpost hw => ?_)
      obtain ⟨hr_, hS_⟩ := hpost
      subst hr_
      subst hS_
      refine lv_iload hx hb dL_law_274 (lv_at hl 1 rfl) ?_
      refine n_icmp_eq (tgt := 281) hx hb (by first | decide | omega) (by first | decide | omega) dL_law_276 (by decide) (fun h_276 => ?_) (fun h_276 => ?_)
      · exact absurd h_276 (by first | decide | omega)
      · skip
        refine lv_iconst (v := nI 0) hx hb dL_law_279 (by decide) ?_
        contradiction
    · skip
      obtain ⟨nl47, hc48, hr_, hS49, hfr50, hf51⟩ := hpost
      subst hr_
      have hL52 : mm ∈ S37.1 := by rw [hS49]; exact List.mem_append_left _ hL_mm
      refine lv_istore (lv' := [(7, .int (nI 0)), (6, .int (nI 1)), (5, .int (nI 0)), (4, .ref dd), (3, .ref jo), (2, .ref mm), (1, .ref x), (0, .ref b)]) hx hb dL_law_268 hl (by decide) rfl (fun ls hl => ?_)
      refine lv_aload_n hx hb dL_law_270 rfl (lv_at hl 5 rfl) ?_
      refine p_calli (va_runV (As := []) (rest := []) C.fix (e_X13_thrown l D cy S37 H.size mm me sg cn im 1 hL52 hf51 ) (cwV 0 C.2.2.2.2.1 (gU_V mw_544 mw_545 mw_546 mw_5 (subU mw_547)) rfl rfl rfl hde_law_245_V_2 ⟨Nat.le_of_ble_eq_true rfl, Nat.le_of_ble_eq_true rfl⟩) (p_preV C hw hL52 hf51 rfl) rfl rfl hl.1 rfl (lv_room (Nat.le_of_ble_eq_true rfl)) dL_law_271 ⟨(Nat.le_of_ble_eq_true rfl), (Nat.le_of_ble_eq_true rfl)⟩) hw hA (fun r54 S53 H locs hpost hw => ?_)
      obtain ⟨hr_, hS_⟩ := hpost
      subst hr_
      subst hS_
      refine lv_iload hx hb dL_law_274 (lv_at hl 1 rfl) ?_
      refine n_icmp_eq (tgt := 281) hx hb (by first | decide | omega) (by first | decide | omega) dL_law_276 (by decide) (fun h_276 => ?_) (fun h_276 => ?_)
      · skip
        refine lv_iload hx hb dL_law_281 (lv_at hl 1 rfl) ?_
        refine n_if_ne (tgt := 298) hx hb (by first | decide | omega) dL_law_283 (by decide) (fun h_283 => ?_) (fun h_283 => ?_)
        · skip
          refine lv_goto (tgt := 1501) hx hb dL_law_298 (by decide) ?_
          exact W.widen (k := 600002) (n := 7302232) (Nat.le_of_ble_eq_true rfl) (Nat.le_of_ble_eq_true rfl) (kk S37 H locs ls hw (lv_sub hl [2, 7] rfl))
        · exact absurd h_283 (by first | decide | omega)
      · exact absurd h_276 (by first | decide | omega)
