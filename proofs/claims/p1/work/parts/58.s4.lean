theorem hde_law_865_S_0 : yL_ofStage.cls ≠ "java/lang/invoke/MethodHandle" ∧ yL_ofStage.cls ≠ "java/lang/invoke/VarHandle" ∧ (parseMethodDescriptor yL_ofStage.desc).map (fun d => d.parameters.length) = some 4 := by decide +kernel
theorem hde_law_865_V_1 : yX13_ofStage.cls = RX13 ∧ yX13_ofStage.cls ≠ "java/lang/invoke/MethodHandle" ∧ yX13_ofStage.cls ≠ "java/lang/invoke/VarHandle" ∧ (parseMethodDescriptor yX13_ofStage.desc).map (fun d => d.parameters.length) = some 2 := by decide +kernel
theorem hde_law_865_V_2 : yX13_thrown.cls = RX13 ∧ yX13_thrown.cls ≠ "java/lang/invoke/MethodHandle" ∧ yX13_thrown.cls ≠ "java/lang/invoke/VarHandle" ∧ (parseMethodDescriptor yX13_thrown.desc).map (fun d => d.parameters.length) = some 0 := by decide +kernel
set_option maxHeartbeats 8000000 in
set_option maxRecDepth 100000 in
theorem e_law_865 {p : Program} {e : Env} {s : State} {m : MethodId} {below : List Frame} {meth : Method} {c : Code} (l : Launch) (hflags : l.stackTraces = false) (D : va_G) (cy : Nat → ClassId) (ed : Nat) {b : Nat} {xs : Nat → Int32} {Q : State → Prop} {S0 : pS} {cw : Cond} (C : pC p s m #[Value.ref b] c code 10 RL (cw :: lwU) D cy) (hE : eK (pA S0 s.heap.size) ed s s.heap) (hA : ∀ q, s.heap.size ≤ q → pA S0 s.heap.size q) (hXs : va_X b 7 xs s s.heap) (hbl : b < s.heap.size) (hbA : ¬ pA S0 s.heap.size b) (S : pS) (H : Heap) (locs : List Loc) (ls : Array Slot) (x : Nat) (mm : Nat) (jo : Nat) (dd : Nat) (ch : Nat) (ln : Nat) (sl : Nat) (mk : Nat) (co : Nat) (ca : Nat) (su : Nat) (lt : Nat) (lk : Nat) (me : Nat) (sg : Nat) (cn : Nat) (im : Nat) (hL_x : x ∈ S.1) (hf_x : S.2 x = .inr (11, [.ref ch, .ref ln, .ref sl, .ref mk, .ref co, .ref ca, .ref su, .ref lt])) (hL_ch : ch ∈ S.1) (hf_ch : S.2 ch = .inr (2, [.ref lk, .int (nI 0)])) (hL_mm : mm ∈ S.1) (hf_mm : S.2 mm = .inr (13, [.int (nI 0), .ref me, .ref sg, .ref cn, .ref im])) (hL_sg : sg ∈ S.1) (hf_sg : S.2 sg = .inr (0, [.int (nI 0), .ref ed, .int (nI 0)]))  (hw : pW D (pA S0 s.heap.size) s.heap S H locs) (hl : lv_has ls 10 [(5, .int (nI 0)), (4, .ref dd), (3, .ref jo), (2, .ref mm), (1, .ref x), (0, .ref b)]) (kk : ∀ (S' : pS) (H' : Heap) (locs' : List Loc) (ls' : Array Slot), pW D (pA S0 s.heap.size) s.heap S' H' locs' → lv_has ls' 10 [(5, .int (nI 0)), (0, .ref b)] → W p l e room_1 s m #[Value.ref b] below meth c H' locs' 600002 7302232 Q (F0 m 1501 ls' [])) : W p l e room_1 s m #[Value.ref b] below meth c H locs 60 5026 Q (F0 m 865 ls []) := by
  have hx := C.1
  have hb := C.2.1
  refine lv_aload_n hx hb dL_law_865 rfl (lv_at hl 4 rfl) ?_
  refine lv_aload_n hx hb dL_law_866 rfl (lv_at hl 5 rfl) ?_
  refine lv_iload hx hb dL_law_867 (lv_at hl 0 rfl) ?_
  refine lv_iconst (v := nI 1) hx hb dL_law_869 (by decide) ?_
  refine n_iadd hx hb dL_law_870 ?_
  refine n_ren (b := 1) (by first | rfl | omega | simp) ?_
  refine va_sld hx hb hXs hbl hbA hw.2.2 (i := nI 1) (show vp_in (nI 1) 7 from by unfold vp_in; decide) dL_law_871 ?_
  refine lv_aload_n hx hb dL_law_872 rfl (lv_at hl 5 rfl) ?_
  refine lv_iload hx hb dL_law_873 (lv_at hl 0 rfl) ?_
  refine lv_iconst (v := nI 2) hx hb dL_law_875 (by decide) ?_
  refine n_iadd hx hb dL_law_876 ?_
  refine n_ren (b := 2) (by first | rfl | omega | simp) ?_
  refine va_sld hx hb hXs hbl hbA hw.2.2 (i := nI 2) (show vp_in (nI 2) 7 from by unfold vp_in; decide) dL_law_877 ?_
  refine lv_aload_n hx hb dL_law_878 rfl (lv_at hl 2 rfl) ?_
  refine x_calli (vx_runSX (As := [.ref x, .int (xs (nI 1).toNatClampNeg), .int (xs (nI 2).toNatClampNeg), .ref jo]) (rest := []) C.fix (e_L_ofStage l hflags D cy ed S H.size x jo ch ln sl mk co ca su lt lk (xs (nI 1).toNatClampNeg) (xs (nI 2).toNatClampNeg) hL_x hf_x hL_ch hf_ch ) (vx_cwSW 4 C.2.2.2.2.1 (gU_S mw_760 mw_761 mw_111 (subU mw_762)) rfl rfl rfl hde_law_865_S_0 ⟨Nat.le_of_ble_eq_true rfl, Nat.le_of_ble_eq_true rfl⟩) (e_preS C hw hA hE) rfl rfl hl.1 rfl (lv_room (Nat.le_of_ble_eq_true rfl)) dL_law_879 ⟨(Nat.le_of_ble_eq_true rfl), (Nat.le_of_ble_eq_true rfl)⟩) hw hA (fun E9 ce9 q9 S1 H locs hpost hw hce9 hcv9 hcl9 => ?_) (fun r2 S1 H locs hpost hw => ?_)
  · skip
    exact hpost.elim
  obtain ⟨hr_, hS_⟩ := hpost
  subst hr_
  subst hS_
  refine lv_istore (lv' := [(6, .int (nI 1)), (5, .int (nI 0)), (4, .ref dd), (3, .ref jo), (2, .ref mm), (1, .ref x), (0, .ref b)]) hx hb dL_law_882 hl (by decide) rfl (fun ls hl => ?_)
  refine lv_aload_n hx hb dL_law_884 rfl (lv_at hl 4 rfl) ?_
  refine lv_aload_n hx hb dL_law_885 rfl (lv_at hl 6 rfl) ?_
  refine lv_iload hx hb dL_law_886 (lv_at hl 1 rfl) ?_
  refine lv_iconst (v := nI 1) hx hb dL_law_888 (by decide) ?_
  refine n_iadd hx hb dL_law_889 ?_
  refine n_ren (b := 1) (by first | rfl | omega | simp) ?_
  refine va_sld hx hb hXs hbl hbA hw.2.2 (i := nI 1) (show vp_in (nI 1) 7 from by unfold vp_in; decide) dL_law_890 ?_
  refine lv_aload_n hx hb dL_law_891 rfl (lv_at hl 6 rfl) ?_
  refine lv_iload hx hb dL_law_892 (lv_at hl 1 rfl) ?_
  refine lv_iconst (v := nI 2) hx hb dL_law_894 (by decide) ?_
  refine n_iadd hx hb dL_law_895 ?_
  refine n_ren (b := 2) (by first | rfl | omega | simp) ?_
  refine va_sld hx hb hXs hbl hbA hw.2.2 (i := nI 2) (show vp_in (nI 2) 7 from by unfold vp_in; decide) dL_law_896 ?_
  refine p_calli (va_runV (As := [.int (xs (nI 1).toNatClampNeg), .int (xs (nI 2).toNatClampNeg)]) (rest := []) C.fix (e_X13_ofStage l D cy ed S H.size mm me sg cn im (xs (nI 1).toNatClampNeg) (xs (nI 2).toNatClampNeg) hL_mm hf_mm hL_sg hf_sg ) (cwV 2 C.2.2.2.2.1 (gU_V mw_810 mw_811 mw_812 mw_5 (subU mw_813)) rfl rfl rfl hde_law_865_V_1 ⟨Nat.le_of_ble_eq_true rfl, Nat.le_of_ble_eq_true rfl⟩) (e_preV C hw hA hE hL_mm hf_mm rfl) rfl rfl hl.1 rfl (lv_room (Nat.le_of_ble_eq_true rfl)) dL_law_897 ⟨(Nat.le_of_ble_eq_true rfl), (Nat.le_of_ble_eq_true rfl)⟩) hw hA (fun r4 S3 H locs hpost hw => ?_)
  obtain ⟨nl5, hr_, hS6, hfr7, hf8⟩ := hpost
  subst hr_
  have hL9 : mm ∈ S3.1 := by rw [hS6]; exact List.mem_append_left _ hL_mm
  refine lv_istore (lv' := [(7, .int (nI 0)), (6, .int (nI 1)), (5, .int (nI 0)), (4, .ref dd), (3, .ref jo), (2, .ref mm), (1, .ref x), (0, .ref b)]) hx hb dL_law_900 hl (by decide) rfl (fun ls hl => ?_)
  refine lv_aload_n hx hb dL_law_902 rfl (lv_at hl 5 rfl) ?_
  refine p_calli (va_runV (As := []) (rest := []) C.fix (e_X13_thrown l D cy S3 H.size mm me sg cn im 1 hL9 hf8 ) (cwV 0 C.2.2.2.2.1 (gU_V mw_544 mw_545 mw_546 mw_5 (subU mw_547)) rfl rfl rfl hde_law_865_V_2 ⟨Nat.le_of_ble_eq_true rfl, Nat.le_of_ble_eq_true rfl⟩) (p_preV C hw hL9 hf8 rfl) rfl rfl hl.1 rfl (lv_room (Nat.le_of_ble_eq_true rfl)) dL_law_903 ⟨(Nat.le_of_ble_eq_true rfl), (Nat.le_of_ble_eq_true rfl)⟩) hw hA (fun r11 S10 H locs hpost hw => ?_)
  obtain ⟨hr_, hS_⟩ := hpost
  subst hr_
  subst hS_
  refine lv_iload hx hb dL_law_906 (lv_at hl 1 rfl) ?_
  refine n_icmp_eq (tgt := 913) hx hb (by first | decide | omega) (by first | decide | omega) dL_law_908 (by decide) (fun h_908 => ?_) (fun h_908 => ?_)
  · skip
    refine lv_iload hx hb dL_law_913 (lv_at hl 1 rfl) ?_
    refine n_if_ne (tgt := 930) hx hb (by first | decide | omega) dL_law_915 (by decide) (fun h_915 => ?_) (fun h_915 => ?_)
    · skip
      refine lv_goto (tgt := 1501) hx hb dL_law_930 (by decide) ?_
      exact W.widen (k := 600002) (n := 7302232) (Nat.le_of_ble_eq_true rfl) (Nat.le_of_ble_eq_true rfl) (kk S3 H locs ls hw (lv_sub hl [2, 7] rfl))
    · exact absurd h_915 (by first | decide | omega)
  · exact absurd h_908 (by first | decide | omega)

theorem hde_law_933_V_0 : yX11_sent.cls = RX11 ∧ yX11_sent.cls ≠ "java/lang/invoke/MethodHandle" ∧ yX11_sent.cls ≠ "java/lang/invoke/VarHandle" ∧ (parseMethodDescriptor yX11_sent.desc).map (fun d => d.parameters.length) = some 0 := by decide +kernel
theorem hde_law_933_V_1 : yX13_sent.cls = RX13 ∧ yX13_sent.cls ≠ "java/lang/invoke/MethodHandle" ∧ yX13_sent.cls ≠ "java/lang/invoke/VarHandle" ∧ (parseMethodDescriptor yX13_sent.desc).map (fun d => d.parameters.length) = some 0 := by decide +kernel
set_option maxHeartbeats 8000000 in
set_option maxRecDepth 100000 in
theorem e_law_933 {p : Program} {e : Env} {s : State} {m : MethodId} {below : List Frame} {meth : Method} {c : Code} (l : Launch) (hflags : l.stackTraces = false) (D : va_G) (cy : Nat → ClassId) (ed : Nat) {b : Nat} {xs : Nat → Int32} {Q : State → Prop} {S0 : pS} {cw : Cond} (C : pC p s m #[Value.ref b] c code 10 RL (cw :: lwU) D cy) (hE : eK (pA S0 s.heap.size) ed s s.heap) (hA : ∀ q, s.heap.size ≤ q → pA S0 s.heap.size q) (hXs : va_X b 7 xs s s.heap) (hbl : b < s.heap.size) (hbA : ¬ pA S0 s.heap.size b) (S : pS) (H : Heap) (locs : List Loc) (ls : Array Slot) (x : Nat) (mm : Nat) (jo : Nat) (dd : Nat) (ch : Nat) (ln : Nat) (sl : Nat) (mk : Nat) (co : Nat) (ca : Nat) (su : Nat) (lt : Nat) (lk : Nat) (col : Nat) (con : Nat) (cor0 : Nat) (cor1 : Nat) (cor2 : Nat) (cor3 : Nat) (cor4 : Nat) (cob0 : Nat) (me : Nat) (sg : Nat) (cn : Nat) (im : Nat) (hL_x : x ∈ S.1) (hf_x : S.2 x = .inr (11, [.ref ch, .ref ln, .ref sl, .ref mk, .ref co, .ref ca, .ref su, .ref lt])) (hL_ch : ch ∈ S.1) (hf_ch : S.2 ch = .inr (2, [.ref lk, .int (nI 0)])) (hL_co : co ∈ S.1) (hf_co : S.2 co = .inr (5, [.ref col, .ref con])) (hL_col : col ∈ S.1) (hf_col : S.2 col = aQ (cy 2) 5 (va_up (va_up (va_up (va_up (va_up (fun _ => none) 0 (some cor0)) 1 (some cor1)) 2 (some cor2)) 3 (some cor3)) 4 (some cor4))) (hL_cor0 : cor0 ∈ S.1) (hf_cor0 : S.2 cor0 = .inr (8, [.ref cob0, .int (nI 0)])) (hL_mm : mm ∈ S.1) (hf_mm : S.2 mm = .inr (13, [.int (nI 0), .ref me, .ref sg, .ref cn, .ref im])) (hL_me : me ∈ S.1) (hf_me : S.2 me = .inl (cy 0, 0, .inl (fun _ => 0))) (hL_sg : sg ∈ S.1) (hf_sg : S.2 sg = .inr (0, [.int (nI 0), .ref ed, .int (nI 0)]))  (hw : pW D (pA S0 s.heap.size) s.heap S H locs) (hl : lv_has ls 10 [(5, .int (nI 0)), (4, .ref dd), (3, .ref jo), (2, .ref mm), (1, .ref x), (0, .ref b)]) (kk : ∀ (S' : pS) (H' : Heap) (locs' : List Loc) (ls' : Array Slot), pW D (pA S0 s.heap.size) s.heap S' H' locs' → lv_has ls' 10 [(5, .int (nI 0)), (0, .ref b)] → W p l e room_1 s m #[Value.ref b] below meth c H' locs' 600002 7302232 Q (F0 m 1501 ls' [])) : W p l e room_1 s m #[Value.ref b] below meth c H locs 60 5026 Q (F0 m 933 ls []) := by
  have hx := C.1
  have hb := C.2.1
  refine lv_aload_n hx hb dL_law_933 rfl (lv_at hl 4 rfl) ?_
  refine p_calli (va_runV (As := []) (rest := []) C.fix (e_X11_sent l D cy S H.size x ch ln sl mk co ca su lt lk col con cor0 cor1 cor2 cor3 cor4 cob0 hL_x hf_x hL_ch hf_ch hL_co hf_co hL_col hf_col hL_cor0 hf_cor0 ) (cwV 0 C.2.2.2.2.1 (gU_V mw_880 mw_881 mw_882 mw_2 (subU mw_883)) rfl rfl rfl hde_law_933_V_0 ⟨Nat.le_of_ble_eq_true rfl, Nat.le_of_ble_eq_true rfl⟩) (p_preV C hw hL_x hf_x rfl) rfl rfl hl.1 rfl (lv_room (Nat.le_of_ble_eq_true rfl)) dL_law_934 ⟨(Nat.le_of_ble_eq_true rfl), (Nat.le_of_ble_eq_true rfl)⟩) hw hA (fun r2 S1 H locs hpost hw => ?_)
  obtain ⟨hr_, hS_⟩ := hpost
  subst hr_
  subst hS_
  refine lv_aload_n hx hb dL_law_937 rfl (lv_at hl 3 rfl) ?_
  refine p_calli (va_runV (As := []) (rest := [.int (nI 0)]) C.fix (e_X13_sent l D cy ed S H.size mm me sg cn im hL_mm hf_mm hL_me hf_me hL_sg hf_sg ) (cwV 0 C.2.2.2.2.1 (gU_V mw_884 mw_885 mw_886 mw_5 (subU mw_887)) rfl rfl rfl hde_law_933_V_1 ⟨Nat.le_of_ble_eq_true rfl, Nat.le_of_ble_eq_true rfl⟩) (e_preV C hw hA hE hL_mm hf_mm rfl) rfl rfl hl.1 rfl (lv_room (Nat.le_of_ble_eq_true rfl)) dL_law_938 ⟨(Nat.le_of_ble_eq_true rfl), (Nat.le_of_ble_eq_true rfl)⟩) hw hA (fun r4 S3 H locs hpost hw => ?_)
  obtain ⟨nl5, hr_, hS6, hfr7, hf8⟩ := hpost
  subst hr_
  have hL9 : mm ∈ S3.1 := by rw [hS6]; exact List.mem_append_left _ hL_mm
  refine n_icmp_eq (tgt := 1501) hx hb (by first | decide | omega) (by first | decide | omega) dL_law_941 (by decide) (fun h_941 => ?_) (fun h_941 => ?_)
  · skip
    exact W.widen (k := 600002) (n := 7302232) (Nat.le_of_ble_eq_true rfl) (Nat.le_of_ble_eq_true rfl) (kk S3 H locs ls hw (lv_sub hl [0, 5] rfl))
  · exact absurd h_941 (by first | decide | omega)

theorem hde_law_946_S_0 : yL_bit.cls ≠ "java/lang/invoke/MethodHandle" ∧ yL_bit.cls ≠ "java/lang/invoke/VarHandle" ∧ (parseMethodDescriptor yL_bit.desc).map (fun d => d.parameters.length) = some 4 := by decide +kernel
theorem hde_law_946_V_1 : yX13_bit.cls = RX13 ∧ yX13_bit.cls ≠ "java/lang/invoke/MethodHandle" ∧ yX13_bit.cls ≠ "java/lang/invoke/VarHandle" ∧ (parseMethodDescriptor yX13_bit.desc).map (fun d => d.parameters.length) = some 2 := by decide +kernel
theorem hde_law_946_V_2 : yX13_thrown.cls = RX13 ∧ yX13_thrown.cls ≠ "java/lang/invoke/MethodHandle" ∧ yX13_thrown.cls ≠ "java/lang/invoke/VarHandle" ∧ (parseMethodDescriptor yX13_thrown.desc).map (fun d => d.parameters.length) = some 0 := by decide +kernel
set_option maxHeartbeats 8000000 in
set_option maxRecDepth 100000 in
theorem e_law_946 {p : Program} {e : Env} {s : State} {m : MethodId} {below : List Frame} {meth : Method} {c : Code} (l : Launch) (hflags : l.stackTraces = false) (D : va_G) (cy : Nat → ClassId) (ed : Nat) {b : Nat} {xs : Nat → Int32} {Q : State → Prop} {S0 : pS} {cw : Cond} (C : pC p s m #[Value.ref b] c code 10 RL (cw :: lwU) D cy) (hE : eK (pA S0 s.heap.size) ed s s.heap) (hA : ∀ q, s.heap.size ≤ q → pA S0 s.heap.size q) (hXs : va_X b 7 xs s s.heap) (hbl : b < s.heap.size) (hbA : ¬ pA S0 s.heap.size b) (S : pS) (H : Heap) (locs : List Loc) (ls : Array Slot) (x : Nat) (mm : Nat) (jo : Nat) (dd : Nat) (ch : Nat) (ln : Nat) (sl : Nat) (mk : Nat) (co : Nat) (ca : Nat) (su : Nat) (lt : Nat) (lk : Nat) (col : Nat) (con : Nat) (cor0 : Nat) (cor1 : Nat) (cor2 : Nat) (cor3 : Nat) (cor4 : Nat) (cob0 : Nat) (me : Nat) (sg : Nat) (cn : Nat) (im : Nat) (hL_x : x ∈ S.1) (hf_x : S.2 x = .inr (11, [.ref ch, .ref ln, .ref sl, .ref mk, .ref co, .ref ca, .ref su, .ref lt])) (hL_ch : ch ∈ S.1) (hf_ch : S.2 ch = .inr (2, [.ref lk, .int (nI 0)])) (hL_co : co ∈ S.1) (hf_co : S.2 co = .inr (5, [.ref col, .ref con])) (hL_col : col ∈ S.1) (hf_col : S.2 col = aQ (cy 2) 5 (va_up (va_up (va_up (va_up (va_up (fun _ => none) 0 (some cor0)) 1 (some cor1)) 2 (some cor2)) 3 (some cor3)) 4 (some cor4))) (hL_cor0 : cor0 ∈ S.1) (hf_cor0 : S.2 cor0 = .inr (8, [.ref cob0, .int (nI 0)])) (hL_mm : mm ∈ S.1) (hf_mm : S.2 mm = .inr (13, [.int (nI 0), .ref me, .ref sg, .ref cn, .ref im])) (hL_me : me ∈ S.1) (hf_me : S.2 me = .inl (cy 0, 0, .inl (fun _ => 0))) (hL_sg : sg ∈ S.1) (hf_sg : S.2 sg = .inr (0, [.int (nI 0), .ref ed, .int (nI 0)]))  (hw : pW D (pA S0 s.heap.size) s.heap S H locs) (hl : lv_has ls 10 [(5, .int (nI 0)), (4, .ref dd), (3, .ref jo), (2, .ref mm), (1, .ref x), (0, .ref b)]) (kk : ∀ (S' : pS) (H' : Heap) (locs' : List Loc) (ls' : Array Slot), pW D (pA S0 s.heap.size) s.heap S' H' locs' → lv_has ls' 10 [(5, .int (nI 0)), (0, .ref b)] → W p l e room_1 s m #[Value.ref b] below meth c H' locs' 600002 7302232 Q (F0 m 1501 ls' [])) : W p l e room_1 s m #[Value.ref b] below meth c H locs 60 5026 Q (F0 m 946 ls []) := by
  have hx := C.1
  have hb := C.2.1
  refine lv_aload_n hx hb dL_law_946 rfl (lv_at hl 4 rfl) ?_
  refine lv_aload_n hx hb dL_law_947 rfl (lv_at hl 5 rfl) ?_
  refine lv_iload hx hb dL_law_948 (lv_at hl 0 rfl) ?_
  refine lv_iconst (v := nI 1) hx hb dL_law_950 (by decide) ?_
  refine n_iadd hx hb dL_law_951 ?_
  refine n_ren (b := 1) (by first | rfl | omega | simp) ?_
  refine va_sld hx hb hXs hbl hbA hw.2.2 (i := nI 1) (show vp_in (nI 1) 7 from by unfold vp_in; decide) dL_law_952 ?_
  refine lv_aload_n hx hb dL_law_953 rfl (lv_at hl 5 rfl) ?_
  refine lv_iload hx hb dL_law_954 (lv_at hl 0 rfl) ?_
  refine lv_iconst (v := nI 2) hx hb dL_law_956 (by decide) ?_
  refine n_iadd hx hb dL_law_957 ?_
  refine n_ren (b := 2) (by first | rfl | omega | simp) ?_
  refine va_sld hx hb hXs hbl hbA hw.2.2 (i := nI 2) (show vp_in (nI 2) 7 from by unfold vp_in; decide) dL_law_958 ?_
  refine lv_aload_n hx hb dL_law_959 rfl (lv_at hl 2 rfl) ?_
  refine x_calli (vx_runSX (As := [.ref x, .int (xs (nI 1).toNatClampNeg), .int (xs (nI 2).toNatClampNeg), .ref jo]) (rest := []) C.fix (e_L_bit l hflags D cy ed S H.size x jo ch ln sl mk co ca su lt lk col con cor0 cor1 cor2 cor3 cor4 cob0 (xs (nI 1).toNatClampNeg) (xs (nI 2).toNatClampNeg) hL_x hf_x hL_ch hf_ch hL_co hf_co hL_col hf_col hL_cor0 hf_cor0 ) (vx_cwSW 4 C.2.2.2.2.1 (gU_S mw_888 mw_889 mw_111 (subU mw_890)) rfl rfl rfl hde_law_946_S_0 ⟨Nat.le_of_ble_eq_true rfl, Nat.le_of_ble_eq_true rfl⟩) (e_preS C hw hA hE) rfl rfl hl.1 rfl (lv_room (Nat.le_of_ble_eq_true rfl)) dL_law_960 ⟨(Nat.le_of_ble_eq_true rfl), (Nat.le_of_ble_eq_true rfl)⟩) hw hA (fun E9 ce9 q9 S1 H locs hpost hw hce9 hcv9 hcl9 => ?_) (fun r2 S1 H locs hpost hw => ?_)
  · skip
    exact hpost.elim
  obtain ⟨hr_, hS_⟩ := hpost
  subst hr_
  subst hS_
  refine lv_istore (lv' := [(6, .int (nI 1)), (5, .int (nI 0)), (4, .ref dd), (3, .ref jo), (2, .ref mm), (1, .ref x), (0, .ref b)]) hx hb dL_law_963 hl (by decide) rfl (fun ls hl => ?_)
  refine lv_aload_n hx hb dL_law_965 rfl (lv_at hl 4 rfl) ?_
  refine lv_aload_n hx hb dL_law_966 rfl (lv_at hl 6 rfl) ?_
  refine lv_iload hx hb dL_law_967 (lv_at hl 1 rfl) ?_
  refine lv_iconst (v := nI 1) hx hb dL_law_969 (by decide) ?_
  refine n_iadd hx hb dL_law_970 ?_
  refine n_ren (b := 1) (by first | rfl | omega | simp) ?_
  refine va_sld hx hb hXs hbl hbA hw.2.2 (i := nI 1) (show vp_in (nI 1) 7 from by unfold vp_in; decide) dL_law_971 ?_
  refine lv_aload_n hx hb dL_law_972 rfl (lv_at hl 6 rfl) ?_
  refine lv_iload hx hb dL_law_973 (lv_at hl 1 rfl) ?_
  refine lv_iconst (v := nI 2) hx hb dL_law_975 (by decide) ?_
  refine n_iadd hx hb dL_law_976 ?_
  refine n_ren (b := 2) (by first | rfl | omega | simp) ?_
  refine va_sld hx hb hXs hbl hbA hw.2.2 (i := nI 2) (show vp_in (nI 2) 7 from by unfold vp_in; decide) dL_law_977 ?_
  refine p_calli (va_runV (As := [.int (xs (nI 1).toNatClampNeg), .int (xs (nI 2).toNatClampNeg)]) (rest := []) C.fix (e_X13_bit l D cy ed S H.size mm me sg cn im (xs (nI 1).toNatClampNeg) (xs (nI 2).toNatClampNeg) hL_mm hf_mm hL_me hf_me hL_sg hf_sg ) (cwV 2 C.2.2.2.2.1 (gU_V mw_896 mw_897 mw_898 mw_5 (subU mw_899)) rfl rfl rfl hde_law_946_V_1 ⟨Nat.le_of_ble_eq_true rfl, Nat.le_of_ble_eq_true rfl⟩) (e_preV C hw hA hE hL_mm hf_mm rfl) rfl rfl hl.1 rfl (lv_room (Nat.le_of_ble_eq_true rfl)) dL_law_978 ⟨(Nat.le_of_ble_eq_true rfl), (Nat.le_of_ble_eq_true rfl)⟩) hw hA (fun r4 S3 H locs hpost hw => ?_)
  obtain ⟨nl5, hr_, hS6, hfr7, hf8⟩ := hpost
  subst hr_
  have hL9 : mm ∈ S3.1 := by rw [hS6]; exact List.mem_append_left _ hL_mm
  refine lv_istore (lv' := [(7, .int (nI 0)), (6, .int (nI 1)), (5, .int (nI 0)), (4, .ref dd), (3, .ref jo), (2, .ref mm), (1, .ref x), (0, .ref b)]) hx hb dL_law_981 hl (by decide) rfl (fun ls hl => ?_)
  refine lv_aload_n hx hb dL_law_983 rfl (lv_at hl 5 rfl) ?_
  refine p_calli (va_runV (As := []) (rest := []) C.fix (e_X13_thrown l D cy S3 H.size mm me sg cn im 1 hL9 hf8 ) (cwV 0 C.2.2.2.2.1 (gU_V mw_544 mw_545 mw_546 mw_5 (subU mw_547)) rfl rfl rfl hde_law_946_V_2 ⟨Nat.le_of_ble_eq_true rfl, Nat.le_of_ble_eq_true rfl⟩) (p_preV C hw hL9 hf8 rfl) rfl rfl hl.1 rfl (lv_room (Nat.le_of_ble_eq_true rfl)) dL_law_984 ⟨(Nat.le_of_ble_eq_true rfl), (Nat.le_of_ble_eq_true rfl)⟩) hw hA (fun r11 S10 H locs hpost hw => ?_)
  obtain ⟨hr_, hS_⟩ := hpost
  subst hr_
  subst hS_
  refine lv_iload hx hb dL_law_987 (lv_at hl 1 rfl) ?_
  refine n_icmp_eq (tgt := 994) hx hb (by first | decide | omega) (by first | decide | omega) dL_law_989 (by decide) (fun h_989 => ?_) (fun h_989 => ?_)
  · skip
    refine lv_iload hx hb dL_law_994 (lv_at hl 1 rfl) ?_
    refine n_if_ne (tgt := 1011) hx hb (by first | decide | omega) dL_law_996 (by decide) (fun h_996 => ?_) (fun h_996 => ?_)
    · skip
      refine lv_goto (tgt := 1501) hx hb dL_law_1011 (by decide) ?_
      exact W.widen (k := 600002) (n := 7302232) (Nat.le_of_ble_eq_true rfl) (Nat.le_of_ble_eq_true rfl) (kk S3 H locs ls hw (lv_sub hl [2, 7] rfl))
    · exact absurd h_996 (by first | decide | omega)
  · exact absurd h_989 (by first | decide | omega)

theorem hde_law_1014_S_0 : yL_told.cls ≠ "java/lang/invoke/MethodHandle" ∧ yL_told.cls ≠ "java/lang/invoke/VarHandle" ∧ (parseMethodDescriptor yL_told.desc).map (fun d => d.parameters.length) = some 4 := by decide +kernel
theorem hde_law_1014_V_1 : yX13_told.cls = RX13 ∧ yX13_told.cls ≠ "java/lang/invoke/MethodHandle" ∧ yX13_told.cls ≠ "java/lang/invoke/VarHandle" ∧ (parseMethodDescriptor yX13_told.desc).map (fun d => d.parameters.length) = some 2 := by decide +kernel
theorem hde_law_1014_V_2 : yX13_thrown.cls = RX13 ∧ yX13_thrown.cls ≠ "java/lang/invoke/MethodHandle" ∧ yX13_thrown.cls ≠ "java/lang/invoke/VarHandle" ∧ (parseMethodDescriptor yX13_thrown.desc).map (fun d => d.parameters.length) = some 0 := by decide +kernel
set_option maxHeartbeats 8000000 in
set_option maxRecDepth 100000 in
theorem e_law_1014 {p : Program} {e : Env} {s : State} {m : MethodId} {below : List Frame} {meth : Method} {c : Code} (l : Launch) (hflags : l.stackTraces = false) (D : va_G) (cy : Nat → ClassId) (ed : Nat) {b : Nat} {xs : Nat → Int32} {Q : State → Prop} {S0 : pS} {cw : Cond} (C : pC p s m #[Value.ref b] c code 10 RL (cw :: lwU) D cy) (hE : eK (pA S0 s.heap.size) ed s s.heap) (hA : ∀ q, s.heap.size ≤ q → pA S0 s.heap.size q) (hXs : va_X b 7 xs s s.heap) (hbl : b < s.heap.size) (hbA : ¬ pA S0 s.heap.size b) (S : pS) (H : Heap) (locs : List Loc) (ls : Array Slot) (x : Nat) (mm : Nat) (jo : Nat) (dd : Nat) (ch : Nat) (ln : Nat) (sl : Nat) (mk : Nat) (co : Nat) (ca : Nat) (su : Nat) (lt : Nat) (col : Nat) (con : Nat) (cor0 : Nat) (cor1 : Nat) (cor2 : Nat) (cor3 : Nat) (cor4 : Nat) (cob0 : Nat) (me : Nat) (sg : Nat) (cn : Nat) (im : Nat) (hL_x : x ∈ S.1) (hf_x : S.2 x = .inr (11, [.ref ch, .ref ln, .ref sl, .ref mk, .ref co, .ref ca, .ref su, .ref lt])) (hL_co : co ∈ S.1) (hf_co : S.2 co = .inr (5, [.ref col, .ref con])) (hL_col : col ∈ S.1) (hf_col : S.2 col = aQ (cy 2) 5 (va_up (va_up (va_up (va_up (va_up (fun _ => none) 0 (some cor0)) 1 (some cor1)) 2 (some cor2)) 3 (some cor3)) 4 (some cor4))) (hL_cor0 : cor0 ∈ S.1) (hf_cor0 : S.2 cor0 = .inr (8, [.ref cob0, .int (nI 0)])) (hL_mm : mm ∈ S.1) (hf_mm : S.2 mm = .inr (13, [.int (nI 0), .ref me, .ref sg, .ref cn, .ref im])) (hL_me : me ∈ S.1) (hf_me : S.2 me = .inl (cy 0, 0, .inl (fun _ => 0)))  (hw : pW D (pA S0 s.heap.size) s.heap S H locs) (hl : lv_has ls 10 [(5, .int (nI 0)), (4, .ref dd), (3, .ref jo), (2, .ref mm), (1, .ref x), (0, .ref b)]) (kk : ∀ (S' : pS) (H' : Heap) (locs' : List Loc) (ls' : Array Slot), pW D (pA S0 s.heap.size) s.heap S' H' locs' → lv_has ls' 10 [(5, .int (nI 0)), (0, .ref b)] → W p l e room_1 s m #[Value.ref b] below meth c H' locs' 600002 7302232 Q (F0 m 1501 ls' [])) : W p l e room_1 s m #[Value.ref b] below meth c H locs 60 5026 Q (F0 m 1014 ls []) := by
  have hx := C.1
  have hb := C.2.1
  refine lv_aload_n hx hb dL_law_1014 rfl (lv_at hl 4 rfl) ?_
  refine lv_aload_n hx hb dL_law_1015 rfl (lv_at hl 5 rfl) ?_
  refine lv_iload hx hb dL_law_1016 (lv_at hl 0 rfl) ?_
  refine lv_iconst (v := nI 1) hx hb dL_law_1018 (by decide) ?_
  refine n_iadd hx hb dL_law_1019 ?_
  refine n_ren (b := 1) (by first | rfl | omega | simp) ?_
  refine va_sld hx hb hXs hbl hbA hw.2.2 (i := nI 1) (show vp_in (nI 1) 7 from by unfold vp_in; decide) dL_law_1020 ?_
  refine lv_aload_n hx hb dL_law_1021 rfl (lv_at hl 5 rfl) ?_
  refine lv_iload hx hb dL_law_1022 (lv_at hl 0 rfl) ?_
  refine lv_iconst (v := nI 2) hx hb dL_law_1024 (by decide) ?_
  refine n_iadd hx hb dL_law_1025 ?_
  refine n_ren (b := 2) (by first | rfl | omega | simp) ?_
  refine va_sld hx hb hXs hbl hbA hw.2.2 (i := nI 2) (show vp_in (nI 2) 7 from by unfold vp_in; decide) dL_law_1026 ?_
  refine lv_aload_n hx hb dL_law_1027 rfl (lv_at hl 2 rfl) ?_
  refine x_calli (vx_runSX (As := [.ref x, .int (xs (nI 1).toNatClampNeg), .int (xs (nI 2).toNatClampNeg), .ref jo]) (rest := []) C.fix (e_L_told l hflags D cy ed S H.size x jo ch ln sl mk co ca su lt col con cor0 cor1 cor2 cor3 cor4 cob0 (xs (nI 1).toNatClampNeg) (xs (nI 2).toNatClampNeg) hL_x hf_x hL_co hf_co hL_col hf_col hL_cor0 hf_cor0 ) (vx_cwSW 4 C.2.2.2.2.1 (gU_S mw_900 mw_901 mw_111 (subU mw_902)) rfl rfl rfl hde_law_1014_S_0 ⟨Nat.le_of_ble_eq_true rfl, Nat.le_of_ble_eq_true rfl⟩) (e_preS C hw hA hE) rfl rfl hl.1 rfl (lv_room (Nat.le_of_ble_eq_true rfl)) dL_law_1028 ⟨(Nat.le_of_ble_eq_true rfl), (Nat.le_of_ble_eq_true rfl)⟩) hw hA (fun E9 ce9 q9 S1 H locs hpost hw hce9 hcv9 hcl9 => ?_) (fun r2 S1 H locs hpost hw => ?_)
  · skip
    exact hpost.elim
  obtain ⟨hr_, hS_⟩ := hpost
  subst hr_
  subst hS_
  refine lv_istore (lv' := [(6, .int (nI 1)), (5, .int (nI 0)), (4, .ref dd), (3, .ref jo), (2, .ref mm), (1, .ref x), (0, .ref b)]) hx hb dL_law_1031 hl (by decide) rfl (fun ls hl => ?_)
  refine lv_aload_n hx hb dL_law_1033 rfl (lv_at hl 4 rfl) ?_
  refine lv_aload_n hx hb dL_law_1034 rfl (lv_at hl 6 rfl) ?_
  refine lv_iload hx hb dL_law_1035 (lv_at hl 1 rfl) ?_
  refine lv_iconst (v := nI 1) hx hb dL_law_1037 (by decide) ?_
  refine n_iadd hx hb dL_law_1038 ?_
  refine n_ren (b := 1) (by first | rfl | omega | simp) ?_
  refine va_sld hx hb hXs hbl hbA hw.2.2 (i := nI 1) (show vp_in (nI 1) 7 from by unfold vp_in; decide) dL_law_1039 ?_
  refine lv_aload_n hx hb dL_law_1040 rfl (lv_at hl 6 rfl) ?_
  refine lv_iload hx hb dL_law_1041 (lv_at hl 1 rfl) ?_
  refine lv_iconst (v := nI 2) hx hb dL_law_1043 (by decide) ?_
  refine n_iadd hx hb dL_law_1044 ?_
  refine n_ren (b := 2) (by first | rfl | omega | simp) ?_
  refine va_sld hx hb hXs hbl hbA hw.2.2 (i := nI 2) (show vp_in (nI 2) 7 from by unfold vp_in; decide) dL_law_1045 ?_
  refine p_calli (va_runV (As := [.int (xs (nI 1).toNatClampNeg), .int (xs (nI 2).toNatClampNeg)]) (rest := []) C.fix (e_X13_told l D cy ed S H.size mm me sg cn im (xs (nI 1).toNatClampNeg) (xs (nI 2).toNatClampNeg) hL_mm hf_mm hL_me hf_me ) (cwV 2 C.2.2.2.2.1 (gU_V mw_907 mw_908 mw_909 mw_5 (subU mw_910)) rfl rfl rfl hde_law_1014_V_1 ⟨Nat.le_of_ble_eq_true rfl, Nat.le_of_ble_eq_true rfl⟩) (e_preV C hw hA hE hL_mm hf_mm rfl) rfl rfl hl.1 rfl (lv_room (Nat.le_of_ble_eq_true rfl)) dL_law_1046 ⟨(Nat.le_of_ble_eq_true rfl), (Nat.le_of_ble_eq_true rfl)⟩) hw hA (fun r4 S3 H locs hpost hw => ?_)
  obtain ⟨nl5, hr_, hS6, hfr7, hf8⟩ := hpost
  subst hr_
  have hL9 : mm ∈ S3.1 := by rw [hS6]; exact List.mem_append_left _ hL_mm
  refine lv_istore (lv' := [(7, .int (nI 0)), (6, .int (nI 1)), (5, .int (nI 0)), (4, .ref dd), (3, .ref jo), (2, .ref mm), (1, .ref x), (0, .ref b)]) hx hb dL_law_1049 hl (by decide) rfl (fun ls hl => ?_)
  refine lv_aload_n hx hb dL_law_1051 rfl (lv_at hl 5 rfl) ?_
  refine p_calli (va_runV (As := []) (rest := []) C.fix (e_X13_thrown l D cy S3 H.size mm me sg cn im 1 hL9 hf8 ) (cwV 0 C.2.2.2.2.1 (gU_V mw_544 mw_545 mw_546 mw_5 (subU mw_547)) rfl rfl rfl hde_law_1014_V_2 ⟨Nat.le_of_ble_eq_true rfl, Nat.le_of_ble_eq_true rfl⟩) (p_preV C hw hL9 hf8 rfl) rfl rfl hl.1 rfl (lv_room (Nat.le_of_ble_eq_true rfl)) dL_law_1052 ⟨(Nat.le_of_ble_eq_true rfl), (Nat.le_of_ble_eq_true rfl)⟩) hw hA (fun r11 S10 H locs hpost hw => ?_)
  obtain ⟨hr_, hS_⟩ := hpost
  subst hr_
  subst hS_
  refine lv_iload hx hb dL_law_1055 (lv_at hl 1 rfl) ?_
  refine n_icmp_eq (tgt := 1062) hx hb (by first | decide | omega) (by first | decide | omega) dL_law_1057 (by decide) (fun h_1057 => ?_) (fun h_1057 => ?_)
  · skip
    refine lv_iload hx hb dL_law_1062 (lv_at hl 1 rfl) ?_
    refine n_if_ne (tgt := 1079) hx hb (by first | decide | omega) dL_law_1064 (by decide) (fun h_1064 => ?_) (fun h_1064 => ?_)
    · skip
      refine lv_goto (tgt := 1501) hx hb dL_law_1079 (by decide) ?_
      exact W.widen (k := 600002) (n := 7302232) (Nat.le_of_ble_eq_true rfl) (Nat.le_of_ble_eq_true rfl) (kk S3 H locs ls hw (lv_sub hl [2, 7] rfl))
    · exact absurd h_1064 (by first | decide | omega)
  · exact absurd h_1057 (by first | decide | omega)

theorem hde_law_1082_V_0 : yX11_hurt.cls = RX11 ∧ yX11_hurt.cls ≠ "java/lang/invoke/MethodHandle" ∧ yX11_hurt.cls ≠ "java/lang/invoke/VarHandle" ∧ (parseMethodDescriptor yX11_hurt.desc).map (fun d => d.parameters.length) = some 0 := by decide +kernel
theorem hde_law_1082_V_1 : yX13_hurt.cls = RX13 ∧ yX13_hurt.cls ≠ "java/lang/invoke/MethodHandle" ∧ yX13_hurt.cls ≠ "java/lang/invoke/VarHandle" ∧ (parseMethodDescriptor yX13_hurt.desc).map (fun d => d.parameters.length) = some 0 := by decide +kernel
set_option maxHeartbeats 8000000 in
set_option maxRecDepth 100000 in
theorem e_law_1082 {p : Program} {e : Env} {s : State} {m : MethodId} {below : List Frame} {meth : Method} {c : Code} (l : Launch) (hflags : l.stackTraces = false) (D : va_G) (cy : Nat → ClassId) (ed : Nat) {b : Nat} {xs : Nat → Int32} {Q : State → Prop} {S0 : pS} {cw : Cond} (C : pC p s m #[Value.ref b] c code 10 RL (cw :: lwU) D cy) (hE : eK (pA S0 s.heap.size) ed s s.heap) (hA : ∀ q, s.heap.size ≤ q → pA S0 s.heap.size q) (hXs : va_X b 7 xs s s.heap) (hbl : b < s.heap.size) (hbA : ¬ pA S0 s.heap.size b) (S : pS) (H : Heap) (locs : List Loc) (ls : Array Slot) (x : Nat) (mm : Nat) (jo : Nat) (dd : Nat) (ch : Nat) (ln : Nat) (sl : Nat) (mk : Nat) (co : Nat) (ca : Nat) (su : Nat) (lt : Nat) (lk : Nat) (col : Nat) (con : Nat) (cor0 : Nat) (cor1 : Nat) (cor2 : Nat) (cor3 : Nat) (cor4 : Nat) (cob0 : Nat) (cal : Nat) (can : Nat) (car0 : Nat) (car1 : Nat) (car2 : Nat) (car3 : Nat) (car4 : Nat) (me : Nat) (sg : Nat) (cn : Nat) (im : Nat) (hL_x : x ∈ S.1) (hf_x : S.2 x = .inr (11, [.ref ch, .ref ln, .ref sl, .ref mk, .ref co, .ref ca, .ref su, .ref lt])) (hL_ch : ch ∈ S.1) (hf_ch : S.2 ch = .inr (2, [.ref lk, .int (nI 0)])) (hL_co : co ∈ S.1) (hf_co : S.2 co = .inr (5, [.ref col, .ref con])) (hL_col : col ∈ S.1) (hf_col : S.2 col = aQ (cy 2) 5 (va_up (va_up (va_up (va_up (va_up (fun _ => none) 0 (some cor0)) 1 (some cor1)) 2 (some cor2)) 3 (some cor3)) 4 (some cor4))) (hL_cor0 : cor0 ∈ S.1) (hf_cor0 : S.2 cor0 = .inr (8, [.ref cob0, .int (nI 0)])) (hL_ca : ca ∈ S.1) (hf_ca : S.2 ca = .inr (5, [.ref cal, .ref can])) (hL_cal : cal ∈ S.1) (hf_cal : S.2 cal = aQ (cy 2) 5 (va_up (va_up (va_up (va_up (va_up (fun _ => none) 0 (some car0)) 1 (some car1)) 2 (some car2)) 3 (some car3)) 4 (some car4))) (hL_mm : mm ∈ S.1) (hf_mm : S.2 mm = .inr (13, [.int (nI 0), .ref me, .ref sg, .ref cn, .ref im])) (hL_me : me ∈ S.1) (hf_me : S.2 me = .inl (cy 0, 0, .inl (fun _ => 0))) (hL_sg : sg ∈ S.1) (hf_sg : S.2 sg = .inr (0, [.int (nI 0), .ref ed, .int (nI 0)])) (hL_cn : cn ∈ S.1) (hf_cn : S.2 cn = .inl (cy 0, 4, .inl (upd (upd (upd (upd (fun _ => 0) 0 (nI 0)) 1 (nI 0)) 2 (nI 0)) 3 (nI 1))))  (hw : pW D (pA S0 s.heap.size) s.heap S H locs) (hl : lv_has ls 10 [(5, .int (nI 0)), (4, .ref dd), (3, .ref jo), (2, .ref mm), (1, .ref x), (0, .ref b)]) (kk : ∀ (S' : pS) (H' : Heap) (locs' : List Loc) (ls' : Array Slot), pW D (pA S0 s.heap.size) s.heap S' H' locs' → lv_has ls' 10 [(5, .int (nI 0)), (0, .ref b)] → W p l e room_1 s m #[Value.ref b] below meth c H' locs' 600002 7302232 Q (F0 m 1501 ls' [])) : W p l e room_1 s m #[Value.ref b] below meth c H locs 60 5026 Q (F0 m 1082 ls []) := by
  have hx := C.1
  have hb := C.2.1
  refine lv_aload_n hx hb dL_law_1082 rfl (lv_at hl 4 rfl) ?_
  refine p_calli (va_runV (As := []) (rest := []) C.fix (e_X11_hurt l D cy S H.size x ch ln sl mk co ca su lt lk col con cor0 cor1 cor2 cor3 cor4 cob0 cal can car0 car1 car2 car3 car4 hL_x hf_x hL_ch hf_ch hL_co hf_co hL_col hf_col hL_cor0 hf_cor0 hL_ca hf_ca hL_cal hf_cal ) (cwV 0 C.2.2.2.2.1 (gU_V mw_915 mw_916 mw_917 mw_2 (subU mw_918)) rfl rfl rfl hde_law_1082_V_0 ⟨Nat.le_of_ble_eq_true rfl, Nat.le_of_ble_eq_true rfl⟩) (p_preV C hw hL_x hf_x rfl) rfl rfl hl.1 rfl (lv_room (Nat.le_of_ble_eq_true rfl)) dL_law_1083 ⟨(Nat.le_of_ble_eq_true rfl), (Nat.le_of_ble_eq_true rfl)⟩) hw hA (fun r2 S1 H locs hpost hw => ?_)
  obtain ⟨hr_, hS_⟩ := hpost
  subst hr_
  subst hS_
  refine lv_aload_n hx hb dL_law_1086 rfl (lv_at hl 3 rfl) ?_
  refine p_calli (va_runV (As := []) (rest := [.int (nI 0)]) C.fix (e_X13_hurt l D cy ed S H.size mm me sg cn im hL_mm hf_mm hL_me hf_me hL_sg hf_sg hL_cn hf_cn ) (cwV 0 C.2.2.2.2.1 (gU_V mw_919 mw_920 mw_921 mw_5 (subU mw_922)) rfl rfl rfl hde_law_1082_V_1 ⟨Nat.le_of_ble_eq_true rfl, Nat.le_of_ble_eq_true rfl⟩) (e_preV C hw hA hE hL_mm hf_mm rfl) rfl rfl hl.1 rfl (lv_room (Nat.le_of_ble_eq_true rfl)) dL_law_1087 ⟨(Nat.le_of_ble_eq_true rfl), (Nat.le_of_ble_eq_true rfl)⟩) hw hA (fun r4 S3 H locs hpost hw => ?_)
  obtain ⟨nl5, hr_, hS6, hfr7, hf8⟩ := hpost
  subst hr_
  have hL9 : mm ∈ S3.1 := by rw [hS6]; exact List.mem_append_left _ hL_mm
  refine n_icmp_eq (tgt := 1501) hx hb (by first | decide | omega) (by first | decide | omega) dL_law_1090 (by decide) (fun h_1090 => ?_) (fun h_1090 => ?_)
  · skip
    exact W.widen (k := 600002) (n := 7302232) (Nat.le_of_ble_eq_true rfl) (Nat.le_of_ble_eq_true rfl) (kk S3 H locs ls hw (lv_sub hl [0, 5] rfl))
  · exact absurd h_1090 (by first | decide | omega)

theorem hde_law_1095_V_0 : yX11_errors.cls = RX11 ∧ yX11_errors.cls ≠ "java/lang/invoke/MethodHandle" ∧ yX11_errors.cls ≠ "java/lang/invoke/VarHandle" ∧ (parseMethodDescriptor yX11_errors.desc).map (fun d => d.parameters.length) = some 0 := by decide +kernel
theorem hde_law_1095_V_1 : yX13_errors.cls = RX13 ∧ yX13_errors.cls ≠ "java/lang/invoke/MethodHandle" ∧ yX13_errors.cls ≠ "java/lang/invoke/VarHandle" ∧ (parseMethodDescriptor yX13_errors.desc).map (fun d => d.parameters.length) = some 0 := by decide +kernel
set_option maxHeartbeats 8000000 in
set_option maxRecDepth 100000 in
theorem e_law_1095 {p : Program} {e : Env} {s : State} {m : MethodId} {below : List Frame} {meth : Method} {c : Code} (l : Launch) (hflags : l.stackTraces = false) (D : va_G) (cy : Nat → ClassId) (ed : Nat) {b : Nat} {xs : Nat → Int32} {Q : State → Prop} {S0 : pS} {cw : Cond} (C : pC p s m #[Value.ref b] c code 10 RL (cw :: lwU) D cy) (hE : eK (pA S0 s.heap.size) ed s s.heap) (hA : ∀ q, s.heap.size ≤ q → pA S0 s.heap.size q) (hXs : va_X b 7 xs s s.heap) (hbl : b < s.heap.size) (hbA : ¬ pA S0 s.heap.size b) (S : pS) (H : Heap) (locs : List Loc) (ls : Array Slot) (x : Nat) (mm : Nat) (jo : Nat) (dd : Nat) (ch : Nat) (ln : Nat) (sl : Nat) (mk : Nat) (co : Nat) (ca : Nat) (su : Nat) (lt : Nat) (col : Nat) (con : Nat) (cor0 : Nat) (cor1 : Nat) (cor2 : Nat) (cor3 : Nat) (cor4 : Nat) (cob0 : Nat) (cal : Nat) (can : Nat) (car0 : Nat) (car1 : Nat) (car2 : Nat) (car3 : Nat) (car4 : Nat) (me : Nat) (sg : Nat) (cn : Nat) (im : Nat) (hL_x : x ∈ S.1) (hf_x : S.2 x = .inr (11, [.ref ch, .ref ln, .ref sl, .ref mk, .ref co, .ref ca, .ref su, .ref lt])) (hL_co : co ∈ S.1) (hf_co : S.2 co = .inr (5, [.ref col, .ref con])) (hL_col : col ∈ S.1) (hf_col : S.2 col = aQ (cy 2) 5 (va_up (va_up (va_up (va_up (va_up (fun _ => none) 0 (some cor0)) 1 (some cor1)) 2 (some cor2)) 3 (some cor3)) 4 (some cor4))) (hL_cor0 : cor0 ∈ S.1) (hf_cor0 : S.2 cor0 = .inr (8, [.ref cob0, .int (nI 0)])) (hL_ca : ca ∈ S.1) (hf_ca : S.2 ca = .inr (5, [.ref cal, .ref can])) (hL_cal : cal ∈ S.1) (hf_cal : S.2 cal = aQ (cy 2) 5 (va_up (va_up (va_up (va_up (va_up (fun _ => none) 0 (some car0)) 1 (some car1)) 2 (some car2)) 3 (some car3)) 4 (some car4))) (hL_mm : mm ∈ S.1) (hf_mm : S.2 mm = .inr (13, [.int (nI 0), .ref me, .ref sg, .ref cn, .ref im])) (hL_me : me ∈ S.1) (hf_me : S.2 me = .inl (cy 0, 0, .inl (fun _ => 0))) (hL_sg : sg ∈ S.1) (hf_sg : S.2 sg = .inr (0, [.int (nI 0), .ref ed, .int (nI 0)])) (hL_cn : cn ∈ S.1) (hf_cn : S.2 cn = .inl (cy 0, 4, .inl (upd (upd (upd (upd (fun _ => 0) 0 (nI 0)) 1 (nI 0)) 2 (nI 0)) 3 (nI 1))))  (hw : pW D (pA S0 s.heap.size) s.heap S H locs) (hl : lv_has ls 10 [(5, .int (nI 0)), (4, .ref dd), (3, .ref jo), (2, .ref mm), (1, .ref x), (0, .ref b)]) (kk : ∀ (S' : pS) (H' : Heap) (locs' : List Loc) (ls' : Array Slot), pW D (pA S0 s.heap.size) s.heap S' H' locs' → lv_has ls' 10 [(5, .int (nI 0)), (0, .ref b)] → W p l e room_1 s m #[Value.ref b] below meth c H' locs' 600002 7302232 Q (F0 m 1501 ls' [])) : W p l e room_1 s m #[Value.ref b] below meth c H locs 60 5026 Q (F0 m 1095 ls []) := by
  have hx := C.1
  have hb := C.2.1
  refine lv_aload_n hx hb dL_law_1095 rfl (lv_at hl 4 rfl) ?_
  refine p_calli (va_runV (As := []) (rest := []) C.fix (e_X11_errors l D cy S H.size x ch ln sl mk co ca su lt col con cor0 cor1 cor2 cor3 cor4 cob0 cal can car0 car1 car2 car3 car4 hL_x hf_x hL_co hf_co hL_col hf_col hL_cor0 hf_cor0 hL_ca hf_ca hL_cal hf_cal ) (cwV 0 C.2.2.2.2.1 (gU_V mw_927 mw_928 mw_929 mw_2 (subU mw_930)) rfl rfl rfl hde_law_1095_V_0 ⟨Nat.le_of_ble_eq_true rfl, Nat.le_of_ble_eq_true rfl⟩) (p_preV C hw hL_x hf_x rfl) rfl rfl hl.1 rfl (lv_room (Nat.le_of_ble_eq_true rfl)) dL_law_1096 ⟨(Nat.le_of_ble_eq_true rfl), (Nat.le_of_ble_eq_true rfl)⟩) hw hA (fun r2 S1 H locs hpost hw => ?_)
  obtain ⟨hr_, hS_⟩ := hpost
  subst hr_
  subst hS_
  refine lv_aload_n hx hb dL_law_1099 rfl (lv_at hl 3 rfl) ?_
  refine p_calli (va_runV (As := []) (rest := [.int (nI 0)]) C.fix (e_X13_errors l D cy ed S H.size mm me sg cn im hL_mm hf_mm hL_me hf_me hL_sg hf_sg hL_cn hf_cn ) (cwV 0 C.2.2.2.2.1 (gU_V mw_935 mw_936 mw_937 mw_5 (subU mw_938)) rfl rfl rfl hde_law_1095_V_1 ⟨Nat.le_of_ble_eq_true rfl, Nat.le_of_ble_eq_true rfl⟩) (e_preV C hw hA hE hL_mm hf_mm rfl) rfl rfl hl.1 rfl (lv_room (Nat.le_of_ble_eq_true rfl)) dL_law_1100 ⟨(Nat.le_of_ble_eq_true rfl), (Nat.le_of_ble_eq_true rfl)⟩) hw hA (fun r4 S3 H locs hpost hw => ?_)
  obtain ⟨nl5, hr_, hS6, hfr7, hf8⟩ := hpost
  subst hr_
  have hL9 : mm ∈ S3.1 := by rw [hS6]; exact List.mem_append_left _ hL_mm
  refine n_icmp_eq (tgt := 1501) hx hb (by first | decide | omega) (by first | decide | omega) dL_law_1103 (by decide) (fun h_1103 => ?_) (fun h_1103 => ?_)
  · skip
    exact W.widen (k := 600002) (n := 7302232) (Nat.le_of_ble_eq_true rfl) (Nat.le_of_ble_eq_true rfl) (kk S3 H locs ls hw (lv_sub hl [0, 5] rfl))
  · exact absurd h_1103 (by first | decide | omega)
