section PD
variable {p : Program} {l : Launch} {e : Env} {R : Room} {s : State} {m : MethodId} {args : Array Value} {below : List Frame} {meth : Method} {c : Code} {H : Heap} {locs : List Loc} {cells slots : Nat} {Q : State → Prop}
variable {D : va_G} {cy : Nat → ClassId} {A : Nat → Prop} {H0 : Heap} {S : pS} {pc : Nat} {ls : Array Slot} {rest : List Value}
theorem p_calld {st0 : List Value} {mc ms : Nat} {av : Array Value} {post : UInt64 → pS → Prop} (hr : va_Run p l e R s m args below meth c H locs cells slots mc ms (F0 m pc ls st0) rest (pQd D cy S H.size post av) (pA S H.size)) (hw : pW D A H0 S H locs) (hA : ∀ q, H0.size ≤ q → A q)
    (kk : ∀ (r : UInt64) (S' : pS) (H1 : Heap) (locs1 : List Loc), post r S' → pW D A H0 S' H1 locs1 → W p l e R s m args below meth c H1 locs1 (cells + mc) (slots + ms) Q (F0 m (pc + 3) ls (.double r :: rest))) : W p l e R s m args below meth c H locs cells slots Q (F0 m pc ls st0) :=
  va_calld hr hw.2.2 (fun q _ h => pA.in hw hA q h) (pA.in hw hA) (fun r u t H1 locs1 ht _ hp hB _ _ hS => kk r u H1 locs1 hp ⟨by rw [← ht]; exact hB.1, hB.2.2.weaken (fun _ _ _ h => pA.in hw hA _ h), hS⟩)
end PD
theorem hde_law_1108_S_0 : yL_distance.cls ≠ "java/lang/invoke/MethodHandle" ∧ yL_distance.cls ≠ "java/lang/invoke/VarHandle" ∧ (parseMethodDescriptor yL_distance.desc).map (fun d => d.parameters.length) = some 3 := by decide +kernel
theorem hde_law_1108_V_1 : yX13_distance.cls = RX13 ∧ yX13_distance.cls ≠ "java/lang/invoke/MethodHandle" ∧ yX13_distance.cls ≠ "java/lang/invoke/VarHandle" ∧ (parseMethodDescriptor yX13_distance.desc).map (fun d => d.parameters.length) = some 1 := by decide +kernel
theorem hde_law_1108_V_2 : yX13_thrown.cls = RX13 ∧ yX13_thrown.cls ≠ "java/lang/invoke/MethodHandle" ∧ yX13_thrown.cls ≠ "java/lang/invoke/VarHandle" ∧ (parseMethodDescriptor yX13_thrown.desc).map (fun d => d.parameters.length) = some 0 := by decide +kernel
set_option maxHeartbeats 8000000 in
set_option maxRecDepth 100000 in
theorem e_law_1108 {p : Program} {e : Env} {s : State} {m : MethodId} {below : List Frame} {meth : Method} {c : Code} (l : Launch) (hflags : l.stackTraces = false) (D : va_G) (cy : Nat → ClassId) (ed : Nat) {b : Nat} {xs : Nat → Int32} {Q : State → Prop} {S0 : pS} {cw : Cond} (C : pC p s m #[Value.ref b] c code 10 RL (cw :: lwU) D cy) (hE : eK (pA S0 s.heap.size) ed s s.heap) (hA : ∀ q, s.heap.size ≤ q → pA S0 s.heap.size q) (hXs : va_X b 7 xs s s.heap) (hbl : b < s.heap.size) (hbA : ¬ pA S0 s.heap.size b) (S : pS) (H : Heap) (locs : List Loc) (ls : Array Slot) (x : Nat) (mm : Nat) (jo : Nat) (dd : Nat) (ch : Nat) (ln : Nat) (sl : Nat) (mk : Nat) (co : Nat) (ca : Nat) (su : Nat) (lt : Nat) (lk : Nat) (me : Nat) (sg : Nat) (cn : Nat) (im : Nat) (hL_x : x ∈ S.1) (hf_x : S.2 x = .inr (11, [.ref ch, .ref ln, .ref sl, .ref mk, .ref co, .ref ca, .ref su, .ref lt])) (hL_ch : ch ∈ S.1) (hf_ch : S.2 ch = .inr (2, [.ref lk, .int (nI 0)])) (hL_mm : mm ∈ S.1) (hf_mm : S.2 mm = .inr (13, [.int (nI 0), .ref me, .ref sg, .ref cn, .ref im])) (hL_sg : sg ∈ S.1) (hf_sg : S.2 sg = .inr (0, [.int (nI 0), .ref ed, .int (nI 0)]))  (hw : pW D (pA S0 s.heap.size) s.heap S H locs) (hl : lv_has ls 10 [(5, .int (nI 0)), (4, .ref dd), (3, .ref jo), (2, .ref mm), (1, .ref x), (0, .ref b)]) (kk : ∀ (S' : pS) (H' : Heap) (locs' : List Loc) (ls' : Array Slot), pW D (pA S0 s.heap.size) s.heap S' H' locs' → lv_has ls' 10 [(5, .int (nI 0)), (0, .ref b)] → W p l e room_1 s m #[Value.ref b] below meth c H' locs' 600002 7302232 Q (F0 m 1501 ls' [])) : W p l e room_1 s m #[Value.ref b] below meth c H locs 60 5026 Q (F0 m 1108 ls []) := by
  have hx := C.1
  have hb := C.2.1
  refine lv_aload_n hx hb dL_law_1108 rfl (lv_at hl 4 rfl) ?_
  refine lv_aload_n hx hb dL_law_1109 rfl (lv_at hl 5 rfl) ?_
  refine lv_iload hx hb dL_law_1110 (lv_at hl 0 rfl) ?_
  refine lv_iconst (v := nI 1) hx hb dL_law_1112 (by decide) ?_
  refine n_iadd hx hb dL_law_1113 ?_
  refine n_ren (b := 1) (by first | rfl | omega | simp) ?_
  refine va_sld hx hb hXs hbl hbA hw.2.2 (i := nI 1) (show vp_in (nI 1) 7 from by unfold vp_in; decide) dL_law_1114 ?_
  refine lv_aload_n hx hb dL_law_1115 rfl (lv_at hl 2 rfl) ?_
  refine x_calli (vx_runSX (As := [.ref x, .int (xs (nI 1).toNatClampNeg), .ref jo]) (rest := []) C.fix (e_L_distance l hflags D cy ed S H.size x jo ch ln sl mk co ca su lt lk (xs (nI 1).toNatClampNeg) hL_x hf_x hL_ch hf_ch ) (vx_cwSW 3 C.2.2.2.2.1 (gU_S mw_947 mw_948 mw_111 (subU mw_949)) rfl rfl rfl hde_law_1108_S_0 ⟨Nat.le_of_ble_eq_true rfl, Nat.le_of_ble_eq_true rfl⟩) (e_preS C hw hA hE) rfl rfl hl.1 rfl (lv_room (Nat.le_of_ble_eq_true rfl)) dL_law_1116 ⟨(Nat.le_of_ble_eq_true rfl), (Nat.le_of_ble_eq_true rfl)⟩) hw hA (fun E9 ce9 q9 S1 H locs hpost hw hce9 hcv9 hcl9 => ?_) (fun r2 S1 H locs hpost hw => ?_)
  · skip
    exact hpost.elim
  obtain ⟨hr_, hS_⟩ := hpost
  subst hr_
  subst hS_
  refine lv_istore (lv' := [(6, .int (nI 1)), (5, .int (nI 0)), (4, .ref dd), (3, .ref jo), (2, .ref mm), (1, .ref x), (0, .ref b)]) hx hb dL_law_1119 hl (by decide) rfl (fun ls hl => ?_)
  refine lv_aload_n hx hb dL_law_1121 rfl (lv_at hl 4 rfl) ?_
  refine lv_aload_n hx hb dL_law_1122 rfl (lv_at hl 6 rfl) ?_
  refine lv_iload hx hb dL_law_1123 (lv_at hl 1 rfl) ?_
  refine lv_iconst (v := nI 1) hx hb dL_law_1125 (by decide) ?_
  refine n_iadd hx hb dL_law_1126 ?_
  refine n_ren (b := 1) (by first | rfl | omega | simp) ?_
  refine va_sld hx hb hXs hbl hbA hw.2.2 (i := nI 1) (show vp_in (nI 1) 7 from by unfold vp_in; decide) dL_law_1127 ?_
  refine p_calli (va_runV (As := [.int (xs (nI 1).toNatClampNeg)]) (rest := []) C.fix (e_X13_distance l D cy ed S H.size mm me sg cn im (xs (nI 1).toNatClampNeg) hL_mm hf_mm hL_sg hf_sg ) (cwV 1 C.2.2.2.2.1 (gU_V mw_975 mw_976 mw_977 mw_5 (subU mw_978)) rfl rfl rfl hde_law_1108_V_1 ⟨Nat.le_of_ble_eq_true rfl, Nat.le_of_ble_eq_true rfl⟩) (e_preV C hw hA hE hL_mm hf_mm rfl) rfl rfl hl.1 rfl (lv_room (Nat.le_of_ble_eq_true rfl)) dL_law_1128 ⟨(Nat.le_of_ble_eq_true rfl), (Nat.le_of_ble_eq_true rfl)⟩) hw hA (fun r4 S3 H locs hpost hw => ?_)
  obtain ⟨nl5, hr_, hS6, hfr7, hf8⟩ := hpost
  subst hr_
  have hL9 : mm ∈ S3.1 := by rw [hS6]; exact List.mem_append_left _ hL_mm
  refine lv_istore (lv' := [(7, .int (nI 0)), (6, .int (nI 1)), (5, .int (nI 0)), (4, .ref dd), (3, .ref jo), (2, .ref mm), (1, .ref x), (0, .ref b)]) hx hb dL_law_1131 hl (by decide) rfl (fun ls hl => ?_)
  refine lv_aload_n hx hb dL_law_1133 rfl (lv_at hl 5 rfl) ?_
  refine p_calli (va_runV (As := []) (rest := []) C.fix (e_X13_thrown l D cy S3 H.size mm me sg cn im 1 hL9 hf8 ) (cwV 0 C.2.2.2.2.1 (gU_V mw_544 mw_545 mw_546 mw_5 (subU mw_547)) rfl rfl rfl hde_law_1108_V_2 ⟨Nat.le_of_ble_eq_true rfl, Nat.le_of_ble_eq_true rfl⟩) (p_preV C hw hL9 hf8 rfl) rfl rfl hl.1 rfl (lv_room (Nat.le_of_ble_eq_true rfl)) dL_law_1134 ⟨(Nat.le_of_ble_eq_true rfl), (Nat.le_of_ble_eq_true rfl)⟩) hw hA (fun r11 S10 H locs hpost hw => ?_)
  obtain ⟨hr_, hS_⟩ := hpost
  subst hr_
  subst hS_
  refine lv_iload hx hb dL_law_1137 (lv_at hl 1 rfl) ?_
  refine n_icmp_eq (tgt := 1144) hx hb (by first | decide | omega) (by first | decide | omega) dL_law_1139 (by decide) (fun h_1139 => ?_) (fun h_1139 => ?_)
  · skip
    refine lv_iload hx hb dL_law_1144 (lv_at hl 1 rfl) ?_
    refine n_if_ne (tgt := 1161) hx hb (by first | decide | omega) dL_law_1146 (by decide) (fun h_1146 => ?_) (fun h_1146 => ?_)
    · skip
      refine lv_goto (tgt := 1501) hx hb dL_law_1161 (by decide) ?_
      exact W.widen (k := 600002) (n := 7302232) (Nat.le_of_ble_eq_true rfl) (Nat.le_of_ble_eq_true rfl) (kk S3 H locs ls hw (lv_sub hl [2, 7] rfl))
    · exact absurd h_1146 (by first | decide | omega)
  · exact absurd h_1139 (by first | decide | omega)

theorem hde_law_1164_S_0 : yL_words.cls ≠ "java/lang/invoke/MethodHandle" ∧ yL_words.cls ≠ "java/lang/invoke/VarHandle" ∧ (parseMethodDescriptor yL_words.desc).map (fun d => d.parameters.length) = some 4 := by decide +kernel
theorem hde_law_1164_V_1 : yX13_words_.cls = RX13 ∧ yX13_words_.cls ≠ "java/lang/invoke/MethodHandle" ∧ yX13_words_.cls ≠ "java/lang/invoke/VarHandle" ∧ (parseMethodDescriptor yX13_words_.desc).map (fun d => d.parameters.length) = some 2 := by decide +kernel
theorem hde_law_1164_V_2 : yX13_thrown.cls = RX13 ∧ yX13_thrown.cls ≠ "java/lang/invoke/MethodHandle" ∧ yX13_thrown.cls ≠ "java/lang/invoke/VarHandle" ∧ (parseMethodDescriptor yX13_thrown.desc).map (fun d => d.parameters.length) = some 0 := by decide +kernel
set_option maxHeartbeats 8000000 in
set_option maxRecDepth 100000 in
theorem e_law_1164 {p : Program} {e : Env} {s : State} {m : MethodId} {below : List Frame} {meth : Method} {c : Code} (l : Launch) (hflags : l.stackTraces = false) (D : va_G) (cy : Nat → ClassId) (ed : Nat) {b : Nat} {xs : Nat → Int32} {Q : State → Prop} {S0 : pS} {cw : Cond} (C : pC p s m #[Value.ref b] c code 10 RL (cw :: lwU) D cy) (hE : eK (pA S0 s.heap.size) ed s s.heap) (hA : ∀ q, s.heap.size ≤ q → pA S0 s.heap.size q) (hXs : va_X b 7 xs s s.heap) (hbl : b < s.heap.size) (hbA : ¬ pA S0 s.heap.size b) (S : pS) (H : Heap) (locs : List Loc) (ls : Array Slot) (x : Nat) (mm : Nat) (jo : Nat) (dd : Nat) (ch : Nat) (ln : Nat) (sl : Nat) (mk : Nat) (co : Nat) (ca : Nat) (su : Nat) (lt : Nat) (lk : Nat) (me : Nat) (sg : Nat) (cn : Nat) (im : Nat) (hL_x : x ∈ S.1) (hf_x : S.2 x = .inr (11, [.ref ch, .ref ln, .ref sl, .ref mk, .ref co, .ref ca, .ref su, .ref lt])) (hL_ch : ch ∈ S.1) (hf_ch : S.2 ch = .inr (2, [.ref lk, .int (nI 0)])) (hL_mm : mm ∈ S.1) (hf_mm : S.2 mm = .inr (13, [.int (nI 0), .ref me, .ref sg, .ref cn, .ref im])) (hL_sg : sg ∈ S.1) (hf_sg : S.2 sg = .inr (0, [.int (nI 0), .ref ed, .int (nI 0)]))  (hw : pW D (pA S0 s.heap.size) s.heap S H locs) (hl : lv_has ls 10 [(5, .int (nI 0)), (4, .ref dd), (3, .ref jo), (2, .ref mm), (1, .ref x), (0, .ref b)]) (kk : ∀ (S' : pS) (H' : Heap) (locs' : List Loc) (ls' : Array Slot), pW D (pA S0 s.heap.size) s.heap S' H' locs' → lv_has ls' 10 [(5, .int (nI 0)), (0, .ref b)] → W p l e room_1 s m #[Value.ref b] below meth c H' locs' 600002 7302232 Q (F0 m 1501 ls' [])) : W p l e room_1 s m #[Value.ref b] below meth c H locs 60 5026 Q (F0 m 1164 ls []) := by
  have hx := C.1
  have hb := C.2.1
  refine lv_aload_n hx hb dL_law_1164 rfl (lv_at hl 4 rfl) ?_
  refine lv_aload_n hx hb dL_law_1165 rfl (lv_at hl 5 rfl) ?_
  refine lv_iload hx hb dL_law_1166 (lv_at hl 0 rfl) ?_
  refine lv_iconst (v := nI 1) hx hb dL_law_1168 (by decide) ?_
  refine n_iadd hx hb dL_law_1169 ?_
  refine n_ren (b := 1) (by first | rfl | omega | simp) ?_
  refine va_sld hx hb hXs hbl hbA hw.2.2 (i := nI 1) (show vp_in (nI 1) 7 from by unfold vp_in; decide) dL_law_1170 ?_
  refine lv_aload_n hx hb dL_law_1171 rfl (lv_at hl 5 rfl) ?_
  refine lv_iload hx hb dL_law_1172 (lv_at hl 0 rfl) ?_
  refine lv_iconst (v := nI 2) hx hb dL_law_1174 (by decide) ?_
  refine n_iadd hx hb dL_law_1175 ?_
  refine n_ren (b := 2) (by first | rfl | omega | simp) ?_
  refine va_sld hx hb hXs hbl hbA hw.2.2 (i := nI 2) (show vp_in (nI 2) 7 from by unfold vp_in; decide) dL_law_1176 ?_
  refine lv_aload_n hx hb dL_law_1177 rfl (lv_at hl 2 rfl) ?_
  refine x_calli (vx_runSX (As := [.ref x, .int (xs (nI 1).toNatClampNeg), .int (xs (nI 2).toNatClampNeg), .ref jo]) (rest := []) C.fix (e_L_words l hflags D cy ed S H.size x jo ch ln sl mk co ca su lt lk (xs (nI 1).toNatClampNeg) (xs (nI 2).toNatClampNeg) hL_x hf_x hL_ch hf_ch ) (vx_cwSW 4 C.2.2.2.2.1 (gU_S mw_991 mw_992 mw_111 (subU mw_993)) rfl rfl rfl hde_law_1164_S_0 ⟨Nat.le_of_ble_eq_true rfl, Nat.le_of_ble_eq_true rfl⟩) (e_preS C hw hA hE) rfl rfl hl.1 rfl (lv_room (Nat.le_of_ble_eq_true rfl)) dL_law_1178 ⟨(Nat.le_of_ble_eq_true rfl), (Nat.le_of_ble_eq_true rfl)⟩) hw hA (fun E9 ce9 q9 S1 H locs hpost hw hce9 hcv9 hcl9 => ?_) (fun r2 S1 H locs hpost hw => ?_)
  · skip
    exact hpost.elim
  obtain ⟨hr_, hS_⟩ := hpost
  subst hr_
  subst hS_
  refine lv_istore (lv' := [(6, .int (nI 1)), (5, .int (nI 0)), (4, .ref dd), (3, .ref jo), (2, .ref mm), (1, .ref x), (0, .ref b)]) hx hb dL_law_1181 hl (by decide) rfl (fun ls hl => ?_)
  refine lv_aload_n hx hb dL_law_1183 rfl (lv_at hl 4 rfl) ?_
  refine lv_aload_n hx hb dL_law_1184 rfl (lv_at hl 6 rfl) ?_
  refine lv_iload hx hb dL_law_1185 (lv_at hl 1 rfl) ?_
  refine lv_iconst (v := nI 1) hx hb dL_law_1187 (by decide) ?_
  refine n_iadd hx hb dL_law_1188 ?_
  refine n_ren (b := 1) (by first | rfl | omega | simp) ?_
  refine va_sld hx hb hXs hbl hbA hw.2.2 (i := nI 1) (show vp_in (nI 1) 7 from by unfold vp_in; decide) dL_law_1189 ?_
  refine lv_aload_n hx hb dL_law_1190 rfl (lv_at hl 6 rfl) ?_
  refine lv_iload hx hb dL_law_1191 (lv_at hl 1 rfl) ?_
  refine lv_iconst (v := nI 2) hx hb dL_law_1193 (by decide) ?_
  refine n_iadd hx hb dL_law_1194 ?_
  refine n_ren (b := 2) (by first | rfl | omega | simp) ?_
  refine va_sld hx hb hXs hbl hbA hw.2.2 (i := nI 2) (show vp_in (nI 2) 7 from by unfold vp_in; decide) dL_law_1195 ?_
  refine p_calli (va_runV (As := [.int (xs (nI 1).toNatClampNeg), .int (xs (nI 2).toNatClampNeg)]) (rest := []) C.fix (e_X13_words_ l D cy ed S H.size mm me sg cn im (xs (nI 1).toNatClampNeg) (xs (nI 2).toNatClampNeg) hL_mm hf_mm hL_sg hf_sg ) (cwV 2 C.2.2.2.2.1 (gU_V mw_1010 mw_1011 mw_1012 mw_5 (subU mw_1013)) rfl rfl rfl hde_law_1164_V_1 ⟨Nat.le_of_ble_eq_true rfl, Nat.le_of_ble_eq_true rfl⟩) (e_preV C hw hA hE hL_mm hf_mm rfl) rfl rfl hl.1 rfl (lv_room (Nat.le_of_ble_eq_true rfl)) dL_law_1196 ⟨(Nat.le_of_ble_eq_true rfl), (Nat.le_of_ble_eq_true rfl)⟩) hw hA (fun r4 S3 H locs hpost hw => ?_)
  obtain ⟨nl5, hr_, hS6, hfr7, hf8⟩ := hpost
  subst hr_
  have hL9 : mm ∈ S3.1 := by rw [hS6]; exact List.mem_append_left _ hL_mm
  refine lv_istore (lv' := [(7, .int (nI 0)), (6, .int (nI 1)), (5, .int (nI 0)), (4, .ref dd), (3, .ref jo), (2, .ref mm), (1, .ref x), (0, .ref b)]) hx hb dL_law_1199 hl (by decide) rfl (fun ls hl => ?_)
  refine lv_aload_n hx hb dL_law_1201 rfl (lv_at hl 5 rfl) ?_
  refine p_calli (va_runV (As := []) (rest := []) C.fix (e_X13_thrown l D cy S3 H.size mm me sg cn im 1 hL9 hf8 ) (cwV 0 C.2.2.2.2.1 (gU_V mw_544 mw_545 mw_546 mw_5 (subU mw_547)) rfl rfl rfl hde_law_1164_V_2 ⟨Nat.le_of_ble_eq_true rfl, Nat.le_of_ble_eq_true rfl⟩) (p_preV C hw hL9 hf8 rfl) rfl rfl hl.1 rfl (lv_room (Nat.le_of_ble_eq_true rfl)) dL_law_1202 ⟨(Nat.le_of_ble_eq_true rfl), (Nat.le_of_ble_eq_true rfl)⟩) hw hA (fun r11 S10 H locs hpost hw => ?_)
  obtain ⟨hr_, hS_⟩ := hpost
  subst hr_
  subst hS_
  refine lv_iload hx hb dL_law_1205 (lv_at hl 1 rfl) ?_
  refine n_icmp_eq (tgt := 1212) hx hb (by first | decide | omega) (by first | decide | omega) dL_law_1207 (by decide) (fun h_1207 => ?_) (fun h_1207 => ?_)
  · skip
    refine lv_iload hx hb dL_law_1212 (lv_at hl 1 rfl) ?_
    refine n_if_ne (tgt := 1229) hx hb (by first | decide | omega) dL_law_1214 (by decide) (fun h_1214 => ?_) (fun h_1214 => ?_)
    · skip
      refine lv_goto (tgt := 1501) hx hb dL_law_1229 (by decide) ?_
      exact W.widen (k := 600002) (n := 7302232) (Nat.le_of_ble_eq_true rfl) (Nat.le_of_ble_eq_true rfl) (kk S3 H locs ls hw (lv_sub hl [2, 7] rfl))
    · exact absurd h_1214 (by first | decide | omega)
  · exact absurd h_1207 (by first | decide | omega)

theorem hde_law_1232_V_0 : yX11_rate.cls = RX11 ∧ yX11_rate.cls ≠ "java/lang/invoke/MethodHandle" ∧ yX11_rate.cls ≠ "java/lang/invoke/VarHandle" ∧ (parseMethodDescriptor yX11_rate.desc).map (fun d => d.parameters.length) = some 0 := by decide +kernel
theorem hde_law_1232_V_1 : yX13_rate.cls = RX13 ∧ yX13_rate.cls ≠ "java/lang/invoke/MethodHandle" ∧ yX13_rate.cls ≠ "java/lang/invoke/VarHandle" ∧ (parseMethodDescriptor yX13_rate.desc).map (fun d => d.parameters.length) = some 0 := by decide +kernel
set_option maxHeartbeats 8000000 in
set_option maxRecDepth 100000 in
theorem e_law_1232 {p : Program} {e : Env} {s : State} {m : MethodId} {below : List Frame} {meth : Method} {c : Code} (l : Launch) (hflags : l.stackTraces = false) (D : va_G) (cy : Nat → ClassId) (ed : Nat) {b : Nat} {xs : Nat → Int32} {Q : State → Prop} {S0 : pS} {cw : Cond} (C : pC p s m #[Value.ref b] c code 10 RL (cw :: lwU) D cy) (hE : eK (pA S0 s.heap.size) ed s s.heap) (hA : ∀ q, s.heap.size ≤ q → pA S0 s.heap.size q) (hXs : va_X b 7 xs s s.heap) (hbl : b < s.heap.size) (hbA : ¬ pA S0 s.heap.size b) (S : pS) (H : Heap) (locs : List Loc) (ls : Array Slot) (x : Nat) (mm : Nat) (jo : Nat) (dd : Nat) (ch : Nat) (ln : Nat) (sl : Nat) (mk : Nat) (co : Nat) (ca : Nat) (su : Nat) (lt : Nat) (lk : Nat) (col : Nat) (con : Nat) (cor0 : Nat) (cor1 : Nat) (cor2 : Nat) (cor3 : Nat) (cor4 : Nat) (cob0 : Nat) (me : Nat) (sg : Nat) (cn : Nat) (im : Nat) (hL_x : x ∈ S.1) (hf_x : S.2 x = .inr (11, [.ref ch, .ref ln, .ref sl, .ref mk, .ref co, .ref ca, .ref su, .ref lt])) (hL_ch : ch ∈ S.1) (hf_ch : S.2 ch = .inr (2, [.ref lk, .int (nI 0)])) (hL_co : co ∈ S.1) (hf_co : S.2 co = .inr (5, [.ref col, .ref con])) (hL_col : col ∈ S.1) (hf_col : S.2 col = aQ (cy 2) 5 (va_up (va_up (va_up (va_up (va_up (fun _ => none) 0 (some cor0)) 1 (some cor1)) 2 (some cor2)) 3 (some cor3)) 4 (some cor4))) (hL_cor0 : cor0 ∈ S.1) (hf_cor0 : S.2 cor0 = .inr (8, [.ref cob0, .int (nI 0)])) (hL_mm : mm ∈ S.1) (hf_mm : S.2 mm = .inr (13, [.int (nI 0), .ref me, .ref sg, .ref cn, .ref im])) (hL_me : me ∈ S.1) (hf_me : S.2 me = .inl (cy 0, 0, .inl (fun _ => 0))) (hL_sg : sg ∈ S.1) (hf_sg : S.2 sg = .inr (0, [.int (nI 0), .ref ed, .int (nI 0)]))  (hw : pW D (pA S0 s.heap.size) s.heap S H locs) (hl : lv_has ls 10 [(5, .int (nI 0)), (4, .ref dd), (3, .ref jo), (2, .ref mm), (1, .ref x), (0, .ref b)]) (kk : ∀ (S' : pS) (H' : Heap) (locs' : List Loc) (ls' : Array Slot), pW D (pA S0 s.heap.size) s.heap S' H' locs' → lv_has ls' 10 [(5, .int (nI 0)), (0, .ref b)] → W p l e room_1 s m #[Value.ref b] below meth c H' locs' 600002 7302232 Q (F0 m 1501 ls' [])) : W p l e room_1 s m #[Value.ref b] below meth c H locs 60 5026 Q (F0 m 1232 ls []) := by
  have hx := C.1
  have hb := C.2.1
  refine lv_aload_n hx hb dL_law_1232 rfl (lv_at hl 4 rfl) ?_
  refine p_calld (va_runV (As := []) (rest := []) C.fix (e_X11_rate l D cy S H.size x ch ln sl mk co ca su lt lk col con cor0 cor1 cor2 cor3 cor4 cob0 hL_x hf_x hL_ch hf_ch hL_co hf_co hL_col hf_col hL_cor0 hf_cor0 ) (cwV 0 C.2.2.2.2.1 (gU_V mw_1020 mw_1021 mw_1022 mw_2 (subU mw_1023)) rfl rfl rfl hde_law_1232_V_0 ⟨Nat.le_of_ble_eq_true rfl, Nat.le_of_ble_eq_true rfl⟩) (p_preV C hw hL_x hf_x rfl) rfl rfl hl.1 rfl (lv_room (Nat.le_of_ble_eq_true rfl)) dL_law_1233 ⟨(Nat.le_of_ble_eq_true rfl), (Nat.le_of_ble_eq_true rfl)⟩) hw hA (fun r2 S1 H locs hpost hw => ?_)
  obtain ⟨hr_, hS_⟩ := hpost
  subst hr_
  subst hS_
  refine lv_dstore (lv' := [(6, .double FP.dconst0), (5, .int (nI 0)), (4, .ref dd), (3, .ref jo), (2, .ref mm), (1, .ref x), (0, .ref b)]) hx hb dL_law_1236 hl (by decide) rfl (fun ls hl => ?_)
  refine lv_aload_n hx hb dL_law_1238 rfl (lv_at hl 4 rfl) ?_
  refine p_calld (va_runV (As := []) (rest := []) C.fix (e_X13_rate l D cy ed S H.size mm me sg cn im hL_mm hf_mm hL_me hf_me hL_sg hf_sg ) (cwV 0 C.2.2.2.2.1 (gU_V mw_1024 mw_1025 mw_1026 mw_5 (subU mw_1027)) rfl rfl rfl hde_law_1232_V_1 ⟨Nat.le_of_ble_eq_true rfl, Nat.le_of_ble_eq_true rfl⟩) (e_preV C hw hA hE hL_mm hf_mm rfl) rfl rfl hl.1 rfl (lv_room (Nat.le_of_ble_eq_true rfl)) dL_law_1239 ⟨(Nat.le_of_ble_eq_true rfl), (Nat.le_of_ble_eq_true rfl)⟩) hw hA (fun r4 S3 H locs hpost hw => ?_)
  obtain ⟨nl5, hr_, hS6, hfr7, hf8⟩ := hpost
  subst hr_
  have hL9 : mm ∈ S3.1 := by rw [hS6]; exact List.mem_append_left _ hL_mm
  refine lv_dstore (lv' := [(8, .double FP.dconst0), (6, .double FP.dconst0), (5, .int (nI 0)), (4, .ref dd), (3, .ref jo), (2, .ref mm), (1, .ref x), (0, .ref b)]) hx hb dL_law_1242 hl (by decide) rfl (fun ls hl => ?_)
  refine lv_dload hx hb dL_law_1244 (lv_at hl 1 rfl) ?_
  refine lv_dload hx hb dL_law_1246 (lv_at hl 0 rfl) ?_
  refine lv_dcmp hx hb dL_law_1248 ?_
  refine x_ren (b := 0) (by first | exact dc_self | exact dc_upd) ?_
  refine z_if_eq (tgt := 1270) hx hb (show (0 : Int32).toInt = 0 from by decide) dL_law_1249 (by decide) (fun h_1249 => ?_) (fun h_1249 => ?_)
  · skip
    refine lv_goto (tgt := 1501) hx hb dL_law_1270 (by decide) ?_
    exact W.widen (k := 600002) (n := 7302232) (Nat.le_of_ble_eq_true rfl) (Nat.le_of_ble_eq_true rfl) (kk S3 H locs ls hw (lv_sub hl [2, 7] rfl))
  · exact absurd h_1249 (by first | decide | omega)

theorem hde_law_1273_S_0 : yL_errorsWith.cls ≠ "java/lang/invoke/MethodHandle" ∧ yL_errorsWith.cls ≠ "java/lang/invoke/VarHandle" ∧ (parseMethodDescriptor yL_errorsWith.desc).map (fun d => d.parameters.length) = some 3 := by decide +kernel
theorem hde_law_1273_V_1 : yX13_errorsWith.cls = RX13 ∧ yX13_errorsWith.cls ≠ "java/lang/invoke/MethodHandle" ∧ yX13_errorsWith.cls ≠ "java/lang/invoke/VarHandle" ∧ (parseMethodDescriptor yX13_errorsWith.desc).map (fun d => d.parameters.length) = some 1 := by decide +kernel
theorem hde_law_1273_V_2 : yX13_thrown.cls = RX13 ∧ yX13_thrown.cls ≠ "java/lang/invoke/MethodHandle" ∧ yX13_thrown.cls ≠ "java/lang/invoke/VarHandle" ∧ (parseMethodDescriptor yX13_thrown.desc).map (fun d => d.parameters.length) = some 0 := by decide +kernel
set_option maxHeartbeats 8000000 in
set_option maxRecDepth 100000 in
theorem e_law_1273 {p : Program} {e : Env} {s : State} {m : MethodId} {below : List Frame} {meth : Method} {c : Code} (l : Launch) (hflags : l.stackTraces = false) (D : va_G) (cy : Nat → ClassId) (ed : Nat) {b : Nat} {xs : Nat → Int32} {Q : State → Prop} {S0 : pS} {cw : Cond} (C : pC p s m #[Value.ref b] c code 10 RL (cw :: lwU) D cy) (hE : eK (pA S0 s.heap.size) ed s s.heap) (hA : ∀ q, s.heap.size ≤ q → pA S0 s.heap.size q) (hXs : va_X b 7 xs s s.heap) (hbl : b < s.heap.size) (hbA : ¬ pA S0 s.heap.size b) (S : pS) (H : Heap) (locs : List Loc) (ls : Array Slot) (x : Nat) (mm : Nat) (jo : Nat) (dd : Nat) (ch : Nat) (ln : Nat) (sl : Nat) (mk : Nat) (co : Nat) (ca : Nat) (su : Nat) (lt : Nat) (lk : Nat) (col : Nat) (con : Nat) (cor0 : Nat) (cor1 : Nat) (cor2 : Nat) (cor3 : Nat) (cor4 : Nat) (cob0 : Nat) (me : Nat) (sg : Nat) (cn : Nat) (im : Nat) (hL_x : x ∈ S.1) (hf_x : S.2 x = .inr (11, [.ref ch, .ref ln, .ref sl, .ref mk, .ref co, .ref ca, .ref su, .ref lt])) (hL_ch : ch ∈ S.1) (hf_ch : S.2 ch = .inr (2, [.ref lk, .int (nI 0)])) (hL_co : co ∈ S.1) (hf_co : S.2 co = .inr (5, [.ref col, .ref con])) (hL_col : col ∈ S.1) (hf_col : S.2 col = aQ (cy 2) 5 (va_up (va_up (va_up (va_up (va_up (fun _ => none) 0 (some cor0)) 1 (some cor1)) 2 (some cor2)) 3 (some cor3)) 4 (some cor4))) (hL_cor0 : cor0 ∈ S.1) (hf_cor0 : S.2 cor0 = .inr (8, [.ref cob0, .int (nI 0)])) (hL_mm : mm ∈ S.1) (hf_mm : S.2 mm = .inr (13, [.int (nI 0), .ref me, .ref sg, .ref cn, .ref im])) (hL_me : me ∈ S.1) (hf_me : S.2 me = .inl (cy 0, 0, .inl (fun _ => 0))) (hL_sg : sg ∈ S.1) (hf_sg : S.2 sg = .inr (0, [.int (nI 0), .ref ed, .int (nI 0)]))  (hw : pW D (pA S0 s.heap.size) s.heap S H locs) (hl : lv_has ls 10 [(5, .int (nI 0)), (4, .ref dd), (3, .ref jo), (2, .ref mm), (1, .ref x), (0, .ref b)]) (kk : ∀ (S' : pS) (H' : Heap) (locs' : List Loc) (ls' : Array Slot), pW D (pA S0 s.heap.size) s.heap S' H' locs' → lv_has ls' 10 [(5, .int (nI 0)), (0, .ref b)] → W p l e room_1 s m #[Value.ref b] below meth c H' locs' 600002 7302232 Q (F0 m 1501 ls' [])) : W p l e room_1 s m #[Value.ref b] below meth c H locs 60 5026 Q (F0 m 1273 ls []) := by
  have hx := C.1
  have hb := C.2.1
  refine lv_aload_n hx hb dL_law_1273 rfl (lv_at hl 4 rfl) ?_
  refine lv_aload_n hx hb dL_law_1274 rfl (lv_at hl 5 rfl) ?_
  refine lv_iload hx hb dL_law_1275 (lv_at hl 0 rfl) ?_
  refine lv_iconst (v := nI 1) hx hb dL_law_1277 (by decide) ?_
  refine n_iadd hx hb dL_law_1278 ?_
  refine n_ren (b := 1) (by first | rfl | omega | simp) ?_
  refine va_sld hx hb hXs hbl hbA hw.2.2 (i := nI 1) (show vp_in (nI 1) 7 from by unfold vp_in; decide) dL_law_1279 ?_
  refine lv_aload_n hx hb dL_law_1280 rfl (lv_at hl 2 rfl) ?_
  refine x_calli (vx_runSX (As := [.ref x, .int (xs (nI 1).toNatClampNeg), .ref jo]) (rest := []) C.fix (e_L_errorsWith l hflags D cy ed S H.size x jo ch ln sl mk co ca su lt lk col con cor0 cor1 cor2 cor3 cor4 cob0 (xs (nI 1).toNatClampNeg) hL_x hf_x hL_ch hf_ch hL_co hf_co hL_col hf_col hL_cor0 hf_cor0 ) (vx_cwSW 3 C.2.2.2.2.1 (gU_S mw_1028 mw_1029 mw_111 (subU mw_1030)) rfl rfl rfl hde_law_1273_S_0 ⟨Nat.le_of_ble_eq_true rfl, Nat.le_of_ble_eq_true rfl⟩) (e_preS C hw hA hE) rfl rfl hl.1 rfl (lv_room (Nat.le_of_ble_eq_true rfl)) dL_law_1281 ⟨(Nat.le_of_ble_eq_true rfl), (Nat.le_of_ble_eq_true rfl)⟩) hw hA (fun E9 ce9 q9 S1 H locs hpost hw hce9 hcv9 hcl9 => ?_) (fun r2 S1 H locs hpost hw => ?_)
  · skip
    exact hpost.elim
  obtain ⟨hr_, hS_⟩ := hpost
  subst hr_
  subst hS_
  refine lv_istore (lv' := [(6, .int (nI 1)), (5, .int (nI 0)), (4, .ref dd), (3, .ref jo), (2, .ref mm), (1, .ref x), (0, .ref b)]) hx hb dL_law_1284 hl (by decide) rfl (fun ls hl => ?_)
  refine lv_aload_n hx hb dL_law_1286 rfl (lv_at hl 4 rfl) ?_
  refine lv_aload_n hx hb dL_law_1287 rfl (lv_at hl 6 rfl) ?_
  refine lv_iload hx hb dL_law_1288 (lv_at hl 1 rfl) ?_
  refine lv_iconst (v := nI 1) hx hb dL_law_1290 (by decide) ?_
  refine n_iadd hx hb dL_law_1291 ?_
  refine n_ren (b := 1) (by first | rfl | omega | simp) ?_
  refine va_sld hx hb hXs hbl hbA hw.2.2 (i := nI 1) (show vp_in (nI 1) 7 from by unfold vp_in; decide) dL_law_1292 ?_
  refine p_calli (va_runV (As := [.int (xs (nI 1).toNatClampNeg)]) (rest := []) C.fix (e_X13_errorsWith l D cy ed S H.size mm me sg cn im (xs (nI 1).toNatClampNeg) hL_mm hf_mm hL_me hf_me hL_sg hf_sg ) (cwV 1 C.2.2.2.2.1 (gU_V mw_1039 mw_1040 mw_1041 mw_5 (subU mw_1042)) rfl rfl rfl hde_law_1273_V_1 ⟨Nat.le_of_ble_eq_true rfl, Nat.le_of_ble_eq_true rfl⟩) (e_preV C hw hA hE hL_mm hf_mm rfl) rfl rfl hl.1 rfl (lv_room (Nat.le_of_ble_eq_true rfl)) dL_law_1293 ⟨(Nat.le_of_ble_eq_true rfl), (Nat.le_of_ble_eq_true rfl)⟩) hw hA (fun r4 S3 H locs hpost hw => ?_)
  obtain ⟨nl5, hr_, hS6, hfr7, hf8⟩ := hpost
  subst hr_
  have hL9 : mm ∈ S3.1 := by rw [hS6]; exact List.mem_append_left _ hL_mm
  refine lv_istore (lv' := [(7, .int (nI 0)), (6, .int (nI 1)), (5, .int (nI 0)), (4, .ref dd), (3, .ref jo), (2, .ref mm), (1, .ref x), (0, .ref b)]) hx hb dL_law_1296 hl (by decide) rfl (fun ls hl => ?_)
  refine lv_aload_n hx hb dL_law_1298 rfl (lv_at hl 5 rfl) ?_
  refine p_calli (va_runV (As := []) (rest := []) C.fix (e_X13_thrown l D cy S3 H.size mm me sg cn im 1 hL9 hf8 ) (cwV 0 C.2.2.2.2.1 (gU_V mw_544 mw_545 mw_546 mw_5 (subU mw_547)) rfl rfl rfl hde_law_1273_V_2 ⟨Nat.le_of_ble_eq_true rfl, Nat.le_of_ble_eq_true rfl⟩) (p_preV C hw hL9 hf8 rfl) rfl rfl hl.1 rfl (lv_room (Nat.le_of_ble_eq_true rfl)) dL_law_1299 ⟨(Nat.le_of_ble_eq_true rfl), (Nat.le_of_ble_eq_true rfl)⟩) hw hA (fun r11 S10 H locs hpost hw => ?_)
  obtain ⟨hr_, hS_⟩ := hpost
  subst hr_
  subst hS_
  refine lv_iload hx hb dL_law_1302 (lv_at hl 1 rfl) ?_
  refine n_icmp_eq (tgt := 1309) hx hb (by first | decide | omega) (by first | decide | omega) dL_law_1304 (by decide) (fun h_1304 => ?_) (fun h_1304 => ?_)
  · skip
    refine lv_iload hx hb dL_law_1309 (lv_at hl 1 rfl) ?_
    refine n_if_ne (tgt := 1326) hx hb (by first | decide | omega) dL_law_1311 (by decide) (fun h_1311 => ?_) (fun h_1311 => ?_)
    · skip
      refine lv_goto (tgt := 1501) hx hb dL_law_1326 (by decide) ?_
      exact W.widen (k := 600002) (n := 7302232) (Nat.le_of_ble_eq_true rfl) (Nat.le_of_ble_eq_true rfl) (kk S3 H locs ls hw (lv_sub hl [2, 7] rfl))
    · exact absurd h_1311 (by first | decide | omega)
  · exact absurd h_1304 (by first | decide | omega)

theorem hde_law_1329_V_0 : yX11_weak.cls = RX11 ∧ yX11_weak.cls ≠ "java/lang/invoke/MethodHandle" ∧ yX11_weak.cls ≠ "java/lang/invoke/VarHandle" ∧ (parseMethodDescriptor yX11_weak.desc).map (fun d => d.parameters.length) = some 0 := by decide +kernel
theorem hde_law_1329_V_1 : yX13_weak.cls = RX13 ∧ yX13_weak.cls ≠ "java/lang/invoke/MethodHandle" ∧ yX13_weak.cls ≠ "java/lang/invoke/VarHandle" ∧ (parseMethodDescriptor yX13_weak.desc).map (fun d => d.parameters.length) = some 0 := by decide +kernel
set_option maxHeartbeats 8000000 in
set_option maxRecDepth 100000 in
theorem e_law_1329 {p : Program} {e : Env} {s : State} {m : MethodId} {below : List Frame} {meth : Method} {c : Code} (l : Launch) (hflags : l.stackTraces = false) (D : va_G) (cy : Nat → ClassId) (ed : Nat) {b : Nat} {xs : Nat → Int32} {Q : State → Prop} {S0 : pS} {cw : Cond} (C : pC p s m #[Value.ref b] c code 10 RL (cw :: lwU) D cy) (hE : eK (pA S0 s.heap.size) ed s s.heap) (hA : ∀ q, s.heap.size ≤ q → pA S0 s.heap.size q) (hXs : va_X b 7 xs s s.heap) (hbl : b < s.heap.size) (hbA : ¬ pA S0 s.heap.size b) (S : pS) (H : Heap) (locs : List Loc) (ls : Array Slot) (x : Nat) (mm : Nat) (jo : Nat) (dd : Nat) (ch : Nat) (ln : Nat) (sl : Nat) (mk : Nat) (co : Nat) (ca : Nat) (su : Nat) (lt : Nat) (lk : Nat) (col : Nat) (con : Nat) (cor0 : Nat) (cor1 : Nat) (cor2 : Nat) (cor3 : Nat) (cor4 : Nat) (cob0 : Nat) (cal : Nat) (can : Nat) (car0 : Nat) (car1 : Nat) (car2 : Nat) (car3 : Nat) (car4 : Nat) (me : Nat) (sg : Nat) (cn : Nat) (im : Nat) (hL_x : x ∈ S.1) (hf_x : S.2 x = .inr (11, [.ref ch, .ref ln, .ref sl, .ref mk, .ref co, .ref ca, .ref su, .ref lt])) (hL_ch : ch ∈ S.1) (hf_ch : S.2 ch = .inr (2, [.ref lk, .int (nI 0)])) (hL_co : co ∈ S.1) (hf_co : S.2 co = .inr (5, [.ref col, .ref con])) (hL_col : col ∈ S.1) (hf_col : S.2 col = aQ (cy 2) 5 (va_up (va_up (va_up (va_up (va_up (fun _ => none) 0 (some cor0)) 1 (some cor1)) 2 (some cor2)) 3 (some cor3)) 4 (some cor4))) (hL_cor0 : cor0 ∈ S.1) (hf_cor0 : S.2 cor0 = .inr (8, [.ref cob0, .int (nI 0)])) (hL_ca : ca ∈ S.1) (hf_ca : S.2 ca = .inr (5, [.ref cal, .ref can])) (hL_cal : cal ∈ S.1) (hf_cal : S.2 cal = aQ (cy 2) 5 (va_up (va_up (va_up (va_up (va_up (fun _ => none) 0 (some car0)) 1 (some car1)) 2 (some car2)) 3 (some car3)) 4 (some car4))) (hL_mm : mm ∈ S.1) (hf_mm : S.2 mm = .inr (13, [.int (nI 0), .ref me, .ref sg, .ref cn, .ref im])) (hL_me : me ∈ S.1) (hf_me : S.2 me = .inl (cy 0, 0, .inl (fun _ => 0))) (hL_sg : sg ∈ S.1) (hf_sg : S.2 sg = .inr (0, [.int (nI 0), .ref ed, .int (nI 0)])) (hL_cn : cn ∈ S.1) (hf_cn : S.2 cn = .inl (cy 0, 4, .inl (upd (upd (upd (upd (fun _ => 0) 0 (nI 0)) 1 (nI 0)) 2 (nI 0)) 3 (nI 1))))  (hw : pW D (pA S0 s.heap.size) s.heap S H locs) (hl : lv_has ls 10 [(5, .int (nI 0)), (4, .ref dd), (3, .ref jo), (2, .ref mm), (1, .ref x), (0, .ref b)]) (kk : ∀ (S' : pS) (H' : Heap) (locs' : List Loc) (ls' : Array Slot), pW D (pA S0 s.heap.size) s.heap S' H' locs' → lv_has ls' 10 [(5, .int (nI 0)), (0, .ref b)] → W p l e room_1 s m #[Value.ref b] below meth c H' locs' 600002 7302232 Q (F0 m 1501 ls' [])) : W p l e room_1 s m #[Value.ref b] below meth c H locs 60 5026 Q (F0 m 1329 ls []) := by
  have hx := C.1
  have hb := C.2.1
  refine lv_aload_n hx hb dL_law_1329 rfl (lv_at hl 4 rfl) ?_
  refine p_calli (va_runV (As := []) (rest := []) C.fix (e_X11_weak l D cy S H.size x ch ln sl mk co ca su lt lk col con cor0 cor1 cor2 cor3 cor4 cob0 cal can car0 car1 car2 car3 car4 hL_x hf_x hL_ch hf_ch hL_co hf_co hL_col hf_col hL_cor0 hf_cor0 hL_ca hf_ca hL_cal hf_cal ) (cwV 0 C.2.2.2.2.1 (gU_V mw_1047 mw_1048 mw_1049 mw_2 (subU mw_1050)) rfl rfl rfl hde_law_1329_V_0 ⟨Nat.le_of_ble_eq_true rfl, Nat.le_of_ble_eq_true rfl⟩) (p_preV C hw hL_x hf_x rfl) rfl rfl hl.1 rfl (lv_room (Nat.le_of_ble_eq_true rfl)) dL_law_1330 ⟨(Nat.le_of_ble_eq_true rfl), (Nat.le_of_ble_eq_true rfl)⟩) hw hA (fun r2 S1 H locs hpost hw => ?_)
  obtain ⟨hr_, hS_⟩ := hpost
  subst hr_
  subst hS_
  refine lv_aload_n hx hb dL_law_1333 rfl (lv_at hl 3 rfl) ?_
  refine p_calli (va_runV (As := []) (rest := [.int (nI 0)]) C.fix (e_X13_weak l D cy ed S H.size mm me sg cn im hL_mm hf_mm hL_me hf_me hL_sg hf_sg hL_cn hf_cn ) (cwV 0 C.2.2.2.2.1 (gU_V mw_1051 mw_1052 mw_1053 mw_5 (subU mw_1054)) rfl rfl rfl hde_law_1329_V_1 ⟨Nat.le_of_ble_eq_true rfl, Nat.le_of_ble_eq_true rfl⟩) (e_preV C hw hA hE hL_mm hf_mm rfl) rfl rfl hl.1 rfl (lv_room (Nat.le_of_ble_eq_true rfl)) dL_law_1334 ⟨(Nat.le_of_ble_eq_true rfl), (Nat.le_of_ble_eq_true rfl)⟩) hw hA (fun r4 S3 H locs hpost hw => ?_)
  obtain ⟨nl5, hr_, hS6, hfr7, hf8⟩ := hpost
  subst hr_
  have hL9 : mm ∈ S3.1 := by rw [hS6]; exact List.mem_append_left _ hL_mm
  refine n_icmp_eq (tgt := 1501) hx hb (by first | decide | omega) (by first | decide | omega) dL_law_1337 (by decide) (fun h_1337 => ?_) (fun h_1337 => ?_)
  · skip
    exact W.widen (k := 600002) (n := 7302232) (Nat.le_of_ble_eq_true rfl) (Nat.le_of_ble_eq_true rfl) (kk S3 H locs ls hw (lv_sub hl [0, 5] rfl))
  · exact absurd h_1337 (by first | decide | omega)

theorem hde_law_1342_S_0 : yL_breaks.cls ≠ "java/lang/invoke/MethodHandle" ∧ yL_breaks.cls ≠ "java/lang/invoke/VarHandle" ∧ (parseMethodDescriptor yL_breaks.desc).map (fun d => d.parameters.length) = some 3 := by decide +kernel
theorem hde_law_1342_V_1 : yX13_breaks.cls = RX13 ∧ yX13_breaks.cls ≠ "java/lang/invoke/MethodHandle" ∧ yX13_breaks.cls ≠ "java/lang/invoke/VarHandle" ∧ (parseMethodDescriptor yX13_breaks.desc).map (fun d => d.parameters.length) = some 1 := by decide +kernel
theorem hde_law_1342_V_2 : yX13_thrown.cls = RX13 ∧ yX13_thrown.cls ≠ "java/lang/invoke/MethodHandle" ∧ yX13_thrown.cls ≠ "java/lang/invoke/VarHandle" ∧ (parseMethodDescriptor yX13_thrown.desc).map (fun d => d.parameters.length) = some 0 := by decide +kernel
set_option maxHeartbeats 8000000 in
set_option maxRecDepth 100000 in
theorem e_law_1342 {p : Program} {e : Env} {s : State} {m : MethodId} {below : List Frame} {meth : Method} {c : Code} (l : Launch) (hflags : l.stackTraces = false) (D : va_G) (cy : Nat → ClassId) (ed : Nat) {b : Nat} {xs : Nat → Int32} {Q : State → Prop} {S0 : pS} {cw : Cond} (C : pC p s m #[Value.ref b] c code 10 RL (cw :: lwU) D cy) (hE : eK (pA S0 s.heap.size) ed s s.heap) (hA : ∀ q, s.heap.size ≤ q → pA S0 s.heap.size q) (hXs : va_X b 7 xs s s.heap) (hbl : b < s.heap.size) (hbA : ¬ pA S0 s.heap.size b) (S : pS) (H : Heap) (locs : List Loc) (ls : Array Slot) (x : Nat) (mm : Nat) (jo : Nat) (dd : Nat) (ch : Nat) (ln : Nat) (sl : Nat) (mk : Nat) (co : Nat) (ca : Nat) (su : Nat) (lt : Nat) (lk : Nat) (col : Nat) (con : Nat) (cor0 : Nat) (cor1 : Nat) (cor2 : Nat) (cor3 : Nat) (cor4 : Nat) (cob0 : Nat) (sul : Nat) (sun : Nat) (sur0 : Nat) (sur1 : Nat) (sur2 : Nat) (sur3 : Nat) (sur4 : Nat) (sub0 : Nat) (me : Nat) (sg : Nat) (cn : Nat) (im : Nat) (hL_x : x ∈ S.1) (hf_x : S.2 x = .inr (11, [.ref ch, .ref ln, .ref sl, .ref mk, .ref co, .ref ca, .ref su, .ref lt])) (hL_ch : ch ∈ S.1) (hf_ch : S.2 ch = .inr (2, [.ref lk, .int (nI 0)])) (hL_co : co ∈ S.1) (hf_co : S.2 co = .inr (5, [.ref col, .ref con])) (hL_col : col ∈ S.1) (hf_col : S.2 col = aQ (cy 2) 5 (va_up (va_up (va_up (va_up (va_up (fun _ => none) 0 (some cor0)) 1 (some cor1)) 2 (some cor2)) 3 (some cor3)) 4 (some cor4))) (hL_cor0 : cor0 ∈ S.1) (hf_cor0 : S.2 cor0 = .inr (8, [.ref cob0, .int (nI 0)])) (hL_cob0 : cob0 ∈ S.1) (hf_cob0 : S.2 cob0 = aN (cy 0) 32 (fun _ => 0)) (hL_su : su ∈ S.1) (hf_su : S.2 su = .inr (5, [.ref sul, .ref sun])) (hL_sul : sul ∈ S.1) (hf_sul : S.2 sul = aQ (cy 2) 5 (va_up (va_up (va_up (va_up (va_up (fun _ => none) 0 (some sur0)) 1 (some sur1)) 2 (some sur2)) 3 (some sur3)) 4 (some sur4))) (hL_sur0 : sur0 ∈ S.1) (hf_sur0 : S.2 sur0 = .inr (8, [.ref sub0, .int (nI 0)])) (hL_sub0 : sub0 ∈ S.1) (hf_sub0 : S.2 sub0 = aN (cy 0) 32 (fun _ => 0)) (hL_mm : mm ∈ S.1) (hf_mm : S.2 mm = .inr (13, [.int (nI 0), .ref me, .ref sg, .ref cn, .ref im])) (hL_me : me ∈ S.1) (hf_me : S.2 me = .inl (cy 0, 0, .inl (fun _ => 0))) (hL_sg : sg ∈ S.1) (hf_sg : S.2 sg = .inr (0, [.int (nI 0), .ref ed, .int (nI 0)])) (hL_jo : jo ∈ S.1) (hf_jo : S.2 jo = .inl (cy 6, 1, .inr (.inl (fun _ => 0)))) (hne_cob0_sub0 : cob0 ≠ sub0) (hne_cor0_sur0 : cor0 ≠ sur0) (hne_jo_sub0 : jo ≠ sub0) (hne_me_sub0 : me ≠ sub0) (hne_me_jo : me ≠ jo) (hw : pW D (pA S0 s.heap.size) s.heap S H locs) (hl : lv_has ls 10 [(5, .int (nI 0)), (4, .ref dd), (3, .ref jo), (2, .ref mm), (1, .ref x), (0, .ref b)]) (kk : ∀ (S' : pS) (H' : Heap) (locs' : List Loc) (ls' : Array Slot), pW D (pA S0 s.heap.size) s.heap S' H' locs' → lv_has ls' 10 [(5, .int (nI 0)), (0, .ref b)] → W p l e room_1 s m #[Value.ref b] below meth c H' locs' 600002 7302232 Q (F0 m 1501 ls' [])) : W p l e room_1 s m #[Value.ref b] below meth c H locs 60 5026 Q (F0 m 1342 ls []) := by
  have hx := C.1
  have hb := C.2.1
  refine lv_aload_n hx hb dL_law_1342 rfl (lv_at hl 4 rfl) ?_
  refine lv_aload_n hx hb dL_law_1343 rfl (lv_at hl 5 rfl) ?_
  refine lv_iload hx hb dL_law_1344 (lv_at hl 0 rfl) ?_
  refine lv_iconst (v := nI 1) hx hb dL_law_1346 (by decide) ?_
  refine n_iadd hx hb dL_law_1347 ?_
  refine n_ren (b := 1) (by first | rfl | omega | simp) ?_
  refine va_sld hx hb hXs hbl hbA hw.2.2 (i := nI 1) (show vp_in (nI 1) 7 from by unfold vp_in; decide) dL_law_1348 ?_
  refine lv_aload_n hx hb dL_law_1349 rfl (lv_at hl 2 rfl) ?_
  refine x_calli (vx_runSX (As := [.ref x, .int (xs (nI 1).toNatClampNeg), .ref jo]) (rest := []) C.fix (e_L_breaks l hflags D cy ed S H.size x jo ch ln sl mk co ca su lt lk col con cor0 cor1 cor2 cor3 cor4 cob0 sul sun sur0 sur1 sur2 sur3 sur4 sub0 (xs (nI 1).toNatClampNeg) (fun _ => 0) hL_x hf_x hL_ch hf_ch hL_co hf_co hL_col hf_col hL_cor0 hf_cor0 hL_cob0 hf_cob0 hL_su hf_su hL_sul hf_sul hL_sur0 hf_sur0 hL_sub0 hf_sub0 hL_jo hf_jo hne_cob0_sub0 hne_cor0_sur0 hne_jo_sub0) (vx_cwSW 3 C.2.2.2.2.1 (gU_S mw_1059 mw_1060 mw_111 (subU mw_1061)) rfl rfl rfl hde_law_1342_S_0 ⟨Nat.le_of_ble_eq_true rfl, Nat.le_of_ble_eq_true rfl⟩) (e_preS C hw hA hE) rfl rfl hl.1 rfl (lv_room (Nat.le_of_ble_eq_true rfl)) dL_law_1350 ⟨(Nat.le_of_ble_eq_true rfl), (Nat.le_of_ble_eq_true rfl)⟩) hw hA (fun E9 ce9 q9 S1 H locs hpost hw hce9 hcv9 hcl9 => ?_) (fun r2 S1 H locs hpost hw => ?_)
  · skip
    exact hpost.elim
  rcases hpost with hpost | hpost
  · skip
    obtain ⟨hc3, hr_, hS4, hfr5, hf6⟩ := hpost
    subst hr_
    have hL7 : jo ∈ S1.1 := by rw [hS4]; exact List.mem_append_left _ hL_jo
    refine lv_istore (lv' := [(6, .int (nI 0)), (5, .int (nI 0)), (4, .ref dd), (3, .ref jo), (2, .ref mm), (1, .ref x), (0, .ref b)]) hx hb dL_law_1353 hl (by decide) rfl (fun ls hl => ?_)
    refine lv_aload_n hx hb dL_law_1355 rfl (lv_at hl 4 rfl) ?_
    refine lv_aload_n hx hb dL_law_1356 rfl (lv_at hl 6 rfl) ?_
    refine lv_iload hx hb dL_law_1357 (lv_at hl 1 rfl) ?_
    refine lv_iconst (v := nI 1) hx hb dL_law_1359 (by decide) ?_
    refine n_iadd hx hb dL_law_1360 ?_
    refine n_ren (b := 1) (by first | rfl | omega | simp) ?_
    refine va_sld hx hb hXs hbl hbA hw.2.2 (i := nI 1) (show vp_in (nI 1) 7 from by unfold vp_in; decide) dL_law_1361 ?_
    have hL8 : mm ∈ S1.1 := by rw [hS4]; exact List.mem_append_left _ hL_mm
    have hf9 : S1.2 mm = .inr (13, [.int (nI 0), .ref me, .ref sg, .ref cn, .ref im]) := (hfr5 mm hL_mm (ne_cells hf_mm hf_sub0 (by nofun)) (ne_cells hf_mm hf_jo (by nofun))).trans hf_mm
    have hL10 : me ∈ S1.1 := by rw [hS4]; exact List.mem_append_left _ hL_me
    have hf11 : S1.2 me = .inl (cy 0, 0, .inl (fun _ => 0)) := (hfr5 me hL_me hne_me_sub0 hne_me_jo).trans hf_me
    have hL12 : sg ∈ S1.1 := by rw [hS4]; exact List.mem_append_left _ hL_sg
    have hf13 : S1.2 sg = .inr (0, [.int (nI 0), .ref ed, .int (nI 0)]) := (hfr5 sg hL_sg (ne_cells hf_sg hf_sub0 (by nofun)) (ne_cells hf_sg hf_jo (by nofun))).trans hf_sg
    refine p_calli (va_runV (As := [.int (xs (nI 1).toNatClampNeg)]) (rest := []) C.fix (e_X13_breaks l D cy ed S1 H.size mm me sg cn im (xs (nI 1).toNatClampNeg) hL8 hf9 hL10 hf11 hL12 hf13 ) (cwV 1 C.2.2.2.2.1 (gU_V mw_1066 mw_1067 mw_1068 mw_5 (subU mw_1069)) rfl rfl rfl hde_law_1342_V_1 ⟨Nat.le_of_ble_eq_true rfl, Nat.le_of_ble_eq_true rfl⟩) (e_preV C hw hA hE hL8 hf9 rfl) rfl rfl hl.1 rfl (lv_room (Nat.le_of_ble_eq_true rfl)) dL_law_1362 ⟨(Nat.le_of_ble_eq_true rfl), (Nat.le_of_ble_eq_true rfl)⟩) hw hA (fun r15 S14 H locs hpost hw => ?_)
    rcases hpost with hpost | hpost
    · skip
      obtain ⟨nl16, hc17, hr_, hS18, hfr19, hf20⟩ := hpost
      subst hr_
      have hL21 : mm ∈ S14.1 := by rw [hS18]; exact List.mem_append_left _ hL8
      refine lv_istore (lv' := [(7, .int (nI 0)), (6, .int (nI 0)), (5, .int (nI 0)), (4, .ref dd), (3, .ref jo), (2, .ref mm), (1, .ref x), (0, .ref b)]) hx hb dL_law_1365 hl (by decide) rfl (fun ls hl => ?_)
      refine lv_aload_n hx hb dL_law_1367 rfl (lv_at hl 5 rfl) ?_
      refine p_calli (va_runV (As := []) (rest := []) C.fix (e_X13_thrown l D cy S14 H.size mm me sg cn im 0 hL21 hf20 ) (cwV 0 C.2.2.2.2.1 (gU_V mw_544 mw_545 mw_546 mw_5 (subU mw_547)) rfl rfl rfl hde_law_1342_V_2 ⟨Nat.le_of_ble_eq_true rfl, Nat.le_of_ble_eq_true rfl⟩) (p_preV C hw hL21 hf20 rfl) rfl rfl hl.1 rfl (lv_room (Nat.le_of_ble_eq_true rfl)) dL_law_1368 ⟨(Nat.le_of_ble_eq_true rfl), (Nat.le_of_ble_eq_true rfl)⟩) hw hA (fun r23 S22 H locs hpost hw => ?_)
      obtain ⟨hr_, hS_⟩ := hpost
      subst hr_
      subst hS_
      refine lv_iload hx hb dL_law_1371 (lv_at hl 1 rfl) ?_
      refine n_icmp_eq (tgt := 1378) hx hb (by first | decide | omega) (by first | decide | omega) dL_law_1373 (by decide) (fun h_1373 => ?_) (fun h_1373 => ?_)
      · skip
        refine lv_iload hx hb dL_law_1378 (lv_at hl 1 rfl) ?_
        refine n_if_ne (tgt := 1395) hx hb (by first | decide | omega) dL_law_1380 (by decide) (fun h_1380 => ?_) (fun h_1380 => ?_)
        · exact absurd h_1380 (by first | decide | omega)
        · skip
          refine lv_aload_n hx hb dL_law_1383 rfl (lv_at hl 4 rfl) ?_
          refine lv_iconst (v := nI 0) hx hb dL_law_1384 (by decide) ?_
          have hL24 : jo ∈ S14.1 := by rw [hS18]; exact List.mem_append_left _ hL7
          have hf25 : S14.2 jo = .inl (cy 6, 1, .inr (.inl (vp_updL (fun _ => 0) 0 ((nI 0)).toInt64))) := (hfr19 jo hL7 (ne_cells hf6 hf9 (by nofun))).trans hf6
          refine p_lald C hw 6 rfl hL24 hf25 (by decide) (by decide) dL_law_1385 ?_
          refine lv_iload hx hb dL_law_1386 (lv_at hl 0 rfl) ?_
          refine lv_i2l hx hb dL_law_1388 rfl ?_
          refine W.lcmp hx hb dL_law_1389 ?_
          refine x_ren (b := 0) (by first | exact lc_self _ | exact lc_upd _ _) ?_
          refine z_if_eq (tgt := 1395) hx hb (show (0 : Int32).toInt = 0 from by decide) dL_law_1390 (by decide) (fun h_1390 => ?_) (fun h_1390 => ?_)
          · skip
            refine lv_goto (tgt := 1501) hx hb dL_law_1395 (by decide) ?_
            exact W.widen (k := 600002) (n := 7302232) (Nat.le_of_ble_eq_true rfl) (Nat.le_of_ble_eq_true rfl) (kk S14 H locs ls hw (lv_sub hl [2, 7] rfl))
          · exact absurd h_1390 (by first | decide | omega)
      · exact absurd h_1373 (by first | decide | omega)
    · skip
      obtain ⟨nl26, hc27, hr_, hS28, hfr29, hf30⟩ := hpost
      subst hr_
      have hL31 : mm ∈ S14.1 := by rw [hS28]; exact List.mem_append_left _ hL8
      refine lv_istore (lv' := [(7, .int (nI 0)), (6, .int (nI 0)), (5, .int (nI 0)), (4, .ref dd), (3, .ref jo), (2, .ref mm), (1, .ref x), (0, .ref b)]) hx hb dL_law_1365 hl (by decide) rfl (fun ls hl => ?_)
      refine lv_aload_n hx hb dL_law_1367 rfl (lv_at hl 5 rfl) ?_
      refine p_calli (va_runV (As := []) (rest := []) C.fix (e_X13_thrown l D cy S14 H.size mm me sg cn im 1 hL31 hf30 ) (cwV 0 C.2.2.2.2.1 (gU_V mw_544 mw_545 mw_546 mw_5 (subU mw_547)) rfl rfl rfl hde_law_1342_V_2 ⟨Nat.le_of_ble_eq_true rfl, Nat.le_of_ble_eq_true rfl⟩) (p_preV C hw hL31 hf30 rfl) rfl rfl hl.1 rfl (lv_room (Nat.le_of_ble_eq_true rfl)) dL_law_1368 ⟨(Nat.le_of_ble_eq_true rfl), (Nat.le_of_ble_eq_true rfl)⟩) hw hA (fun r33 S32 H locs hpost hw => ?_)
      obtain ⟨hr_, hS_⟩ := hpost
      subst hr_
      subst hS_
      refine lv_iload hx hb dL_law_1371 (lv_at hl 1 rfl) ?_
      refine n_icmp_eq (tgt := 1378) hx hb (by first | decide | omega) (by first | decide | omega) dL_law_1373 (by decide) (fun h_1373 => ?_) (fun h_1373 => ?_)
      · exact absurd h_1373 (by first | decide | omega)
      · skip
        refine lv_iconst (v := nI 0) hx hb dL_law_1376 (by decide) ?_
        contradiction
  · skip
    obtain ⟨hc34, hr_, hS_⟩ := hpost
    subst hr_
    subst hS_
    refine lv_istore (lv' := [(6, .int (nI 1)), (5, .int (nI 0)), (4, .ref dd), (3, .ref jo), (2, .ref mm), (1, .ref x), (0, .ref b)]) hx hb dL_law_1353 hl (by decide) rfl (fun ls hl => ?_)
    refine lv_aload_n hx hb dL_law_1355 rfl (lv_at hl 4 rfl) ?_
    refine lv_aload_n hx hb dL_law_1356 rfl (lv_at hl 6 rfl) ?_
    refine lv_iload hx hb dL_law_1357 (lv_at hl 1 rfl) ?_
    refine lv_iconst (v := nI 1) hx hb dL_law_1359 (by decide) ?_
    refine n_iadd hx hb dL_law_1360 ?_
    refine n_ren (b := 1) (by first | rfl | omega | simp) ?_
    refine va_sld hx hb hXs hbl hbA hw.2.2 (i := nI 1) (show vp_in (nI 1) 7 from by unfold vp_in; decide) dL_law_1361 ?_
    refine p_calli (va_runV (As := [.int (xs (nI 1).toNatClampNeg)]) (rest := []) C.fix (e_X13_breaks l D cy ed S H.size mm me sg cn im (xs (nI 1).toNatClampNeg) hL_mm hf_mm hL_me hf_me hL_sg hf_sg ) (cwV 1 C.2.2.2.2.1 (gU_V mw_1066 mw_1067 mw_1068 mw_5 (subU mw_1069)) rfl rfl rfl hde_law_1342_V_1 ⟨Nat.le_of_ble_eq_true rfl, Nat.le_of_ble_eq_true rfl⟩) (e_preV C hw hA hE hL_mm hf_mm rfl) rfl rfl hl.1 rfl (lv_room (Nat.le_of_ble_eq_true rfl)) dL_law_1362 ⟨(Nat.le_of_ble_eq_true rfl), (Nat.le_of_ble_eq_true rfl)⟩) hw hA (fun r36 S35 H locs hpost hw => ?_)
    rcases hpost with hpost | hpost
    · skip
      obtain ⟨nl37, hc38, hr_, hS39, hfr40, hf41⟩ := hpost
      subst hr_
      have hL42 : mm ∈ S35.1 := by rw [hS39]; exact List.mem_append_left _ hL_mm
      refine lv_istore (lv' := [(7, .int (nI 0)), (6, .int (nI 1)), (5, .int (nI 0)), (4, .ref dd), (3, .ref jo), (2, .ref mm), (1, .ref x), (0, .ref b)]) hx hb dL_law_1365 hl (by decide) rfl (fun ls hl => ?_)
      refine lv_aload_n hx hb dL_law_1367 rfl (lv_at hl 5 rfl) ?_
      refine p_calli (va_runV (As := []) (rest := []) C.fix (e_X13_thrown l D cy S35 H.size mm me sg cn im 0 hL42 hf41 ) (cwV 0 C.2.2.2.2.1 (gU_V mw_544 mw_545 mw_546 mw_5 (subU mw_547)) rfl rfl rfl hde_law_1342_V_2 ⟨Nat.le_of_ble_eq_true rfl, Nat.le_of_ble_eq_true rfl⟩) (p_preV C hw hL42 hf41 rfl) rfl rfl hl.1 rfl (lv_room (Nat.le_of_ble_eq_true rfl)) dL_law_1368 ⟨(Nat.le_of_ble_eq_true rfl), (Nat.le_of_ble_eq_true rfl)⟩) hw hA (fun r44 S43 H locs hpost hw => ?_)
      obtain ⟨hr_, hS_⟩ := hpost
      subst hr_
      subst hS_
      refine lv_iload hx hb dL_law_1371 (lv_at hl 1 rfl) ?_
      refine n_icmp_eq (tgt := 1378) hx hb (by first | decide | omega) (by first | decide | omega) dL_law_1373 (by decide) (fun h_1373 => ?_) (fun h_1373 => ?_)
      · exact absurd h_1373 (by first | decide | omega)
      · skip
        refine lv_iconst (v := nI 0) hx hb dL_law_1376 (by decide) ?_
        contradiction
    · skip
      obtain ⟨nl45, hc46, hr_, hS47, hfr48, hf49⟩ := hpost
      subst hr_
      have hL50 : mm ∈ S35.1 := by rw [hS47]; exact List.mem_append_left _ hL_mm
      refine lv_istore (lv' := [(7, .int (nI 0)), (6, .int (nI 1)), (5, .int (nI 0)), (4, .ref dd), (3, .ref jo), (2, .ref mm), (1, .ref x), (0, .ref b)]) hx hb dL_law_1365 hl (by decide) rfl (fun ls hl => ?_)
      refine lv_aload_n hx hb dL_law_1367 rfl (lv_at hl 5 rfl) ?_
      refine p_calli (va_runV (As := []) (rest := []) C.fix (e_X13_thrown l D cy S35 H.size mm me sg cn im 1 hL50 hf49 ) (cwV 0 C.2.2.2.2.1 (gU_V mw_544 mw_545 mw_546 mw_5 (subU mw_547)) rfl rfl rfl hde_law_1342_V_2 ⟨Nat.le_of_ble_eq_true rfl, Nat.le_of_ble_eq_true rfl⟩) (p_preV C hw hL50 hf49 rfl) rfl rfl hl.1 rfl (lv_room (Nat.le_of_ble_eq_true rfl)) dL_law_1368 ⟨(Nat.le_of_ble_eq_true rfl), (Nat.le_of_ble_eq_true rfl)⟩) hw hA (fun r52 S51 H locs hpost hw => ?_)
      obtain ⟨hr_, hS_⟩ := hpost
      subst hr_
      subst hS_
      refine lv_iload hx hb dL_law_1371 (lv_at hl 1 rfl) ?_
      refine n_icmp_eq (tgt := 1378) hx hb (by first | decide | omega) (by first | decide | omega) dL_law_1373 (by decide) (fun h_1373 => ?_) (fun h_1373 => ?_)
      · skip
        refine lv_iload hx hb dL_law_1378 (lv_at hl 1 rfl) ?_
        refine n_if_ne (tgt := 1395) hx hb (by first | decide | omega) dL_law_1380 (by decide) (fun h_1380 => ?_) (fun h_1380 => ?_)
        · skip
          refine lv_goto (tgt := 1501) hx hb dL_law_1395 (by decide) ?_
          exact W.widen (k := 600002) (n := 7302232) (Nat.le_of_ble_eq_true rfl) (Nat.le_of_ble_eq_true rfl) (kk S35 H locs ls hw (lv_sub hl [2, 7] rfl))
        · exact absurd h_1380 (by first | decide | omega)
      · exact absurd h_1373 (by first | decide | omega)

theorem hde_law_1398_S_0 : yL_meanErrors.cls ≠ "java/lang/invoke/MethodHandle" ∧ yL_meanErrors.cls ≠ "java/lang/invoke/VarHandle" ∧ (parseMethodDescriptor yL_meanErrors.desc).map (fun d => d.parameters.length) = some 4 := by decide +kernel
theorem hde_law_1398_V_1 : yX13_meanErrors.cls = RX13 ∧ yX13_meanErrors.cls ≠ "java/lang/invoke/MethodHandle" ∧ yX13_meanErrors.cls ≠ "java/lang/invoke/VarHandle" ∧ (parseMethodDescriptor yX13_meanErrors.desc).map (fun d => d.parameters.length) = some 2 := by decide +kernel
theorem hde_law_1398_V_2 : yX13_thrown.cls = RX13 ∧ yX13_thrown.cls ≠ "java/lang/invoke/MethodHandle" ∧ yX13_thrown.cls ≠ "java/lang/invoke/VarHandle" ∧ (parseMethodDescriptor yX13_thrown.desc).map (fun d => d.parameters.length) = some 0 := by decide +kernel
set_option maxHeartbeats 8000000 in
set_option maxRecDepth 100000 in
theorem e_law_1398 {p : Program} {e : Env} {s : State} {m : MethodId} {below : List Frame} {meth : Method} {c : Code} (l : Launch) (hflags : l.stackTraces = false) (D : va_G) (cy : Nat → ClassId) (ed : Nat) {b : Nat} {xs : Nat → Int32} {Q : State → Prop} {S0 : pS} {cw : Cond} (C : pC p s m #[Value.ref b] c code 10 RL (cw :: lwU) D cy) (hE : eK (pA S0 s.heap.size) ed s s.heap) (hA : ∀ q, s.heap.size ≤ q → pA S0 s.heap.size q) (hXs : va_X b 7 xs s s.heap) (hbl : b < s.heap.size) (hbA : ¬ pA S0 s.heap.size b) (S : pS) (H : Heap) (locs : List Loc) (ls : Array Slot) (x : Nat) (mm : Nat) (jo : Nat) (dd : Nat) (ch : Nat) (ln : Nat) (sl : Nat) (mk : Nat) (co : Nat) (ca : Nat) (su : Nat) (lt : Nat) (lk : Nat) (mb : Nat) (col : Nat) (con : Nat) (cor0 : Nat) (cor1 : Nat) (cor2 : Nat) (cor3 : Nat) (cor4 : Nat) (cob0 : Nat) (sul : Nat) (sun : Nat) (sur0 : Nat) (sur1 : Nat) (sur2 : Nat) (sur3 : Nat) (sur4 : Nat) (sub0 : Nat) (me : Nat) (sg : Nat) (cn : Nat) (im : Nat) (hL_x : x ∈ S.1) (hf_x : S.2 x = .inr (11, [.ref ch, .ref ln, .ref sl, .ref mk, .ref co, .ref ca, .ref su, .ref lt])) (hL_ch : ch ∈ S.1) (hf_ch : S.2 ch = .inr (2, [.ref lk, .int (nI 0)])) (hL_sl : sl ∈ S.1) (hf_sl : S.2 sl = .inr (6, [.int (nI 0), .int (nI 0), .int (nI 0), .int (nI 0)])) (hL_mk : mk ∈ S.1) (hf_mk : S.2 mk = .inr (8, [.ref mb, .int (nI 320)])) (hL_mb : mb ∈ S.1) (hf_mb : S.2 mb = aN (cy 0) 320 (fun _ => 0)) (hL_co : co ∈ S.1) (hf_co : S.2 co = .inr (5, [.ref col, .ref con])) (hL_col : col ∈ S.1) (hf_col : S.2 col = aQ (cy 2) 5 (va_up (va_up (va_up (va_up (va_up (fun _ => none) 0 (some cor0)) 1 (some cor1)) 2 (some cor2)) 3 (some cor3)) 4 (some cor4))) (hL_cor0 : cor0 ∈ S.1) (hf_cor0 : S.2 cor0 = .inr (8, [.ref cob0, .int (nI 0)])) (hL_cob0 : cob0 ∈ S.1) (hf_cob0 : S.2 cob0 = aN (cy 0) 32 (fun _ => 0)) (hL_su : su ∈ S.1) (hf_su : S.2 su = .inr (5, [.ref sul, .ref sun])) (hL_sul : sul ∈ S.1) (hf_sul : S.2 sul = aQ (cy 2) 5 (va_up (va_up (va_up (va_up (va_up (fun _ => none) 0 (some sur0)) 1 (some sur1)) 2 (some sur2)) 3 (some sur3)) 4 (some sur4))) (hL_sur0 : sur0 ∈ S.1) (hf_sur0 : S.2 sur0 = .inr (8, [.ref sub0, .int (nI 0)])) (hL_sub0 : sub0 ∈ S.1) (hf_sub0 : S.2 sub0 = aN (cy 0) 32 (fun _ => 0)) (hL_mm : mm ∈ S.1) (hf_mm : S.2 mm = .inr (13, [.int (nI 0), .ref me, .ref sg, .ref cn, .ref im])) (hL_me : me ∈ S.1) (hf_me : S.2 me = .inl (cy 0, 0, .inl (fun _ => 0))) (hL_sg : sg ∈ S.1) (hf_sg : S.2 sg = .inr (0, [.int (nI 0), .ref ed, .int (nI 0)])) (hL_dd : dd ∈ S.1) (hf_dd : S.2 dd = .inl (cy 7, 1, .inr (.inr (.inr (.inl (fun _ => 0)))))) (hne_mk_sur0 : mk ≠ sur0) (hne_mb_sub0 : mb ≠ sub0) (hne_cor0_sur0 : cor0 ≠ sur0) (hne_cob0_sub0 : cob0 ≠ sub0) (hne_dd_sub0 : dd ≠ sub0) (hne_me_sub0 : me ≠ sub0) (hne_me_dd : me ≠ dd) (hw : pW D (pA S0 s.heap.size) s.heap S H locs) (hl : lv_has ls 10 [(5, .int (nI 0)), (4, .ref dd), (3, .ref jo), (2, .ref mm), (1, .ref x), (0, .ref b)]) (kk : ∀ (S' : pS) (H' : Heap) (locs' : List Loc) (ls' : Array Slot), pW D (pA S0 s.heap.size) s.heap S' H' locs' → lv_has ls' 10 [(5, .int (nI 0)), (0, .ref b)] → W p l e room_1 s m #[Value.ref b] below meth c H' locs' 600002 7302232 Q (F0 m 1501 ls' [])) : W p l e room_1 s m #[Value.ref b] below meth c H locs 60 5026 Q (F0 m 1398 ls []) := by
  have hx := C.1
  have hb := C.2.1
  refine lv_aload_n hx hb dL_law_1398 rfl (lv_at hl 4 rfl) ?_
  refine lv_aload_n hx hb dL_law_1399 rfl (lv_at hl 5 rfl) ?_
  refine lv_iload hx hb dL_law_1400 (lv_at hl 0 rfl) ?_
  refine lv_iconst (v := nI 1) hx hb dL_law_1402 (by decide) ?_
  refine n_iadd hx hb dL_law_1403 ?_
  refine n_ren (b := 1) (by first | rfl | omega | simp) ?_
  refine va_sld hx hb hXs hbl hbA hw.2.2 (i := nI 1) (show vp_in (nI 1) 7 from by unfold vp_in; decide) dL_law_1404 ?_
  refine lv_aload_n hx hb dL_law_1405 rfl (lv_at hl 5 rfl) ?_
  refine lv_iload hx hb dL_law_1406 (lv_at hl 0 rfl) ?_
  refine lv_iconst (v := nI 2) hx hb dL_law_1408 (by decide) ?_
  refine n_iadd hx hb dL_law_1409 ?_
  refine n_ren (b := 2) (by first | rfl | omega | simp) ?_
  refine va_sld hx hb hXs hbl hbA hw.2.2 (i := nI 2) (show vp_in (nI 2) 7 from by unfold vp_in; decide) dL_law_1410 ?_
  refine lv_aload hx hb dL_law_1411 (lv_at hl 1 rfl) ?_
  refine x_calli (vx_runSX (As := [.ref x, .int (xs (nI 1).toNatClampNeg), .int (xs (nI 2).toNatClampNeg), .ref dd]) (rest := []) C.fix (e_L_meanErrors l hflags D cy ed S H.size x dd ch ln sl mk co ca su lt lk mb col con cor0 cor1 cor2 cor3 cor4 cob0 sul sun sur0 sur1 sur2 sur3 sur4 sub0 (xs (nI 1).toNatClampNeg) (xs (nI 2).toNatClampNeg) (fun _ => 0) hL_x hf_x hL_ch hf_ch hL_sl hf_sl hL_mk hf_mk hL_mb hf_mb hL_co hf_co hL_col hf_col hL_cor0 hf_cor0 hL_cob0 hf_cob0 hL_su hf_su hL_sul hf_sul hL_sur0 hf_sur0 hL_sub0 hf_sub0 hL_dd hf_dd hne_mk_sur0 hne_mb_sub0 hne_cor0_sur0 hne_cob0_sub0 hne_dd_sub0) (vx_cwSW 4 C.2.2.2.2.1 (gU_S mw_1074 mw_1075 mw_111 (subU mw_1076)) rfl rfl rfl hde_law_1398_S_0 ⟨Nat.le_of_ble_eq_true rfl, Nat.le_of_ble_eq_true rfl⟩) (e_preS C hw hA hE) rfl rfl hl.1 rfl (lv_room (Nat.le_of_ble_eq_true rfl)) dL_law_1413 ⟨(Nat.le_of_ble_eq_true rfl), (Nat.le_of_ble_eq_true rfl)⟩) hw hA (fun E9 ce9 q9 S1 H locs hpost hw hce9 hcv9 hcl9 => ?_) (fun r2 S1 H locs hpost hw => ?_)
  · skip
    exact hpost.elim
  rcases hpost with hpost | hpost
  · skip
    obtain ⟨hc3, hr_, hS4, hfr5, hf6⟩ := hpost
    subst hr_
    have hL7 : dd ∈ S1.1 := by rw [hS4]; exact List.mem_append_left _ hL_dd
    refine lv_istore (lv' := [(6, .int (nI 0)), (5, .int (nI 0)), (4, .ref dd), (3, .ref jo), (2, .ref mm), (1, .ref x), (0, .ref b)]) hx hb dL_law_1416 hl (by decide) rfl (fun ls hl => ?_)
    refine lv_aload_n hx hb dL_law_1418 rfl (lv_at hl 4 rfl) ?_
    refine lv_aload_n hx hb dL_law_1419 rfl (lv_at hl 6 rfl) ?_
    refine lv_iload hx hb dL_law_1420 (lv_at hl 1 rfl) ?_
    refine lv_iconst (v := nI 1) hx hb dL_law_1422 (by decide) ?_
    refine n_iadd hx hb dL_law_1423 ?_
    refine n_ren (b := 1) (by first | rfl | omega | simp) ?_
    refine va_sld hx hb hXs hbl hbA hw.2.2 (i := nI 1) (show vp_in (nI 1) 7 from by unfold vp_in; decide) dL_law_1424 ?_
    refine lv_aload_n hx hb dL_law_1425 rfl (lv_at hl 6 rfl) ?_
    refine lv_iload hx hb dL_law_1426 (lv_at hl 1 rfl) ?_
    refine lv_iconst (v := nI 2) hx hb dL_law_1428 (by decide) ?_
    refine n_iadd hx hb dL_law_1429 ?_
    refine n_ren (b := 2) (by first | rfl | omega | simp) ?_
    refine va_sld hx hb hXs hbl hbA hw.2.2 (i := nI 2) (show vp_in (nI 2) 7 from by unfold vp_in; decide) dL_law_1430 ?_
    have hL8 : mm ∈ S1.1 := by rw [hS4]; exact List.mem_append_left _ hL_mm
    have hf9 : S1.2 mm = .inr (13, [.int (nI 0), .ref me, .ref sg, .ref cn, .ref im]) := (hfr5 mm hL_mm (ne_cells hf_mm hf_sl (by nofun)) (ne_cells hf_mm hf_sur0 (by nofun)) (ne_cells hf_mm hf_sub0 (by nofun)) (ne_cells hf_mm hf_dd (by nofun))).trans hf_mm
    have hL10 : me ∈ S1.1 := by rw [hS4]; exact List.mem_append_left _ hL_me
    have hf11 : S1.2 me = .inl (cy 0, 0, .inl (fun _ => 0)) := (hfr5 me hL_me (ne_cells hf_me hf_sl (by nofun)) (ne_cells hf_me hf_sur0 (by nofun)) hne_me_sub0 hne_me_dd).trans hf_me
    have hL12 : sg ∈ S1.1 := by rw [hS4]; exact List.mem_append_left _ hL_sg
    have hf13 : S1.2 sg = .inr (0, [.int (nI 0), .ref ed, .int (nI 0)]) := (hfr5 sg hL_sg (ne_cells hf_sg hf_sl (by nofun)) (ne_cells hf_sg hf_sur0 (by nofun)) (ne_cells hf_sg hf_sub0 (by nofun)) (ne_cells hf_sg hf_dd (by nofun))).trans hf_sg
    refine p_calld (va_runV (As := [.int (xs (nI 1).toNatClampNeg), .int (xs (nI 2).toNatClampNeg)]) (rest := []) C.fix (e_X13_meanErrors l D cy ed S1 H.size mm me sg cn im (xs (nI 1).toNatClampNeg) (xs (nI 2).toNatClampNeg) hL8 hf9 hL10 hf11 hL12 hf13 ) (cwV 2 C.2.2.2.2.1 (gU_V mw_1081 mw_1082 mw_1083 mw_5 (subU mw_1084)) rfl rfl rfl hde_law_1398_V_1 ⟨Nat.le_of_ble_eq_true rfl, Nat.le_of_ble_eq_true rfl⟩) (e_preV C hw hA hE hL8 hf9 rfl) rfl rfl hl.1 rfl (lv_room (Nat.le_of_ble_eq_true rfl)) dL_law_1431 ⟨(Nat.le_of_ble_eq_true rfl), (Nat.le_of_ble_eq_true rfl)⟩) hw hA (fun r15 S14 H locs hpost hw => ?_)
    rcases hpost with hpost | hpost
    · skip
      obtain ⟨nl16, hc17, hr_, hS18, hfr19, hf20⟩ := hpost
      subst hr_
      have hL21 : mm ∈ S14.1 := by rw [hS18]; exact List.mem_append_left _ hL8
      refine lv_dstore (lv' := [(7, .double FP.dconst0), (6, .int (nI 0)), (5, .int (nI 0)), (4, .ref dd), (3, .ref jo), (2, .ref mm), (1, .ref x), (0, .ref b)]) hx hb dL_law_1434 hl (by decide) rfl (fun ls hl => ?_)
      refine lv_aload_n hx hb dL_law_1436 rfl (lv_at hl 5 rfl) ?_
      refine p_calli (va_runV (As := []) (rest := []) C.fix (e_X13_thrown l D cy S14 H.size mm me sg cn im 0 hL21 hf20 ) (cwV 0 C.2.2.2.2.1 (gU_V mw_544 mw_545 mw_546 mw_5 (subU mw_547)) rfl rfl rfl hde_law_1398_V_2 ⟨Nat.le_of_ble_eq_true rfl, Nat.le_of_ble_eq_true rfl⟩) (p_preV C hw hL21 hf20 rfl) rfl rfl hl.1 rfl (lv_room (Nat.le_of_ble_eq_true rfl)) dL_law_1437 ⟨(Nat.le_of_ble_eq_true rfl), (Nat.le_of_ble_eq_true rfl)⟩) hw hA (fun r23 S22 H locs hpost hw => ?_)
      obtain ⟨hr_, hS_⟩ := hpost
      subst hr_
      subst hS_
      refine lv_iload hx hb dL_law_1440 (lv_at hl 1 rfl) ?_
      refine n_icmp_eq (tgt := 1447) hx hb (by first | decide | omega) (by first | decide | omega) dL_law_1442 (by decide) (fun h_1442 => ?_) (fun h_1442 => ?_)
      · skip
        refine lv_iload hx hb dL_law_1447 (lv_at hl 1 rfl) ?_
        refine n_if_ne (tgt := 1484) hx hb (by first | decide | omega) dL_law_1449 (by decide) (fun h_1449 => ?_) (fun h_1449 => ?_)
        · exact absurd h_1449 (by first | decide | omega)
        · skip
          refine lv_aload hx hb dL_law_1452 (lv_at hl 3 rfl) ?_
          refine lv_iconst (v := nI 0) hx hb dL_law_1454 (by decide) ?_
          have hL24 : dd ∈ S14.1 := by rw [hS18]; exact List.mem_append_left _ hL7
          have hf25 : S14.2 dd = .inl (cy 7, 1, .inr (.inr (.inr (.inl (vf_upd (fun _ => 0) 0 FP.dconst0))))) := (hfr19 dd hL7 (ne_cells hf6 hf9 (by nofun))).trans hf6
          refine p_dald C hw 7 rfl hL24 hf25 (by decide) (by decide) dL_law_1455 ?_
          refine lv_dload hx hb dL_law_1456 (lv_at hl 0 rfl) ?_
          refine lv_dcmp hx hb dL_law_1458 ?_
          refine x_ren (b := 0) (by first | exact dc_self | exact dc_upd) ?_
          refine z_if_eq (tgt := 1484) hx hb (show (0 : Int32).toInt = 0 from by decide) dL_law_1459 (by decide) (fun h_1459 => ?_) (fun h_1459 => ?_)
          · skip
            refine lv_goto (tgt := 1501) hx hb dL_law_1484 (by decide) ?_
            exact W.widen (k := 600002) (n := 7302232) (Nat.le_of_ble_eq_true rfl) (Nat.le_of_ble_eq_true rfl) (kk S14 H locs ls hw (lv_sub hl [2, 7] rfl))
          · exact absurd h_1459 (by first | decide | omega)
      · exact absurd h_1442 (by first | decide | omega)
    · skip
      obtain ⟨nl26, hc27, hr_, hS28, hfr29, hf30⟩ := hpost
      subst hr_
      have hL31 : mm ∈ S14.1 := by rw [hS28]; exact List.mem_append_left _ hL8
      refine lv_dstore (lv' := [(7, .double FP.dconst0), (6, .int (nI 0)), (5, .int (nI 0)), (4, .ref dd), (3, .ref jo), (2, .ref mm), (1, .ref x), (0, .ref b)]) hx hb dL_law_1434 hl (by decide) rfl (fun ls hl => ?_)
      refine lv_aload_n hx hb dL_law_1436 rfl (lv_at hl 5 rfl) ?_
      refine p_calli (va_runV (As := []) (rest := []) C.fix (e_X13_thrown l D cy S14 H.size mm me sg cn im 1 hL31 hf30 ) (cwV 0 C.2.2.2.2.1 (gU_V mw_544 mw_545 mw_546 mw_5 (subU mw_547)) rfl rfl rfl hde_law_1398_V_2 ⟨Nat.le_of_ble_eq_true rfl, Nat.le_of_ble_eq_true rfl⟩) (p_preV C hw hL31 hf30 rfl) rfl rfl hl.1 rfl (lv_room (Nat.le_of_ble_eq_true rfl)) dL_law_1437 ⟨(Nat.le_of_ble_eq_true rfl), (Nat.le_of_ble_eq_true rfl)⟩) hw hA (fun r33 S32 H locs hpost hw => ?_)
      obtain ⟨hr_, hS_⟩ := hpost
      subst hr_
      subst hS_
      refine lv_iload hx hb dL_law_1440 (lv_at hl 1 rfl) ?_
      refine n_icmp_eq (tgt := 1447) hx hb (by first | decide | omega) (by first | decide | omega) dL_law_1442 (by decide) (fun h_1442 => ?_) (fun h_1442 => ?_)
      · exact absurd h_1442 (by first | decide | omega)
      · skip
        refine lv_iconst (v := nI 0) hx hb dL_law_1445 (by decide) ?_
        contradiction
  · skip
    obtain ⟨hc34, hr_, hS_⟩ := hpost
    subst hr_
    subst hS_
    refine lv_istore (lv' := [(6, .int (nI 1)), (5, .int (nI 0)), (4, .ref dd), (3, .ref jo), (2, .ref mm), (1, .ref x), (0, .ref b)]) hx hb dL_law_1416 hl (by decide) rfl (fun ls hl => ?_)
    refine lv_aload_n hx hb dL_law_1418 rfl (lv_at hl 4 rfl) ?_
    refine lv_aload_n hx hb dL_law_1419 rfl (lv_at hl 6 rfl) ?_
    refine lv_iload hx hb dL_law_1420 (lv_at hl 1 rfl) ?_
    refine lv_iconst (v := nI 1) hx hb dL_law_1422 (by decide) ?_
    refine n_iadd hx hb dL_law_1423 ?_
    refine n_ren (b := 1) (by first | rfl | omega | simp) ?_
    refine va_sld hx hb hXs hbl hbA hw.2.2 (i := nI 1) (show vp_in (nI 1) 7 from by unfold vp_in; decide) dL_law_1424 ?_
    refine lv_aload_n hx hb dL_law_1425 rfl (lv_at hl 6 rfl) ?_
    refine lv_iload hx hb dL_law_1426 (lv_at hl 1 rfl) ?_
    refine lv_iconst (v := nI 2) hx hb dL_law_1428 (by decide) ?_
    refine n_iadd hx hb dL_law_1429 ?_
    refine n_ren (b := 2) (by first | rfl | omega | simp) ?_
    refine va_sld hx hb hXs hbl hbA hw.2.2 (i := nI 2) (show vp_in (nI 2) 7 from by unfold vp_in; decide) dL_law_1430 ?_
    refine p_calld (va_runV (As := [.int (xs (nI 1).toNatClampNeg), .int (xs (nI 2).toNatClampNeg)]) (rest := []) C.fix (e_X13_meanErrors l D cy ed S H.size mm me sg cn im (xs (nI 1).toNatClampNeg) (xs (nI 2).toNatClampNeg) hL_mm hf_mm hL_me hf_me hL_sg hf_sg ) (cwV 2 C.2.2.2.2.1 (gU_V mw_1081 mw_1082 mw_1083 mw_5 (subU mw_1084)) rfl rfl rfl hde_law_1398_V_1 ⟨Nat.le_of_ble_eq_true rfl, Nat.le_of_ble_eq_true rfl⟩) (e_preV C hw hA hE hL_mm hf_mm rfl) rfl rfl hl.1 rfl (lv_room (Nat.le_of_ble_eq_true rfl)) dL_law_1431 ⟨(Nat.le_of_ble_eq_true rfl), (Nat.le_of_ble_eq_true rfl)⟩) hw hA (fun r36 S35 H locs hpost hw => ?_)
    rcases hpost with hpost | hpost
    · skip
      obtain ⟨nl37, hc38, hr_, hS39, hfr40, hf41⟩ := hpost
      subst hr_
      have hL42 : mm ∈ S35.1 := by rw [hS39]; exact List.mem_append_left _ hL_mm
      refine lv_dstore (lv' := [(7, .double FP.dconst0), (6, .int (nI 1)), (5, .int (nI 0)), (4, .ref dd), (3, .ref jo), (2, .ref mm), (1, .ref x), (0, .ref b)]) hx hb dL_law_1434 hl (by decide) rfl (fun ls hl => ?_)
      refine lv_aload_n hx hb dL_law_1436 rfl (lv_at hl 5 rfl) ?_
      refine p_calli (va_runV (As := []) (rest := []) C.fix (e_X13_thrown l D cy S35 H.size mm me sg cn im 0 hL42 hf41 ) (cwV 0 C.2.2.2.2.1 (gU_V mw_544 mw_545 mw_546 mw_5 (subU mw_547)) rfl rfl rfl hde_law_1398_V_2 ⟨Nat.le_of_ble_eq_true rfl, Nat.le_of_ble_eq_true rfl⟩) (p_preV C hw hL42 hf41 rfl) rfl rfl hl.1 rfl (lv_room (Nat.le_of_ble_eq_true rfl)) dL_law_1437 ⟨(Nat.le_of_ble_eq_true rfl), (Nat.le_of_ble_eq_true rfl)⟩) hw hA (fun r44 S43 H locs hpost hw => ?_)
      obtain ⟨hr_, hS_⟩ := hpost
      subst hr_
      subst hS_
      refine lv_iload hx hb dL_law_1440 (lv_at hl 1 rfl) ?_
      refine n_icmp_eq (tgt := 1447) hx hb (by first | decide | omega) (by first | decide | omega) dL_law_1442 (by decide) (fun h_1442 => ?_) (fun h_1442 => ?_)
      · exact absurd h_1442 (by first | decide | omega)
      · skip
        refine lv_iconst (v := nI 0) hx hb dL_law_1445 (by decide) ?_
        contradiction
    · skip
      obtain ⟨nl45, hc46, hr_, hS47, hfr48, hf49⟩ := hpost
      subst hr_
      have hL50 : mm ∈ S35.1 := by rw [hS47]; exact List.mem_append_left _ hL_mm
      refine lv_dstore (lv' := [(7, .double FP.dconst0), (6, .int (nI 1)), (5, .int (nI 0)), (4, .ref dd), (3, .ref jo), (2, .ref mm), (1, .ref x), (0, .ref b)]) hx hb dL_law_1434 hl (by decide) rfl (fun ls hl => ?_)
      refine lv_aload_n hx hb dL_law_1436 rfl (lv_at hl 5 rfl) ?_
      refine p_calli (va_runV (As := []) (rest := []) C.fix (e_X13_thrown l D cy S35 H.size mm me sg cn im 1 hL50 hf49 ) (cwV 0 C.2.2.2.2.1 (gU_V mw_544 mw_545 mw_546 mw_5 (subU mw_547)) rfl rfl rfl hde_law_1398_V_2 ⟨Nat.le_of_ble_eq_true rfl, Nat.le_of_ble_eq_true rfl⟩) (p_preV C hw hL50 hf49 rfl) rfl rfl hl.1 rfl (lv_room (Nat.le_of_ble_eq_true rfl)) dL_law_1437 ⟨(Nat.le_of_ble_eq_true rfl), (Nat.le_of_ble_eq_true rfl)⟩) hw hA (fun r52 S51 H locs hpost hw => ?_)
      obtain ⟨hr_, hS_⟩ := hpost
      subst hr_
      subst hS_
      refine lv_iload hx hb dL_law_1440 (lv_at hl 1 rfl) ?_
      refine n_icmp_eq (tgt := 1447) hx hb (by first | decide | omega) (by first | decide | omega) dL_law_1442 (by decide) (fun h_1442 => ?_) (fun h_1442 => ?_)
      · skip
        refine lv_iload hx hb dL_law_1447 (lv_at hl 1 rfl) ?_
        refine n_if_ne (tgt := 1484) hx hb (by first | decide | omega) dL_law_1449 (by decide) (fun h_1449 => ?_) (fun h_1449 => ?_)
        · skip
          refine lv_goto (tgt := 1501) hx hb dL_law_1484 (by decide) ?_
          exact W.widen (k := 600002) (n := 7302232) (Nat.le_of_ble_eq_true rfl) (Nat.le_of_ble_eq_true rfl) (kk S35 H locs ls hw (lv_sub hl [2, 7] rfl))
        · exact absurd h_1449 (by first | decide | omega)
      · exact absurd h_1442 (by first | decide | omega)

theorem hde_law_1487_V_0 : yX11_digest.cls = RX11 ∧ yX11_digest.cls ≠ "java/lang/invoke/MethodHandle" ∧ yX11_digest.cls ≠ "java/lang/invoke/VarHandle" ∧ (parseMethodDescriptor yX11_digest.desc).map (fun d => d.parameters.length) = some 0 := by decide +kernel
theorem hde_law_1487_V_1 : yX13_digest.cls = RX13 ∧ yX13_digest.cls ≠ "java/lang/invoke/MethodHandle" ∧ yX13_digest.cls ≠ "java/lang/invoke/VarHandle" ∧ (parseMethodDescriptor yX13_digest.desc).map (fun d => d.parameters.length) = some 0 := by decide +kernel
set_option maxHeartbeats 8000000 in
set_option maxRecDepth 100000 in
theorem e_law_1487 {p : Program} {e : Env} {s : State} {m : MethodId} {below : List Frame} {meth : Method} {c : Code} (l : Launch) (hflags : l.stackTraces = false) (D : va_G) (cy : Nat → ClassId) (ed : Nat) {b : Nat} {xs : Nat → Int32} {Q : State → Prop} {S0 : pS} {cw : Cond} (C : pC p s m #[Value.ref b] c code 10 RL (cw :: lwU) D cy) (hE : eK (pA S0 s.heap.size) ed s s.heap) (hA : ∀ q, s.heap.size ≤ q → pA S0 s.heap.size q) (hXs : va_X b 7 xs s s.heap) (hbl : b < s.heap.size) (hbA : ¬ pA S0 s.heap.size b) (S : pS) (H : Heap) (locs : List Loc) (ls : Array Slot) (x : Nat) (mm : Nat) (jo : Nat) (dd : Nat) (ch : Nat) (ln : Nat) (sl : Nat) (mk : Nat) (co : Nat) (ca : Nat) (su : Nat) (lt : Nat) (lk : Nat) (col : Nat) (con : Nat) (cor0 : Nat) (cor1 : Nat) (cor2 : Nat) (cor3 : Nat) (cor4 : Nat) (cob0 : Nat) (cal : Nat) (can : Nat) (car0 : Nat) (car1 : Nat) (car2 : Nat) (car3 : Nat) (car4 : Nat) (sul : Nat) (sun : Nat) (sur0 : Nat) (sur1 : Nat) (sur2 : Nat) (sur3 : Nat) (sur4 : Nat) (sub0 : Nat) (me : Nat) (sg : Nat) (cn : Nat) (im : Nat) (hL_x : x ∈ S.1) (hf_x : S.2 x = .inr (11, [.ref ch, .ref ln, .ref sl, .ref mk, .ref co, .ref ca, .ref su, .ref lt])) (hL_ch : ch ∈ S.1) (hf_ch : S.2 ch = .inr (2, [.ref lk, .int (nI 0)])) (hL_co : co ∈ S.1) (hf_co : S.2 co = .inr (5, [.ref col, .ref con])) (hL_col : col ∈ S.1) (hf_col : S.2 col = aQ (cy 2) 5 (va_up (va_up (va_up (va_up (va_up (fun _ => none) 0 (some cor0)) 1 (some cor1)) 2 (some cor2)) 3 (some cor3)) 4 (some cor4))) (hL_cor0 : cor0 ∈ S.1) (hf_cor0 : S.2 cor0 = .inr (8, [.ref cob0, .int (nI 0)])) (hL_cob0 : cob0 ∈ S.1) (hf_cob0 : S.2 cob0 = aN (cy 0) 32 (fun _ => 0)) (hL_ca : ca ∈ S.1) (hf_ca : S.2 ca = .inr (5, [.ref cal, .ref can])) (hL_cal : cal ∈ S.1) (hf_cal : S.2 cal = aQ (cy 2) 5 (va_up (va_up (va_up (va_up (va_up (fun _ => none) 0 (some car0)) 1 (some car1)) 2 (some car2)) 3 (some car3)) 4 (some car4))) (hL_su : su ∈ S.1) (hf_su : S.2 su = .inr (5, [.ref sul, .ref sun])) (hL_sul : sul ∈ S.1) (hf_sul : S.2 sul = aQ (cy 2) 5 (va_up (va_up (va_up (va_up (va_up (fun _ => none) 0 (some sur0)) 1 (some sur1)) 2 (some sur2)) 3 (some sur3)) 4 (some sur4))) (hL_sur0 : sur0 ∈ S.1) (hf_sur0 : S.2 sur0 = .inr (8, [.ref sub0, .int (nI 0)])) (hL_sub0 : sub0 ∈ S.1) (hf_sub0 : S.2 sub0 = aN (cy 0) 32 (fun _ => 0)) (hL_mm : mm ∈ S.1) (hf_mm : S.2 mm = .inr (13, [.int (nI 0), .ref me, .ref sg, .ref cn, .ref im])) (hL_me : me ∈ S.1) (hf_me : S.2 me = .inl (cy 0, 0, .inl (fun _ => 0))) (hL_sg : sg ∈ S.1) (hf_sg : S.2 sg = .inr (0, [.int (nI 0), .ref ed, .int (nI 0)])) (hL_cn : cn ∈ S.1) (hf_cn : S.2 cn = .inl (cy 0, 4, .inl (upd (upd (upd (upd (fun _ => 0) 0 (nI 0)) 1 (nI 0)) 2 (nI 0)) 3 (nI 1)))) (hne_cob0_sub0 : cob0 ≠ sub0) (hne_cor0_sur0 : cor0 ≠ sur0) (hne_me_sub0 : me ≠ sub0) (hne_cn_sub0 : cn ≠ sub0) (hw : pW D (pA S0 s.heap.size) s.heap S H locs) (hl : lv_has ls 10 [(5, .int (nI 0)), (4, .ref dd), (3, .ref jo), (2, .ref mm), (1, .ref x), (0, .ref b)]) (kk : ∀ (S' : pS) (H' : Heap) (locs' : List Loc) (ls' : Array Slot), pW D (pA S0 s.heap.size) s.heap S' H' locs' → lv_has ls' 10 [(5, .int (nI 0)), (0, .ref b)] → W p l e room_1 s m #[Value.ref b] below meth c H' locs' 600002 7302232 Q (F0 m 1501 ls' [])) : W p l e room_1 s m #[Value.ref b] below meth c H locs 60 5026 Q (F0 m 1487 ls []) := by
  have hx := C.1
  have hb := C.2.1
  refine lv_aload_n hx hb dL_law_1487 rfl (lv_at hl 4 rfl) ?_
  refine p_calll (va_runV (As := []) (rest := []) C.fix (e_X11_digest l D cy S H.size x ch ln sl mk co ca su lt lk col con cor0 cor1 cor2 cor3 cor4 cob0 cal can car0 car1 car2 car3 car4 sul sun sur0 sur1 sur2 sur3 sur4 sub0 hL_x hf_x hL_ch hf_ch hL_co hf_co hL_col hf_col hL_cor0 hf_cor0 hL_cob0 hf_cob0 hL_ca hf_ca hL_cal hf_cal hL_su hf_su hL_sul hf_sul hL_sur0 hf_sur0 hL_sub0 hf_sub0 hne_cob0_sub0 hne_cor0_sur0) (cwV 0 C.2.2.2.2.1 (gU_V mw_1085 mw_1086 mw_1087 mw_2 (subU mw_1088)) rfl rfl rfl hde_law_1487_V_0 ⟨Nat.le_of_ble_eq_true rfl, Nat.le_of_ble_eq_true rfl⟩) (p_preV C hw hL_x hf_x rfl) rfl rfl hl.1 rfl (lv_room (Nat.le_of_ble_eq_true rfl)) dL_law_1488 ⟨(Nat.le_of_ble_eq_true rfl), (Nat.le_of_ble_eq_true rfl)⟩) hw hA (fun r2 S1 H locs hpost hw => ?_)
  obtain ⟨hr_, hS3, hfr4⟩ := hpost
  subst hr_
  refine lv_aload_n hx hb dL_law_1491 rfl (lv_at hl 3 rfl) ?_
  have hL5 : mm ∈ S1.1 := by rw [hS3]; exact List.mem_append_left _ hL_mm
  have hf6 : S1.2 mm = .inr (13, [.int (nI 0), .ref me, .ref sg, .ref cn, .ref im]) := (hfr4 mm hL_mm (ne_cells hf_mm hf_sub0 (by nofun))).trans hf_mm
  have hL7 : me ∈ S1.1 := by rw [hS3]; exact List.mem_append_left _ hL_me
  have hf8 : S1.2 me = .inl (cy 0, 0, .inl (fun _ => 0)) := (hfr4 me hL_me hne_me_sub0).trans hf_me
  have hL9 : sg ∈ S1.1 := by rw [hS3]; exact List.mem_append_left _ hL_sg
  have hf10 : S1.2 sg = .inr (0, [.int (nI 0), .ref ed, .int (nI 0)]) := (hfr4 sg hL_sg (ne_cells hf_sg hf_sub0 (by nofun))).trans hf_sg
  have hL11 : cn ∈ S1.1 := by rw [hS3]; exact List.mem_append_left _ hL_cn
  have hf12 : S1.2 cn = .inl (cy 0, 4, .inl (upd (upd (upd (upd (fun _ => 0) 0 (nI 0)) 1 (nI 0)) 2 (nI 0)) 3 (nI 1))) := (hfr4 cn hL_cn hne_cn_sub0).trans hf_cn
  refine p_calll (va_runV (As := []) (rest := [.long (49532499890423516)]) C.fix (e_X13_digest l D cy ed S1 H.size mm me sg cn im hL5 hf6 hL7 hf8 hL9 hf10 hL11 hf12 ) (cwV 0 C.2.2.2.2.1 (gU_V mw_1109 mw_1110 mw_1111 mw_5 (subU mw_1112)) rfl rfl rfl hde_law_1487_V_1 ⟨Nat.le_of_ble_eq_true rfl, Nat.le_of_ble_eq_true rfl⟩) (e_preV C hw hA hE hL5 hf6 rfl) rfl rfl hl.1 rfl (lv_room (Nat.le_of_ble_eq_true rfl)) dL_law_1492 ⟨(Nat.le_of_ble_eq_true rfl), (Nat.le_of_ble_eq_true rfl)⟩) hw hA (fun r14 S13 H locs hpost hw => ?_)
  obtain ⟨nl15, hr_, hS16, hfr17, hf18⟩ := hpost
  subst hr_
  have hL19 : mm ∈ S13.1 := by rw [hS16]; exact List.mem_append_left _ hL5
  refine W.lcmp hx hb dL_law_1495 ?_
  refine x_ren (b := 0) (by first | exact lc_self _ | exact lc_upd _ _) ?_
  refine z_if_eq (tgt := 1501) hx hb (show (0 : Int32).toInt = 0 from by decide) dL_law_1496 (by decide) (fun h_1496 => ?_) (fun h_1496 => ?_)
  · skip
    exact W.widen (k := 600002) (n := 7302232) (Nat.le_of_ble_eq_true rfl) (Nat.le_of_ble_eq_true rfl) (kk S13 H locs ls hw (lv_sub hl [0, 5] rfl))
  · exact absurd h_1496 (by first | decide | omega)
