theorem sub7 {L : Nat} (h : L ≤ 7) : (nI L - nI 7).toInt = (L : Int) - 7 := by
  rcases (show L = 0 ∨ L = 1 ∨ L = 2 ∨ L = 3 ∨ L = 4 ∨ L = 5 ∨ L = 6 ∨ L = 7 by omega) with rfl | rfl | rfl | rfl | rfl | rfl | rfl | rfl <;> decide
set_option maxHeartbeats 4000000 in
theorem law_tail {p : Program} {l : Launch} {e : Env} {s : State} {m : MethodId} {below : List Frame} {meth : Method} {c : Code} {D : va_G} {A : Nat → Prop} {b : Nat} {xs : Nat → Int32} {Q : State → Prop} (hx : p.tables.exec = Jvm.exec) (hb : c.code = code) (hXs : va_X b 7 xs s s.heap) (hbl : b < s.heap.size) (hbA : ¬ A b) {S : pS} {H : Heap} {locs : List Loc} {ls : Array Slot} (hw : pW D A s.heap S H locs) (hl : lv_has ls 10 [(5, .int (nI 0)), (0, .ref b)])
    (kk : ∀ (S' : pS) (H' : Heap) (locs' : List Loc) (ls' : Array Slot), pW D A s.heap S' H' locs' → W p l e room_1 s m #[Value.ref b] below meth c H' locs' 600002 7302232 Q (F0 m 1507 ls' [])) : W p l e room_1 s m #[Value.ref b] below meth c H locs 600002 7302232 Q (F0 m 1501 ls []) := by
  refine lv_iinc (v := nI 7) (lv' := [(5, .int (nI 7)), (0, .ref b)]) hx hb dL_law_1501 hl (k := 0) rfl (by decide) (by decide) rfl (fun ls hl => ?_)
  refine lv_goto (tgt := 28) hx hb dL_law_1504 (by decide) ?_
  refine lv_iload hx hb dL_law_28 (lv_at hl 0 rfl) ?_
  refine lv_aload_n hx hb dL_law_30 rfl (lv_at hl 1 rfl) ?_
  refine va_slen hx hb hXs hbl hbA hw.2.2 dL_law_31 ?_
  refine lv_bipush (v := nI 7) hx hb dL_law_32 (by decide) ?_
  refine lv_isub hx hb dL_law_34 ?_
  refine z_icmp_gt (tgt := 1507) hx hb (nI_toInt (show 7 < 2 ^ 31 by decide)) (sub7 (Nat.le_refl 7)) dL_law_35 (by decide) (fun _ => ?_) (fun h => ?_)
  · exact kk S H locs ls hw
  · exact absurd h (by decide)

set_option maxHeartbeats 16000000 in
set_option maxRecDepth 100000 in
theorem e_law_base {p : Program} {e : Env} {s : State} {m : MethodId} {below : List Frame} {meth : Method} {c : Code} (l : Launch) (hflags : l.stackTraces = false) (D : va_G) (cy : Nat → ClassId) (ed : Nat) {b : Nat} {xs : Nat → Int32} {Q : State → Prop} {L : Nat} (S : pS) {cw : Cond} (C : pC p s m #[Value.ref b] c code 10 RL (cw :: lwU) D cy) (hE : eK (pA S s.heap.size) ed s s.heap) (hA : ∀ q, s.heap.size ≤ q → pA S s.heap.size q) (hXs : va_X b L xs s s.heap) (hbl : b < s.heap.size) (hbA : ¬ pA S s.heap.size b) (hL7 : L ≤ 7) (ls : Array Slot) (hw : pW D (pA S s.heap.size) s.heap S s.heap []) (hl : lv_has ls 10 [(0, .ref b)]) (kk : ∀ (S' : pS) (H' : Heap) (locs' : List Loc) (ls' : Array Slot), pW D (pA S s.heap.size) s.heap S' H' locs' → W p l e room_1 s m #[Value.ref b] below meth c H' locs' 600002 7302232 Q (F0 m 1507 ls' [])) : W p l e room_1 s m #[Value.ref b] below meth c s.heap [] 0 0 Q (F0 m 0 ls []) := by
  have hx := C.1
  have hb := C.2.1
  have hin_RX11 : ∀ w ∈ u_ws RX11 TX11 8, w ∈ cw :: lwU := fun w h => mU (sub_RX11 w h)
  have hin_RX13 : ∀ w ∈ u_ws RX13 TX13 5, w ∈ cw :: lwU := fun w h => mU (sub_RX13 w h)
  refine p_new C hw hA (ci := 11) (Cn := RX11) (T := TX11) (N := 8) (fs := [.null, .null, .null, .null, .null, .null, .null, .null]) tyX11 tyX11_ok rfl hin_RX11 (mU mw_0) (mU mw_1) (mU mw_2) (fun j hj => by rcases (show j = 0 ∨ j = 1 ∨ j = 2 ∨ j = 3 ∨ j = 4 ∨ j = 5 ∨ j = 6 ∨ j = 7 by omega) with rfl | rfl | rfl | rfl | rfl | rfl | rfl | rfl <;> rfl) (Nat.le_of_ble_eq_true rfl) (Nat.le_of_ble_eq_true rfl) dL_law_0 (fun x H hq_x hw => ?_)
  obtain ⟨S1, hS1⟩ : ∃ z, z = pnew S x (.inr (11, [.null, .null, .null, .null, .null, .null, .null, .null])) := ⟨_, rfl⟩
  replace hw : pW D (pA S s.heap.size) s.heap S1 H [] := by rw [hS1]; exact hw
  have hL2 : x ∈ S1.1 := by rw [hS1]; exact List.mem_append_right _ List.mem_cons_self
  have hf3 : S1.2 x = .inr (11, [.null, .null, .null, .null, .null, .null, .null, .null]) := by rw [hS1]; exact pnew_s
  refine lv_dup hx hb dL_law_3 rfl ?_
  refine p_callv (va_runI (As := []) (rest := [.ref x]) C.fix (e_X11_init l D cy S1 H.size x hL2 hf3 ) (cwI 0 C.2.2.2.2.1 (gU_sub (subU mw_10)) rfl rfl rfl (C.2.2.2.2.1 (.initialized RX11) (mU mw_2)) (C.2.2.2.2.1 (.methodLink RL 72 yX11_init) (mU mw_8)) (C.2.2.2.2.1 (.instanceMethod yX11_init) (mU mw_9)) rfl (by decide +kernel) ⟨Nat.le_of_ble_eq_true rfl, Nat.le_of_ble_eq_true rfl⟩) (p_preS C hw) rfl rfl hl.1 rfl (lv_room (Nat.le_of_ble_eq_true rfl)) dL_law_4 ⟨(Nat.le_of_ble_eq_true rfl), (Nat.le_of_ble_eq_true rfl)⟩) hw hA (fun S4 H locs hpost hw => ?_)
  obtain ⟨ch, lk, ln, sl, mk, mb, co, col, con, com, cor0, cob0, cor1, cob1, cor2, cob2, cor3, cob3, cor4, cob4, ca, cal, can, cam, car0, cab0, car1, cab1, car2, cab2, car3, cab3, car4, cab4, su, sul, sun, sum, sur0, sub0, sur1, sub1, sur2, sub2, sur3, sub3, sur4, sub4, lt, lf, lx, lw, hS6, hfr7, hf8, hf9, hf10, hf11, hf12, hf13, hf14, hf15, hf16, hf17, hf18, hf19, hf20, hf21, hf22, hf23, hf24, hf25, hf26, hf27, hf28, hf29, hf30, hf31, hf32, hf33, hf34, hf35, hf36, hf37, hf38, hf39, hf40, hf41, hf42, hf43, hf44, hf45, hf46, hf47, hf48, hf49, hf50, hf51, hf52, hf53, hf54, hf55, hf56, hf57, hf58, hf59, hf60⟩ := hpost
  have hnd61 := p_apart hw hS6
  have hq62 : ch ∉ S1.1 := p_fresh hw hS6 0 rfl
  have hq63 : lk ∉ S1.1 := p_fresh hw hS6 1 rfl
  have hq64 : ln ∉ S1.1 := p_fresh hw hS6 2 rfl
  have hq65 : sl ∉ S1.1 := p_fresh hw hS6 3 rfl
  have hq66 : mk ∉ S1.1 := p_fresh hw hS6 4 rfl
  have hq67 : mb ∉ S1.1 := p_fresh hw hS6 5 rfl
  have hq68 : co ∉ S1.1 := p_fresh hw hS6 6 rfl
  have hq69 : col ∉ S1.1 := p_fresh hw hS6 7 rfl
  have hq70 : con ∉ S1.1 := p_fresh hw hS6 8 rfl
  have hq71 : com ∉ S1.1 := p_fresh hw hS6 9 rfl
  have hq72 : cor0 ∉ S1.1 := p_fresh hw hS6 10 rfl
  have hq73 : cob0 ∉ S1.1 := p_fresh hw hS6 11 rfl
  have hq74 : cor1 ∉ S1.1 := p_fresh hw hS6 12 rfl
  have hq75 : cob1 ∉ S1.1 := p_fresh hw hS6 13 rfl
  have hq76 : cor2 ∉ S1.1 := p_fresh hw hS6 14 rfl
  have hq77 : cob2 ∉ S1.1 := p_fresh hw hS6 15 rfl
  have hq78 : cor3 ∉ S1.1 := p_fresh hw hS6 16 rfl
  have hq79 : cob3 ∉ S1.1 := p_fresh hw hS6 17 rfl
  have hq80 : cor4 ∉ S1.1 := p_fresh hw hS6 18 rfl
  have hq81 : cob4 ∉ S1.1 := p_fresh hw hS6 19 rfl
  have hq82 : ca ∉ S1.1 := p_fresh hw hS6 20 rfl
  have hq83 : cal ∉ S1.1 := p_fresh hw hS6 21 rfl
  have hq84 : can ∉ S1.1 := p_fresh hw hS6 22 rfl
  have hq85 : cam ∉ S1.1 := p_fresh hw hS6 23 rfl
  have hq86 : car0 ∉ S1.1 := p_fresh hw hS6 24 rfl
  have hq87 : cab0 ∉ S1.1 := p_fresh hw hS6 25 rfl
  have hq88 : car1 ∉ S1.1 := p_fresh hw hS6 26 rfl
  have hq89 : cab1 ∉ S1.1 := p_fresh hw hS6 27 rfl
  have hq90 : car2 ∉ S1.1 := p_fresh hw hS6 28 rfl
  have hq91 : cab2 ∉ S1.1 := p_fresh hw hS6 29 rfl
  have hq92 : car3 ∉ S1.1 := p_fresh hw hS6 30 rfl
  have hq93 : cab3 ∉ S1.1 := p_fresh hw hS6 31 rfl
  have hq94 : car4 ∉ S1.1 := p_fresh hw hS6 32 rfl
  have hq95 : cab4 ∉ S1.1 := p_fresh hw hS6 33 rfl
  have hq96 : su ∉ S1.1 := p_fresh hw hS6 34 rfl
  have hq97 : sul ∉ S1.1 := p_fresh hw hS6 35 rfl
  have hq98 : sun ∉ S1.1 := p_fresh hw hS6 36 rfl
  have hq99 : sum ∉ S1.1 := p_fresh hw hS6 37 rfl
  have hq100 : sur0 ∉ S1.1 := p_fresh hw hS6 38 rfl
  have hq101 : sub0 ∉ S1.1 := p_fresh hw hS6 39 rfl
  have hq102 : sur1 ∉ S1.1 := p_fresh hw hS6 40 rfl
  have hq103 : sub1 ∉ S1.1 := p_fresh hw hS6 41 rfl
  have hq104 : sur2 ∉ S1.1 := p_fresh hw hS6 42 rfl
  have hq105 : sub2 ∉ S1.1 := p_fresh hw hS6 43 rfl
  have hq106 : sur3 ∉ S1.1 := p_fresh hw hS6 44 rfl
  have hq107 : sub3 ∉ S1.1 := p_fresh hw hS6 45 rfl
  have hq108 : sur4 ∉ S1.1 := p_fresh hw hS6 46 rfl
  have hq109 : sub4 ∉ S1.1 := p_fresh hw hS6 47 rfl
  have hq110 : lt ∉ S1.1 := p_fresh hw hS6 48 rfl
  have hq111 : lf ∉ S1.1 := p_fresh hw hS6 49 rfl
  have hq112 : lx ∉ S1.1 := p_fresh hw hS6 50 rfl
  have hq113 : lw ∉ S1.1 := p_fresh hw hS6 51 rfl
  have hL114 : x ∈ S4.1 := by rw [hS6]; exact List.mem_append_left _ hL2
  have hL115 : ch ∈ S4.1 := by rw [hS6]; exact List.mem_append_right _ (List.mem_of_getElem? (i := 0) rfl)
  have hL116 : lk ∈ S4.1 := by rw [hS6]; exact List.mem_append_right _ (List.mem_of_getElem? (i := 1) rfl)
  have hL117 : ln ∈ S4.1 := by rw [hS6]; exact List.mem_append_right _ (List.mem_of_getElem? (i := 2) rfl)
  have hL118 : sl ∈ S4.1 := by rw [hS6]; exact List.mem_append_right _ (List.mem_of_getElem? (i := 3) rfl)
  have hL119 : mk ∈ S4.1 := by rw [hS6]; exact List.mem_append_right _ (List.mem_of_getElem? (i := 4) rfl)
  have hL120 : mb ∈ S4.1 := by rw [hS6]; exact List.mem_append_right _ (List.mem_of_getElem? (i := 5) rfl)
  have hL121 : co ∈ S4.1 := by rw [hS6]; exact List.mem_append_right _ (List.mem_of_getElem? (i := 6) rfl)
  have hL122 : col ∈ S4.1 := by rw [hS6]; exact List.mem_append_right _ (List.mem_of_getElem? (i := 7) rfl)
  have hL123 : con ∈ S4.1 := by rw [hS6]; exact List.mem_append_right _ (List.mem_of_getElem? (i := 8) rfl)
  have hL124 : com ∈ S4.1 := by rw [hS6]; exact List.mem_append_right _ (List.mem_of_getElem? (i := 9) rfl)
  have hL125 : cor0 ∈ S4.1 := by rw [hS6]; exact List.mem_append_right _ (List.mem_of_getElem? (i := 10) rfl)
  have hL126 : cob0 ∈ S4.1 := by rw [hS6]; exact List.mem_append_right _ (List.mem_of_getElem? (i := 11) rfl)
  have hL127 : cor1 ∈ S4.1 := by rw [hS6]; exact List.mem_append_right _ (List.mem_of_getElem? (i := 12) rfl)
  have hL128 : cob1 ∈ S4.1 := by rw [hS6]; exact List.mem_append_right _ (List.mem_of_getElem? (i := 13) rfl)
  have hL129 : cor2 ∈ S4.1 := by rw [hS6]; exact List.mem_append_right _ (List.mem_of_getElem? (i := 14) rfl)
  have hL130 : cob2 ∈ S4.1 := by rw [hS6]; exact List.mem_append_right _ (List.mem_of_getElem? (i := 15) rfl)
  have hL131 : cor3 ∈ S4.1 := by rw [hS6]; exact List.mem_append_right _ (List.mem_of_getElem? (i := 16) rfl)
  have hL132 : cob3 ∈ S4.1 := by rw [hS6]; exact List.mem_append_right _ (List.mem_of_getElem? (i := 17) rfl)
  have hL133 : cor4 ∈ S4.1 := by rw [hS6]; exact List.mem_append_right _ (List.mem_of_getElem? (i := 18) rfl)
  have hL134 : cob4 ∈ S4.1 := by rw [hS6]; exact List.mem_append_right _ (List.mem_of_getElem? (i := 19) rfl)
  have hL135 : ca ∈ S4.1 := by rw [hS6]; exact List.mem_append_right _ (List.mem_of_getElem? (i := 20) rfl)
  have hL136 : cal ∈ S4.1 := by rw [hS6]; exact List.mem_append_right _ (List.mem_of_getElem? (i := 21) rfl)
  have hL137 : can ∈ S4.1 := by rw [hS6]; exact List.mem_append_right _ (List.mem_of_getElem? (i := 22) rfl)
  have hL138 : cam ∈ S4.1 := by rw [hS6]; exact List.mem_append_right _ (List.mem_of_getElem? (i := 23) rfl)
  have hL139 : car0 ∈ S4.1 := by rw [hS6]; exact List.mem_append_right _ (List.mem_of_getElem? (i := 24) rfl)
  have hL140 : cab0 ∈ S4.1 := by rw [hS6]; exact List.mem_append_right _ (List.mem_of_getElem? (i := 25) rfl)
  have hL141 : car1 ∈ S4.1 := by rw [hS6]; exact List.mem_append_right _ (List.mem_of_getElem? (i := 26) rfl)
  have hL142 : cab1 ∈ S4.1 := by rw [hS6]; exact List.mem_append_right _ (List.mem_of_getElem? (i := 27) rfl)
  have hL143 : car2 ∈ S4.1 := by rw [hS6]; exact List.mem_append_right _ (List.mem_of_getElem? (i := 28) rfl)
  have hL144 : cab2 ∈ S4.1 := by rw [hS6]; exact List.mem_append_right _ (List.mem_of_getElem? (i := 29) rfl)
  have hL145 : car3 ∈ S4.1 := by rw [hS6]; exact List.mem_append_right _ (List.mem_of_getElem? (i := 30) rfl)
  have hL146 : cab3 ∈ S4.1 := by rw [hS6]; exact List.mem_append_right _ (List.mem_of_getElem? (i := 31) rfl)
  have hL147 : car4 ∈ S4.1 := by rw [hS6]; exact List.mem_append_right _ (List.mem_of_getElem? (i := 32) rfl)
  have hL148 : cab4 ∈ S4.1 := by rw [hS6]; exact List.mem_append_right _ (List.mem_of_getElem? (i := 33) rfl)
  have hL149 : su ∈ S4.1 := by rw [hS6]; exact List.mem_append_right _ (List.mem_of_getElem? (i := 34) rfl)
  have hL150 : sul ∈ S4.1 := by rw [hS6]; exact List.mem_append_right _ (List.mem_of_getElem? (i := 35) rfl)
  have hL151 : sun ∈ S4.1 := by rw [hS6]; exact List.mem_append_right _ (List.mem_of_getElem? (i := 36) rfl)
  have hL152 : sum ∈ S4.1 := by rw [hS6]; exact List.mem_append_right _ (List.mem_of_getElem? (i := 37) rfl)
  have hL153 : sur0 ∈ S4.1 := by rw [hS6]; exact List.mem_append_right _ (List.mem_of_getElem? (i := 38) rfl)
  have hL154 : sub0 ∈ S4.1 := by rw [hS6]; exact List.mem_append_right _ (List.mem_of_getElem? (i := 39) rfl)
  have hL155 : sur1 ∈ S4.1 := by rw [hS6]; exact List.mem_append_right _ (List.mem_of_getElem? (i := 40) rfl)
  have hL156 : sub1 ∈ S4.1 := by rw [hS6]; exact List.mem_append_right _ (List.mem_of_getElem? (i := 41) rfl)
  have hL157 : sur2 ∈ S4.1 := by rw [hS6]; exact List.mem_append_right _ (List.mem_of_getElem? (i := 42) rfl)
  have hL158 : sub2 ∈ S4.1 := by rw [hS6]; exact List.mem_append_right _ (List.mem_of_getElem? (i := 43) rfl)
  have hL159 : sur3 ∈ S4.1 := by rw [hS6]; exact List.mem_append_right _ (List.mem_of_getElem? (i := 44) rfl)
  have hL160 : sub3 ∈ S4.1 := by rw [hS6]; exact List.mem_append_right _ (List.mem_of_getElem? (i := 45) rfl)
  have hL161 : sur4 ∈ S4.1 := by rw [hS6]; exact List.mem_append_right _ (List.mem_of_getElem? (i := 46) rfl)
  have hL162 : sub4 ∈ S4.1 := by rw [hS6]; exact List.mem_append_right _ (List.mem_of_getElem? (i := 47) rfl)
  have hL163 : lt ∈ S4.1 := by rw [hS6]; exact List.mem_append_right _ (List.mem_of_getElem? (i := 48) rfl)
  have hL164 : lf ∈ S4.1 := by rw [hS6]; exact List.mem_append_right _ (List.mem_of_getElem? (i := 49) rfl)
  have hL165 : lx ∈ S4.1 := by rw [hS6]; exact List.mem_append_right _ (List.mem_of_getElem? (i := 50) rfl)
  have hL166 : lw ∈ S4.1 := by rw [hS6]; exact List.mem_append_right _ (List.mem_of_getElem? (i := 51) rfl)
  refine lv_astore_n (lv' := [(1, .ref x), (0, .ref b)]) hx hb dL_law_7 rfl hl (by decide) rfl (fun ls hl => ?_)
  refine p_new C hw hA (ci := 13) (Cn := RX13) (T := TX13) (N := 5) (fs := [.int (nI 0), .null, .null, .null, .null]) tyX13 tyX13_ok rfl hin_RX13 (mU mw_3) (mU mw_4) (mU mw_5) (fun j hj => by rcases (show j = 0 ∨ j = 1 ∨ j = 2 ∨ j = 3 ∨ j = 4 by omega) with rfl | rfl | rfl | rfl | rfl <;> rfl) (Nat.le_of_ble_eq_true rfl) (Nat.le_of_ble_eq_true rfl) dL_law_8 (fun mm H hq_mm hw => ?_)
  obtain ⟨S167, hS167⟩ : ∃ z, z = pnew S4 mm (.inr (13, [.int (nI 0), .null, .null, .null, .null])) := ⟨_, rfl⟩
  replace hw : pW D (pA S s.heap.size) s.heap S167 H locs := by rw [hS167]; exact hw
  have hL168 : mm ∈ S167.1 := by rw [hS167]; exact List.mem_append_right _ List.mem_cons_self
  have hf169 : S167.2 mm = .inr (13, [.int (nI 0), .null, .null, .null, .null]) := by rw [hS167]; exact pnew_s
  refine lv_dup hx hb dL_law_11 rfl ?_
  refine p_callv (va_runI (As := []) (rest := [.ref mm]) C.fix (e_X13_init l D cy ed S167 H.size mm hL168 hf169 ) (cwI 0 C.2.2.2.2.1 (gU_sub (subU mw_84)) rfl rfl rfl (C.2.2.2.2.1 (.initialized RX13) (mU mw_5)) (C.2.2.2.2.1 (.methodLink RL 75 yX13_init) (mU mw_82)) (C.2.2.2.2.1 (.instanceMethod yX13_init) (mU mw_83)) rfl (by decide +kernel) ⟨Nat.le_of_ble_eq_true rfl, Nat.le_of_ble_eq_true rfl⟩) (e_preS C hw hA hE) rfl rfl hl.1 rfl (lv_room (Nat.le_of_ble_eq_true rfl)) dL_law_12 ⟨(Nat.le_of_ble_eq_true rfl), (Nat.le_of_ble_eq_true rfl)⟩) hw hA (fun S170 H locs hpost hw => ?_)
  obtain ⟨me, sg, cn, im, hS172, hfr173, hf174, hf175, hf176, hf177, hf178⟩ := hpost
  have hnd179 := p_apart hw hS172
  have hq180 : me ∉ S167.1 := p_fresh hw hS172 0 rfl
  have hq181 : sg ∉ S167.1 := p_fresh hw hS172 1 rfl
  have hq182 : cn ∉ S167.1 := p_fresh hw hS172 2 rfl
  have hq183 : im ∉ S167.1 := p_fresh hw hS172 3 rfl
  have hL184 : mm ∈ S170.1 := by rw [hS172]; exact List.mem_append_left _ hL168
  have hL185 : me ∈ S170.1 := by rw [hS172]; exact List.mem_append_right _ (List.mem_of_getElem? (i := 0) rfl)
  have hL186 : sg ∈ S170.1 := by rw [hS172]; exact List.mem_append_right _ (List.mem_of_getElem? (i := 1) rfl)
  have hL187 : cn ∈ S170.1 := by rw [hS172]; exact List.mem_append_right _ (List.mem_of_getElem? (i := 2) rfl)
  have hL188 : im ∈ S170.1 := by rw [hS172]; exact List.mem_append_right _ (List.mem_of_getElem? (i := 3) rfl)
  refine lv_astore_n (lv' := [(2, .ref mm), (1, .ref x), (0, .ref b)]) hx hb dL_law_15 rfl hl (by decide) rfl (fun ls hl => ?_)
  refine lv_iconst (v := nI 1) hx hb dL_law_16 (by decide) ?_
  refine p_newl C hw hA (mU mw_6) 6 rfl (n := 1) (by first | decide | omega) (Nat.le_of_ble_eq_true rfl) (Nat.le_of_ble_eq_true rfl) dL_law_17 (fun jo H hq_jo hw => ?_)
  obtain ⟨S189, hS189⟩ : ∃ z, z = pnew S170 jo (.inl (cy 6, 1, .inr (.inl (fun _ => 0)))) := ⟨_, rfl⟩
  replace hw : pW D (pA S s.heap.size) s.heap S189 H locs := by rw [hS189]; exact hw
  have hL190 : jo ∈ S189.1 := by rw [hS189]; exact List.mem_append_right _ List.mem_cons_self
  have hf191 : S189.2 jo = .inl (cy 6, 1, .inr (.inl (fun _ => 0))) := by rw [hS189]; exact pnew_s
  refine lv_astore_n (lv' := [(3, .ref jo), (2, .ref mm), (1, .ref x), (0, .ref b)]) hx hb dL_law_19 rfl hl (by decide) rfl (fun ls hl => ?_)
  refine lv_iconst (v := nI 1) hx hb dL_law_20 (by decide) ?_
  refine p_newd C hw hA (mU mw_7) 7 rfl (n := 1) (by first | decide | omega) (Nat.le_of_ble_eq_true rfl) (Nat.le_of_ble_eq_true rfl) dL_law_21 (fun dd H hq_dd hw => ?_)
  obtain ⟨S192, hS192⟩ : ∃ z, z = pnew S189 dd (.inl (cy 7, 1, .inr (.inr (.inr (.inl (fun _ => 0)))))) := ⟨_, rfl⟩
  replace hw : pW D (pA S s.heap.size) s.heap S192 H locs := by rw [hS192]; exact hw
  have hL193 : dd ∈ S192.1 := by rw [hS192]; exact List.mem_append_right _ List.mem_cons_self
  have hf194 : S192.2 dd = .inl (cy 7, 1, .inr (.inr (.inr (.inl (fun _ => 0))))) := by rw [hS192]; exact pnew_s
  refine lv_astore (lv' := [(4, .ref dd), (3, .ref jo), (2, .ref mm), (1, .ref x), (0, .ref b)]) hx hb dL_law_23 hl (by decide) rfl (fun ls hl => ?_)
  refine lv_iconst (v := nI 0) hx hb dL_law_25 (by decide) ?_
  refine lv_istore (lv' := [(5, .int (nI 0)), (4, .ref dd), (3, .ref jo), (2, .ref mm), (1, .ref x), (0, .ref b)]) hx hb dL_law_26 hl (by decide) rfl (fun ls hl => ?_)
  refine lv_iload hx hb dL_law_28 (lv_at hl 0 rfl) ?_
  refine lv_aload_n hx hb dL_law_30 rfl (lv_at hl 5 rfl) ?_
  refine va_slen hx hb hXs hbl hbA hw.2.2 dL_law_31 ?_
  refine lv_bipush (v := nI 7) hx hb dL_law_32 (by decide) ?_
  refine lv_isub hx hb dL_law_34 ?_
  refine z_icmp_gt (tgt := 1507) hx hb (nI_toInt (by first | decide | omega)) (sub7 hL7) dL_law_35 (by decide) (fun h_35 => ?_) (fun h_35 => ?_)
  · skip
    exact W.widen (k := 600002) (n := 7302232) (Nat.le_of_ble_eq_true rfl) (Nat.le_of_ble_eq_true rfl) (kk S192 H locs ls hw)
  · skip
    obtain rfl : L = 7 := by omega
    refine lv_aload_n hx hb dL_law_38 rfl (lv_at hl 5 rfl) ?_
    refine lv_iload hx hb dL_law_39 (lv_at hl 0 rfl) ?_
    refine va_sld hx hb hXs hbl hbA hw.2.2 (i := nI 0) (show vp_in (nI 0) 7 from by unfold vp_in; decide) dL_law_41 ?_
    refine lv_bipush (v := nI 31) hx hb dL_law_42 (by decide) ?_
    refine lv_iand hx hb dL_law_44 ?_
    have hL195 : x ∈ S167.1 := by rw [hS167]; exact List.mem_append_left _ hL114
    have hf196 : S167.2 x = .inr (11, [.ref ch, .ref ln, .ref sl, .ref mk, .ref co, .ref ca, .ref su, .ref lt]) := by rw [hS167]; exact (pnew_n (fun z : x = mm => hq_mm (by rw [← z]; exact hL114))).trans hf8
    have hL197 : x ∈ S170.1 := by rw [hS172]; exact List.mem_append_left _ hL195
    have hf198 : S170.2 x = .inr (11, [.ref ch, .ref ln, .ref sl, .ref mk, .ref co, .ref ca, .ref su, .ref lt]) := (hfr173 x hL195 (fun z : x = mm => hq_mm (by rw [← z]; exact hL114))).trans hf196
    have hL199 : x ∈ S189.1 := by rw [hS189]; exact List.mem_append_left _ hL197
    have hf200 : S189.2 x = .inr (11, [.ref ch, .ref ln, .ref sl, .ref mk, .ref co, .ref ca, .ref su, .ref lt]) := by rw [hS189]; exact (pnew_n (fun z : x = jo => hq_jo (by rw [← z]; exact hL197))).trans hf198
    have hL201 : x ∈ S192.1 := by rw [hS192]; exact List.mem_append_left _ hL199
    have hf202 : S192.2 x = .inr (11, [.ref ch, .ref ln, .ref sl, .ref mk, .ref co, .ref ca, .ref su, .ref lt]) := by rw [hS192]; exact (pnew_n (fun z : x = dd => hq_dd (by rw [← z]; exact hL199))).trans hf200
    have hL203 : ch ∈ S167.1 := by rw [hS167]; exact List.mem_append_left _ hL115
    have hf204 : S167.2 ch = .inr (2, [.ref lk, .int (nI 0)]) := by rw [hS167]; exact (pnew_n (fun z : ch = mm => hq_mm (by rw [← z]; exact hL115))).trans hf9
    have hL205 : ch ∈ S170.1 := by rw [hS172]; exact List.mem_append_left _ hL203
    have hf206 : S170.2 ch = .inr (2, [.ref lk, .int (nI 0)]) := (hfr173 ch hL203 (fun z : ch = mm => hq_mm (by rw [← z]; exact hL115))).trans hf204
    have hL207 : ch ∈ S189.1 := by rw [hS189]; exact List.mem_append_left _ hL205
    have hf208 : S189.2 ch = .inr (2, [.ref lk, .int (nI 0)]) := by rw [hS189]; exact (pnew_n (fun z : ch = jo => hq_jo (by rw [← z]; exact hL205))).trans hf206
    have hL209 : ch ∈ S192.1 := by rw [hS192]; exact List.mem_append_left _ hL207
    have hf210 : S192.2 ch = .inr (2, [.ref lk, .int (nI 0)]) := by rw [hS192]; exact (pnew_n (fun z : ch = dd => hq_dd (by rw [← z]; exact hL207))).trans hf208
    have hL211 : lk ∈ S167.1 := by rw [hS167]; exact List.mem_append_left _ hL116
    have hf212 : S167.2 lk = aQ (cy 3) 4 (fun _ => none) := by rw [hS167]; exact (pnew_n (fun z : lk = mm => hq_mm (by rw [← z]; exact hL116))).trans hf10
    have hL213 : lk ∈ S170.1 := by rw [hS172]; exact List.mem_append_left _ hL211
    have hf214 : S170.2 lk = aQ (cy 3) 4 (fun _ => none) := (hfr173 lk hL211 (fun z : lk = mm => hq_mm (by rw [← z]; exact hL116))).trans hf212
    have hL215 : lk ∈ S189.1 := by rw [hS189]; exact List.mem_append_left _ hL213
    have hf216 : S189.2 lk = aQ (cy 3) 4 (fun _ => none) := by rw [hS189]; exact (pnew_n (fun z : lk = jo => hq_jo (by rw [← z]; exact hL213))).trans hf214
    have hL217 : lk ∈ S192.1 := by rw [hS192]; exact List.mem_append_left _ hL215
    have hf218 : S192.2 lk = aQ (cy 3) 4 (fun _ => none) := by rw [hS192]; exact (pnew_n (fun z : lk = dd => hq_dd (by rw [← z]; exact hL215))).trans hf216
    have hL219 : ln ∈ S167.1 := by rw [hS167]; exact List.mem_append_left _ hL117
    have hf220 : S167.2 ln = .inr (6, [.int (nI 0), .int (nI 0), .int (nI 0), .int (nI 0)]) := by rw [hS167]; exact (pnew_n (fun z : ln = mm => hq_mm (by rw [← z]; exact hL117))).trans hf11
    have hL221 : ln ∈ S170.1 := by rw [hS172]; exact List.mem_append_left _ hL219
    have hf222 : S170.2 ln = .inr (6, [.int (nI 0), .int (nI 0), .int (nI 0), .int (nI 0)]) := (hfr173 ln hL219 (fun z : ln = mm => hq_mm (by rw [← z]; exact hL117))).trans hf220
    have hL223 : ln ∈ S189.1 := by rw [hS189]; exact List.mem_append_left _ hL221
    have hf224 : S189.2 ln = .inr (6, [.int (nI 0), .int (nI 0), .int (nI 0), .int (nI 0)]) := by rw [hS189]; exact (pnew_n (fun z : ln = jo => hq_jo (by rw [← z]; exact hL221))).trans hf222
    have hL225 : ln ∈ S192.1 := by rw [hS192]; exact List.mem_append_left _ hL223
    have hf226 : S192.2 ln = .inr (6, [.int (nI 0), .int (nI 0), .int (nI 0), .int (nI 0)]) := by rw [hS192]; exact (pnew_n (fun z : ln = dd => hq_dd (by rw [← z]; exact hL223))).trans hf224
    have hL227 : sl ∈ S167.1 := by rw [hS167]; exact List.mem_append_left _ hL118
    have hf228 : S167.2 sl = .inr (6, [.int (nI 0), .int (nI 0), .int (nI 0), .int (nI 0)]) := by rw [hS167]; exact (pnew_n (fun z : sl = mm => hq_mm (by rw [← z]; exact hL118))).trans hf12
    have hL229 : sl ∈ S170.1 := by rw [hS172]; exact List.mem_append_left _ hL227
    have hf230 : S170.2 sl = .inr (6, [.int (nI 0), .int (nI 0), .int (nI 0), .int (nI 0)]) := (hfr173 sl hL227 (fun z : sl = mm => hq_mm (by rw [← z]; exact hL118))).trans hf228
    have hL231 : sl ∈ S189.1 := by rw [hS189]; exact List.mem_append_left _ hL229
    have hf232 : S189.2 sl = .inr (6, [.int (nI 0), .int (nI 0), .int (nI 0), .int (nI 0)]) := by rw [hS189]; exact (pnew_n (fun z : sl = jo => hq_jo (by rw [← z]; exact hL229))).trans hf230
    have hL233 : sl ∈ S192.1 := by rw [hS192]; exact List.mem_append_left _ hL231
    have hf234 : S192.2 sl = .inr (6, [.int (nI 0), .int (nI 0), .int (nI 0), .int (nI 0)]) := by rw [hS192]; exact (pnew_n (fun z : sl = dd => hq_dd (by rw [← z]; exact hL231))).trans hf232
    have hL235 : mk ∈ S167.1 := by rw [hS167]; exact List.mem_append_left _ hL119
    have hf236 : S167.2 mk = .inr (8, [.ref mb, .int (nI 320)]) := by rw [hS167]; exact (pnew_n (fun z : mk = mm => hq_mm (by rw [← z]; exact hL119))).trans hf13
    have hL237 : mk ∈ S170.1 := by rw [hS172]; exact List.mem_append_left _ hL235
    have hf238 : S170.2 mk = .inr (8, [.ref mb, .int (nI 320)]) := (hfr173 mk hL235 (fun z : mk = mm => hq_mm (by rw [← z]; exact hL119))).trans hf236
    have hL239 : mk ∈ S189.1 := by rw [hS189]; exact List.mem_append_left _ hL237
    have hf240 : S189.2 mk = .inr (8, [.ref mb, .int (nI 320)]) := by rw [hS189]; exact (pnew_n (fun z : mk = jo => hq_jo (by rw [← z]; exact hL237))).trans hf238
    have hL241 : mk ∈ S192.1 := by rw [hS192]; exact List.mem_append_left _ hL239
    have hf242 : S192.2 mk = .inr (8, [.ref mb, .int (nI 320)]) := by rw [hS192]; exact (pnew_n (fun z : mk = dd => hq_dd (by rw [← z]; exact hL239))).trans hf240
    have hL243 : mb ∈ S167.1 := by rw [hS167]; exact List.mem_append_left _ hL120
    have hf244 : S167.2 mb = aN (cy 0) 320 (fun _ => 0) := by rw [hS167]; exact (pnew_n (fun z : mb = mm => hq_mm (by rw [← z]; exact hL120))).trans hf14
    have hL245 : mb ∈ S170.1 := by rw [hS172]; exact List.mem_append_left _ hL243
    have hf246 : S170.2 mb = aN (cy 0) 320 (fun _ => 0) := (hfr173 mb hL243 (fun z : mb = mm => hq_mm (by rw [← z]; exact hL120))).trans hf244
    have hL247 : mb ∈ S189.1 := by rw [hS189]; exact List.mem_append_left _ hL245
    have hf248 : S189.2 mb = aN (cy 0) 320 (fun _ => 0) := by rw [hS189]; exact (pnew_n (fun z : mb = jo => hq_jo (by rw [← z]; exact hL245))).trans hf246
    have hL249 : mb ∈ S192.1 := by rw [hS192]; exact List.mem_append_left _ hL247
    have hf250 : S192.2 mb = aN (cy 0) 320 (fun _ => 0) := by rw [hS192]; exact (pnew_n (fun z : mb = dd => hq_dd (by rw [← z]; exact hL247))).trans hf248
    have hL251 : co ∈ S167.1 := by rw [hS167]; exact List.mem_append_left _ hL121
    have hf252 : S167.2 co = .inr (5, [.ref col, .ref con]) := by rw [hS167]; exact (pnew_n (fun z : co = mm => hq_mm (by rw [← z]; exact hL121))).trans hf15
    have hL253 : co ∈ S170.1 := by rw [hS172]; exact List.mem_append_left _ hL251
    have hf254 : S170.2 co = .inr (5, [.ref col, .ref con]) := (hfr173 co hL251 (fun z : co = mm => hq_mm (by rw [← z]; exact hL121))).trans hf252
    have hL255 : co ∈ S189.1 := by rw [hS189]; exact List.mem_append_left _ hL253
    have hf256 : S189.2 co = .inr (5, [.ref col, .ref con]) := by rw [hS189]; exact (pnew_n (fun z : co = jo => hq_jo (by rw [← z]; exact hL253))).trans hf254
    have hL257 : co ∈ S192.1 := by rw [hS192]; exact List.mem_append_left _ hL255
    have hf258 : S192.2 co = .inr (5, [.ref col, .ref con]) := by rw [hS192]; exact (pnew_n (fun z : co = dd => hq_dd (by rw [← z]; exact hL255))).trans hf256
    have hL259 : col ∈ S167.1 := by rw [hS167]; exact List.mem_append_left _ hL122
    have hf260 : S167.2 col = aQ (cy 2) 5 (va_up (va_up (va_up (va_up (va_up (fun _ => none) 0 (some cor0)) 1 (some cor1)) 2 (some cor2)) 3 (some cor3)) 4 (some cor4)) := by rw [hS167]; exact (pnew_n (fun z : col = mm => hq_mm (by rw [← z]; exact hL122))).trans hf16
    have hL261 : col ∈ S170.1 := by rw [hS172]; exact List.mem_append_left _ hL259
    have hf262 : S170.2 col = aQ (cy 2) 5 (va_up (va_up (va_up (va_up (va_up (fun _ => none) 0 (some cor0)) 1 (some cor1)) 2 (some cor2)) 3 (some cor3)) 4 (some cor4)) := (hfr173 col hL259 (fun z : col = mm => hq_mm (by rw [← z]; exact hL122))).trans hf260
    have hL263 : col ∈ S189.1 := by rw [hS189]; exact List.mem_append_left _ hL261
    have hf264 : S189.2 col = aQ (cy 2) 5 (va_up (va_up (va_up (va_up (va_up (fun _ => none) 0 (some cor0)) 1 (some cor1)) 2 (some cor2)) 3 (some cor3)) 4 (some cor4)) := by rw [hS189]; exact (pnew_n (fun z : col = jo => hq_jo (by rw [← z]; exact hL261))).trans hf262
    have hL265 : col ∈ S192.1 := by rw [hS192]; exact List.mem_append_left _ hL263
    have hf266 : S192.2 col = aQ (cy 2) 5 (va_up (va_up (va_up (va_up (va_up (fun _ => none) 0 (some cor0)) 1 (some cor1)) 2 (some cor2)) 3 (some cor3)) 4 (some cor4)) := by rw [hS192]; exact (pnew_n (fun z : col = dd => hq_dd (by rw [← z]; exact hL263))).trans hf264
    have hL267 : con ∈ S167.1 := by rw [hS167]; exact List.mem_append_left _ hL123
    have hf268 : S167.2 con = .inr (8, [.ref com, .int (nI 0)]) := by rw [hS167]; exact (pnew_n (fun z : con = mm => hq_mm (by rw [← z]; exact hL123))).trans hf17
    have hL269 : con ∈ S170.1 := by rw [hS172]; exact List.mem_append_left _ hL267
    have hf270 : S170.2 con = .inr (8, [.ref com, .int (nI 0)]) := (hfr173 con hL267 (fun z : con = mm => hq_mm (by rw [← z]; exact hL123))).trans hf268
    have hL271 : con ∈ S189.1 := by rw [hS189]; exact List.mem_append_left _ hL269
    have hf272 : S189.2 con = .inr (8, [.ref com, .int (nI 0)]) := by rw [hS189]; exact (pnew_n (fun z : con = jo => hq_jo (by rw [← z]; exact hL269))).trans hf270
    have hL273 : con ∈ S192.1 := by rw [hS192]; exact List.mem_append_left _ hL271
    have hf274 : S192.2 con = .inr (8, [.ref com, .int (nI 0)]) := by rw [hS192]; exact (pnew_n (fun z : con = dd => hq_dd (by rw [← z]; exact hL271))).trans hf272
    have hL275 : com ∈ S167.1 := by rw [hS167]; exact List.mem_append_left _ hL124
    have hf276 : S167.2 com = aN (cy 0) 0 (fun _ => 0) := by rw [hS167]; exact (pnew_n (fun z : com = mm => hq_mm (by rw [← z]; exact hL124))).trans hf18
    have hL277 : com ∈ S170.1 := by rw [hS172]; exact List.mem_append_left _ hL275
    have hf278 : S170.2 com = aN (cy 0) 0 (fun _ => 0) := (hfr173 com hL275 (fun z : com = mm => hq_mm (by rw [← z]; exact hL124))).trans hf276
    have hL279 : com ∈ S189.1 := by rw [hS189]; exact List.mem_append_left _ hL277
    have hf280 : S189.2 com = aN (cy 0) 0 (fun _ => 0) := by rw [hS189]; exact (pnew_n (fun z : com = jo => hq_jo (by rw [← z]; exact hL277))).trans hf278
    have hL281 : com ∈ S192.1 := by rw [hS192]; exact List.mem_append_left _ hL279
    have hf282 : S192.2 com = aN (cy 0) 0 (fun _ => 0) := by rw [hS192]; exact (pnew_n (fun z : com = dd => hq_dd (by rw [← z]; exact hL279))).trans hf280
    have hL283 : cor0 ∈ S167.1 := by rw [hS167]; exact List.mem_append_left _ hL125
    have hf284 : S167.2 cor0 = .inr (8, [.ref cob0, .int (nI 0)]) := by rw [hS167]; exact (pnew_n (fun z : cor0 = mm => hq_mm (by rw [← z]; exact hL125))).trans hf19
    have hL285 : cor0 ∈ S170.1 := by rw [hS172]; exact List.mem_append_left _ hL283
    have hf286 : S170.2 cor0 = .inr (8, [.ref cob0, .int (nI 0)]) := (hfr173 cor0 hL283 (fun z : cor0 = mm => hq_mm (by rw [← z]; exact hL125))).trans hf284
    have hL287 : cor0 ∈ S189.1 := by rw [hS189]; exact List.mem_append_left _ hL285
    have hf288 : S189.2 cor0 = .inr (8, [.ref cob0, .int (nI 0)]) := by rw [hS189]; exact (pnew_n (fun z : cor0 = jo => hq_jo (by rw [← z]; exact hL285))).trans hf286
    have hL289 : cor0 ∈ S192.1 := by rw [hS192]; exact List.mem_append_left _ hL287
    have hf290 : S192.2 cor0 = .inr (8, [.ref cob0, .int (nI 0)]) := by rw [hS192]; exact (pnew_n (fun z : cor0 = dd => hq_dd (by rw [← z]; exact hL287))).trans hf288
    have hL291 : cob0 ∈ S167.1 := by rw [hS167]; exact List.mem_append_left _ hL126
    have hf292 : S167.2 cob0 = aN (cy 0) 32 (fun _ => 0) := by rw [hS167]; exact (pnew_n (fun z : cob0 = mm => hq_mm (by rw [← z]; exact hL126))).trans hf20
    have hL293 : cob0 ∈ S170.1 := by rw [hS172]; exact List.mem_append_left _ hL291
    have hf294 : S170.2 cob0 = aN (cy 0) 32 (fun _ => 0) := (hfr173 cob0 hL291 (fun z : cob0 = mm => hq_mm (by rw [← z]; exact hL126))).trans hf292
    have hL295 : cob0 ∈ S189.1 := by rw [hS189]; exact List.mem_append_left _ hL293
    have hf296 : S189.2 cob0 = aN (cy 0) 32 (fun _ => 0) := by rw [hS189]; exact (pnew_n (fun z : cob0 = jo => hq_jo (by rw [← z]; exact hL293))).trans hf294
    have hL297 : cob0 ∈ S192.1 := by rw [hS192]; exact List.mem_append_left _ hL295
    have hf298 : S192.2 cob0 = aN (cy 0) 32 (fun _ => 0) := by rw [hS192]; exact (pnew_n (fun z : cob0 = dd => hq_dd (by rw [← z]; exact hL295))).trans hf296
    have hL299 : cor1 ∈ S167.1 := by rw [hS167]; exact List.mem_append_left _ hL127
    have hf300 : S167.2 cor1 = .inr (8, [.ref cob1, .int (nI 0)]) := by rw [hS167]; exact (pnew_n (fun z : cor1 = mm => hq_mm (by rw [← z]; exact hL127))).trans hf21
    have hL301 : cor1 ∈ S170.1 := by rw [hS172]; exact List.mem_append_left _ hL299
    have hf302 : S170.2 cor1 = .inr (8, [.ref cob1, .int (nI 0)]) := (hfr173 cor1 hL299 (fun z : cor1 = mm => hq_mm (by rw [← z]; exact hL127))).trans hf300
    have hL303 : cor1 ∈ S189.1 := by rw [hS189]; exact List.mem_append_left _ hL301
    have hf304 : S189.2 cor1 = .inr (8, [.ref cob1, .int (nI 0)]) := by rw [hS189]; exact (pnew_n (fun z : cor1 = jo => hq_jo (by rw [← z]; exact hL301))).trans hf302
    have hL305 : cor1 ∈ S192.1 := by rw [hS192]; exact List.mem_append_left _ hL303
    have hf306 : S192.2 cor1 = .inr (8, [.ref cob1, .int (nI 0)]) := by rw [hS192]; exact (pnew_n (fun z : cor1 = dd => hq_dd (by rw [← z]; exact hL303))).trans hf304
    have hL307 : cob1 ∈ S167.1 := by rw [hS167]; exact List.mem_append_left _ hL128
    have hf308 : S167.2 cob1 = aN (cy 0) 320 (fun _ => 0) := by rw [hS167]; exact (pnew_n (fun z : cob1 = mm => hq_mm (by rw [← z]; exact hL128))).trans hf22
    have hL309 : cob1 ∈ S170.1 := by rw [hS172]; exact List.mem_append_left _ hL307
    have hf310 : S170.2 cob1 = aN (cy 0) 320 (fun _ => 0) := (hfr173 cob1 hL307 (fun z : cob1 = mm => hq_mm (by rw [← z]; exact hL128))).trans hf308
    have hL311 : cob1 ∈ S189.1 := by rw [hS189]; exact List.mem_append_left _ hL309
    have hf312 : S189.2 cob1 = aN (cy 0) 320 (fun _ => 0) := by rw [hS189]; exact (pnew_n (fun z : cob1 = jo => hq_jo (by rw [← z]; exact hL309))).trans hf310
    have hL313 : cob1 ∈ S192.1 := by rw [hS192]; exact List.mem_append_left _ hL311
    have hf314 : S192.2 cob1 = aN (cy 0) 320 (fun _ => 0) := by rw [hS192]; exact (pnew_n (fun z : cob1 = dd => hq_dd (by rw [← z]; exact hL311))).trans hf312
    have hL315 : cor2 ∈ S167.1 := by rw [hS167]; exact List.mem_append_left _ hL129
    have hf316 : S167.2 cor2 = .inr (8, [.ref cob2, .int (nI 0)]) := by rw [hS167]; exact (pnew_n (fun z : cor2 = mm => hq_mm (by rw [← z]; exact hL129))).trans hf23
    have hL317 : cor2 ∈ S170.1 := by rw [hS172]; exact List.mem_append_left _ hL315
    have hf318 : S170.2 cor2 = .inr (8, [.ref cob2, .int (nI 0)]) := (hfr173 cor2 hL315 (fun z : cor2 = mm => hq_mm (by rw [← z]; exact hL129))).trans hf316
    have hL319 : cor2 ∈ S189.1 := by rw [hS189]; exact List.mem_append_left _ hL317
    have hf320 : S189.2 cor2 = .inr (8, [.ref cob2, .int (nI 0)]) := by rw [hS189]; exact (pnew_n (fun z : cor2 = jo => hq_jo (by rw [← z]; exact hL317))).trans hf318
    have hL321 : cor2 ∈ S192.1 := by rw [hS192]; exact List.mem_append_left _ hL319
    have hf322 : S192.2 cor2 = .inr (8, [.ref cob2, .int (nI 0)]) := by rw [hS192]; exact (pnew_n (fun z : cor2 = dd => hq_dd (by rw [← z]; exact hL319))).trans hf320
    have hL323 : cob2 ∈ S167.1 := by rw [hS167]; exact List.mem_append_left _ hL130
    have hf324 : S167.2 cob2 = aN (cy 0) 320 (fun _ => 0) := by rw [hS167]; exact (pnew_n (fun z : cob2 = mm => hq_mm (by rw [← z]; exact hL130))).trans hf24
    have hL325 : cob2 ∈ S170.1 := by rw [hS172]; exact List.mem_append_left _ hL323
    have hf326 : S170.2 cob2 = aN (cy 0) 320 (fun _ => 0) := (hfr173 cob2 hL323 (fun z : cob2 = mm => hq_mm (by rw [← z]; exact hL130))).trans hf324
    have hL327 : cob2 ∈ S189.1 := by rw [hS189]; exact List.mem_append_left _ hL325
    have hf328 : S189.2 cob2 = aN (cy 0) 320 (fun _ => 0) := by rw [hS189]; exact (pnew_n (fun z : cob2 = jo => hq_jo (by rw [← z]; exact hL325))).trans hf326
    have hL329 : cob2 ∈ S192.1 := by rw [hS192]; exact List.mem_append_left _ hL327
    have hf330 : S192.2 cob2 = aN (cy 0) 320 (fun _ => 0) := by rw [hS192]; exact (pnew_n (fun z : cob2 = dd => hq_dd (by rw [← z]; exact hL327))).trans hf328
    have hL331 : cor3 ∈ S167.1 := by rw [hS167]; exact List.mem_append_left _ hL131
    have hf332 : S167.2 cor3 = .inr (8, [.ref cob3, .int (nI 0)]) := by rw [hS167]; exact (pnew_n (fun z : cor3 = mm => hq_mm (by rw [← z]; exact hL131))).trans hf25
    have hL333 : cor3 ∈ S170.1 := by rw [hS172]; exact List.mem_append_left _ hL331
    have hf334 : S170.2 cor3 = .inr (8, [.ref cob3, .int (nI 0)]) := (hfr173 cor3 hL331 (fun z : cor3 = mm => hq_mm (by rw [← z]; exact hL131))).trans hf332
    have hL335 : cor3 ∈ S189.1 := by rw [hS189]; exact List.mem_append_left _ hL333
    have hf336 : S189.2 cor3 = .inr (8, [.ref cob3, .int (nI 0)]) := by rw [hS189]; exact (pnew_n (fun z : cor3 = jo => hq_jo (by rw [← z]; exact hL333))).trans hf334
    have hL337 : cor3 ∈ S192.1 := by rw [hS192]; exact List.mem_append_left _ hL335
    have hf338 : S192.2 cor3 = .inr (8, [.ref cob3, .int (nI 0)]) := by rw [hS192]; exact (pnew_n (fun z : cor3 = dd => hq_dd (by rw [← z]; exact hL335))).trans hf336
    have hL339 : cob3 ∈ S167.1 := by rw [hS167]; exact List.mem_append_left _ hL132
    have hf340 : S167.2 cob3 = aN (cy 0) 320 (fun _ => 0) := by rw [hS167]; exact (pnew_n (fun z : cob3 = mm => hq_mm (by rw [← z]; exact hL132))).trans hf26
    have hL341 : cob3 ∈ S170.1 := by rw [hS172]; exact List.mem_append_left _ hL339
    have hf342 : S170.2 cob3 = aN (cy 0) 320 (fun _ => 0) := (hfr173 cob3 hL339 (fun z : cob3 = mm => hq_mm (by rw [← z]; exact hL132))).trans hf340
    have hL343 : cob3 ∈ S189.1 := by rw [hS189]; exact List.mem_append_left _ hL341
    have hf344 : S189.2 cob3 = aN (cy 0) 320 (fun _ => 0) := by rw [hS189]; exact (pnew_n (fun z : cob3 = jo => hq_jo (by rw [← z]; exact hL341))).trans hf342
    have hL345 : cob3 ∈ S192.1 := by rw [hS192]; exact List.mem_append_left _ hL343
    have hf346 : S192.2 cob3 = aN (cy 0) 320 (fun _ => 0) := by rw [hS192]; exact (pnew_n (fun z : cob3 = dd => hq_dd (by rw [← z]; exact hL343))).trans hf344
    have hL347 : cor4 ∈ S167.1 := by rw [hS167]; exact List.mem_append_left _ hL133
    have hf348 : S167.2 cor4 = .inr (8, [.ref cob4, .int (nI 0)]) := by rw [hS167]; exact (pnew_n (fun z : cor4 = mm => hq_mm (by rw [← z]; exact hL133))).trans hf27
    have hL349 : cor4 ∈ S170.1 := by rw [hS172]; exact List.mem_append_left _ hL347
    have hf350 : S170.2 cor4 = .inr (8, [.ref cob4, .int (nI 0)]) := (hfr173 cor4 hL347 (fun z : cor4 = mm => hq_mm (by rw [← z]; exact hL133))).trans hf348
    have hL351 : cor4 ∈ S189.1 := by rw [hS189]; exact List.mem_append_left _ hL349
    have hf352 : S189.2 cor4 = .inr (8, [.ref cob4, .int (nI 0)]) := by rw [hS189]; exact (pnew_n (fun z : cor4 = jo => hq_jo (by rw [← z]; exact hL349))).trans hf350
    have hL353 : cor4 ∈ S192.1 := by rw [hS192]; exact List.mem_append_left _ hL351
    have hf354 : S192.2 cor4 = .inr (8, [.ref cob4, .int (nI 0)]) := by rw [hS192]; exact (pnew_n (fun z : cor4 = dd => hq_dd (by rw [← z]; exact hL351))).trans hf352
    have hL355 : cob4 ∈ S167.1 := by rw [hS167]; exact List.mem_append_left _ hL134
    have hf356 : S167.2 cob4 = aN (cy 0) 320 (fun _ => 0) := by rw [hS167]; exact (pnew_n (fun z : cob4 = mm => hq_mm (by rw [← z]; exact hL134))).trans hf28
    have hL357 : cob4 ∈ S170.1 := by rw [hS172]; exact List.mem_append_left _ hL355
    have hf358 : S170.2 cob4 = aN (cy 0) 320 (fun _ => 0) := (hfr173 cob4 hL355 (fun z : cob4 = mm => hq_mm (by rw [← z]; exact hL134))).trans hf356
    have hL359 : cob4 ∈ S189.1 := by rw [hS189]; exact List.mem_append_left _ hL357
    have hf360 : S189.2 cob4 = aN (cy 0) 320 (fun _ => 0) := by rw [hS189]; exact (pnew_n (fun z : cob4 = jo => hq_jo (by rw [← z]; exact hL357))).trans hf358
    have hL361 : cob4 ∈ S192.1 := by rw [hS192]; exact List.mem_append_left _ hL359
    have hf362 : S192.2 cob4 = aN (cy 0) 320 (fun _ => 0) := by rw [hS192]; exact (pnew_n (fun z : cob4 = dd => hq_dd (by rw [← z]; exact hL359))).trans hf360
    have hL363 : ca ∈ S167.1 := by rw [hS167]; exact List.mem_append_left _ hL135
    have hf364 : S167.2 ca = .inr (5, [.ref cal, .ref can]) := by rw [hS167]; exact (pnew_n (fun z : ca = mm => hq_mm (by rw [← z]; exact hL135))).trans hf29
    have hL365 : ca ∈ S170.1 := by rw [hS172]; exact List.mem_append_left _ hL363
    have hf366 : S170.2 ca = .inr (5, [.ref cal, .ref can]) := (hfr173 ca hL363 (fun z : ca = mm => hq_mm (by rw [← z]; exact hL135))).trans hf364
    have hL367 : ca ∈ S189.1 := by rw [hS189]; exact List.mem_append_left _ hL365
    have hf368 : S189.2 ca = .inr (5, [.ref cal, .ref can]) := by rw [hS189]; exact (pnew_n (fun z : ca = jo => hq_jo (by rw [← z]; exact hL365))).trans hf366
    have hL369 : ca ∈ S192.1 := by rw [hS192]; exact List.mem_append_left _ hL367
    have hf370 : S192.2 ca = .inr (5, [.ref cal, .ref can]) := by rw [hS192]; exact (pnew_n (fun z : ca = dd => hq_dd (by rw [← z]; exact hL367))).trans hf368
    have hL371 : cal ∈ S167.1 := by rw [hS167]; exact List.mem_append_left _ hL136
    have hf372 : S167.2 cal = aQ (cy 2) 5 (va_up (va_up (va_up (va_up (va_up (fun _ => none) 0 (some car0)) 1 (some car1)) 2 (some car2)) 3 (some car3)) 4 (some car4)) := by rw [hS167]; exact (pnew_n (fun z : cal = mm => hq_mm (by rw [← z]; exact hL136))).trans hf30
    have hL373 : cal ∈ S170.1 := by rw [hS172]; exact List.mem_append_left _ hL371
    have hf374 : S170.2 cal = aQ (cy 2) 5 (va_up (va_up (va_up (va_up (va_up (fun _ => none) 0 (some car0)) 1 (some car1)) 2 (some car2)) 3 (some car3)) 4 (some car4)) := (hfr173 cal hL371 (fun z : cal = mm => hq_mm (by rw [← z]; exact hL136))).trans hf372
    have hL375 : cal ∈ S189.1 := by rw [hS189]; exact List.mem_append_left _ hL373
    have hf376 : S189.2 cal = aQ (cy 2) 5 (va_up (va_up (va_up (va_up (va_up (fun _ => none) 0 (some car0)) 1 (some car1)) 2 (some car2)) 3 (some car3)) 4 (some car4)) := by rw [hS189]; exact (pnew_n (fun z : cal = jo => hq_jo (by rw [← z]; exact hL373))).trans hf374
    have hL377 : cal ∈ S192.1 := by rw [hS192]; exact List.mem_append_left _ hL375
    have hf378 : S192.2 cal = aQ (cy 2) 5 (va_up (va_up (va_up (va_up (va_up (fun _ => none) 0 (some car0)) 1 (some car1)) 2 (some car2)) 3 (some car3)) 4 (some car4)) := by rw [hS192]; exact (pnew_n (fun z : cal = dd => hq_dd (by rw [← z]; exact hL375))).trans hf376
    have hL379 : can ∈ S167.1 := by rw [hS167]; exact List.mem_append_left _ hL137
    have hf380 : S167.2 can = .inr (8, [.ref cam, .int (nI 0)]) := by rw [hS167]; exact (pnew_n (fun z : can = mm => hq_mm (by rw [← z]; exact hL137))).trans hf31
    have hL381 : can ∈ S170.1 := by rw [hS172]; exact List.mem_append_left _ hL379
    have hf382 : S170.2 can = .inr (8, [.ref cam, .int (nI 0)]) := (hfr173 can hL379 (fun z : can = mm => hq_mm (by rw [← z]; exact hL137))).trans hf380
    have hL383 : can ∈ S189.1 := by rw [hS189]; exact List.mem_append_left _ hL381
    have hf384 : S189.2 can = .inr (8, [.ref cam, .int (nI 0)]) := by rw [hS189]; exact (pnew_n (fun z : can = jo => hq_jo (by rw [← z]; exact hL381))).trans hf382
    have hL385 : can ∈ S192.1 := by rw [hS192]; exact List.mem_append_left _ hL383
    have hf386 : S192.2 can = .inr (8, [.ref cam, .int (nI 0)]) := by rw [hS192]; exact (pnew_n (fun z : can = dd => hq_dd (by rw [← z]; exact hL383))).trans hf384
    have hL387 : cam ∈ S167.1 := by rw [hS167]; exact List.mem_append_left _ hL138
    have hf388 : S167.2 cam = aN (cy 0) 0 (fun _ => 0) := by rw [hS167]; exact (pnew_n (fun z : cam = mm => hq_mm (by rw [← z]; exact hL138))).trans hf32
    have hL389 : cam ∈ S170.1 := by rw [hS172]; exact List.mem_append_left _ hL387
    have hf390 : S170.2 cam = aN (cy 0) 0 (fun _ => 0) := (hfr173 cam hL387 (fun z : cam = mm => hq_mm (by rw [← z]; exact hL138))).trans hf388
    have hL391 : cam ∈ S189.1 := by rw [hS189]; exact List.mem_append_left _ hL389
    have hf392 : S189.2 cam = aN (cy 0) 0 (fun _ => 0) := by rw [hS189]; exact (pnew_n (fun z : cam = jo => hq_jo (by rw [← z]; exact hL389))).trans hf390
    have hL393 : cam ∈ S192.1 := by rw [hS192]; exact List.mem_append_left _ hL391
    have hf394 : S192.2 cam = aN (cy 0) 0 (fun _ => 0) := by rw [hS192]; exact (pnew_n (fun z : cam = dd => hq_dd (by rw [← z]; exact hL391))).trans hf392
    have hL395 : car0 ∈ S167.1 := by rw [hS167]; exact List.mem_append_left _ hL139
    have hf396 : S167.2 car0 = .inr (8, [.ref cab0, .int (nI 0)]) := by rw [hS167]; exact (pnew_n (fun z : car0 = mm => hq_mm (by rw [← z]; exact hL139))).trans hf33
    have hL397 : car0 ∈ S170.1 := by rw [hS172]; exact List.mem_append_left _ hL395
    have hf398 : S170.2 car0 = .inr (8, [.ref cab0, .int (nI 0)]) := (hfr173 car0 hL395 (fun z : car0 = mm => hq_mm (by rw [← z]; exact hL139))).trans hf396
    have hL399 : car0 ∈ S189.1 := by rw [hS189]; exact List.mem_append_left _ hL397
    have hf400 : S189.2 car0 = .inr (8, [.ref cab0, .int (nI 0)]) := by rw [hS189]; exact (pnew_n (fun z : car0 = jo => hq_jo (by rw [← z]; exact hL397))).trans hf398
    have hL401 : car0 ∈ S192.1 := by rw [hS192]; exact List.mem_append_left _ hL399
    have hf402 : S192.2 car0 = .inr (8, [.ref cab0, .int (nI 0)]) := by rw [hS192]; exact (pnew_n (fun z : car0 = dd => hq_dd (by rw [← z]; exact hL399))).trans hf400
    have hL403 : cab0 ∈ S167.1 := by rw [hS167]; exact List.mem_append_left _ hL140
    have hf404 : S167.2 cab0 = aN (cy 0) 32 (fun _ => 0) := by rw [hS167]; exact (pnew_n (fun z : cab0 = mm => hq_mm (by rw [← z]; exact hL140))).trans hf34
    have hL405 : cab0 ∈ S170.1 := by rw [hS172]; exact List.mem_append_left _ hL403
    have hf406 : S170.2 cab0 = aN (cy 0) 32 (fun _ => 0) := (hfr173 cab0 hL403 (fun z : cab0 = mm => hq_mm (by rw [← z]; exact hL140))).trans hf404
    have hL407 : cab0 ∈ S189.1 := by rw [hS189]; exact List.mem_append_left _ hL405
    have hf408 : S189.2 cab0 = aN (cy 0) 32 (fun _ => 0) := by rw [hS189]; exact (pnew_n (fun z : cab0 = jo => hq_jo (by rw [← z]; exact hL405))).trans hf406
    have hL409 : cab0 ∈ S192.1 := by rw [hS192]; exact List.mem_append_left _ hL407
    have hf410 : S192.2 cab0 = aN (cy 0) 32 (fun _ => 0) := by rw [hS192]; exact (pnew_n (fun z : cab0 = dd => hq_dd (by rw [← z]; exact hL407))).trans hf408
    have hL411 : car1 ∈ S167.1 := by rw [hS167]; exact List.mem_append_left _ hL141
    have hf412 : S167.2 car1 = .inr (8, [.ref cab1, .int (nI 0)]) := by rw [hS167]; exact (pnew_n (fun z : car1 = mm => hq_mm (by rw [← z]; exact hL141))).trans hf35
    have hL413 : car1 ∈ S170.1 := by rw [hS172]; exact List.mem_append_left _ hL411
    have hf414 : S170.2 car1 = .inr (8, [.ref cab1, .int (nI 0)]) := (hfr173 car1 hL411 (fun z : car1 = mm => hq_mm (by rw [← z]; exact hL141))).trans hf412
    have hL415 : car1 ∈ S189.1 := by rw [hS189]; exact List.mem_append_left _ hL413
    have hf416 : S189.2 car1 = .inr (8, [.ref cab1, .int (nI 0)]) := by rw [hS189]; exact (pnew_n (fun z : car1 = jo => hq_jo (by rw [← z]; exact hL413))).trans hf414
    have hL417 : car1 ∈ S192.1 := by rw [hS192]; exact List.mem_append_left _ hL415
    have hf418 : S192.2 car1 = .inr (8, [.ref cab1, .int (nI 0)]) := by rw [hS192]; exact (pnew_n (fun z : car1 = dd => hq_dd (by rw [← z]; exact hL415))).trans hf416
    have hL419 : cab1 ∈ S167.1 := by rw [hS167]; exact List.mem_append_left _ hL142
    have hf420 : S167.2 cab1 = aN (cy 0) 320 (fun _ => 0) := by rw [hS167]; exact (pnew_n (fun z : cab1 = mm => hq_mm (by rw [← z]; exact hL142))).trans hf36
    have hL421 : cab1 ∈ S170.1 := by rw [hS172]; exact List.mem_append_left _ hL419
    have hf422 : S170.2 cab1 = aN (cy 0) 320 (fun _ => 0) := (hfr173 cab1 hL419 (fun z : cab1 = mm => hq_mm (by rw [← z]; exact hL142))).trans hf420
    have hL423 : cab1 ∈ S189.1 := by rw [hS189]; exact List.mem_append_left _ hL421
    have hf424 : S189.2 cab1 = aN (cy 0) 320 (fun _ => 0) := by rw [hS189]; exact (pnew_n (fun z : cab1 = jo => hq_jo (by rw [← z]; exact hL421))).trans hf422
    have hL425 : cab1 ∈ S192.1 := by rw [hS192]; exact List.mem_append_left _ hL423
    have hf426 : S192.2 cab1 = aN (cy 0) 320 (fun _ => 0) := by rw [hS192]; exact (pnew_n (fun z : cab1 = dd => hq_dd (by rw [← z]; exact hL423))).trans hf424
    have hL427 : car2 ∈ S167.1 := by rw [hS167]; exact List.mem_append_left _ hL143
    have hf428 : S167.2 car2 = .inr (8, [.ref cab2, .int (nI 0)]) := by rw [hS167]; exact (pnew_n (fun z : car2 = mm => hq_mm (by rw [← z]; exact hL143))).trans hf37
    have hL429 : car2 ∈ S170.1 := by rw [hS172]; exact List.mem_append_left _ hL427
    have hf430 : S170.2 car2 = .inr (8, [.ref cab2, .int (nI 0)]) := (hfr173 car2 hL427 (fun z : car2 = mm => hq_mm (by rw [← z]; exact hL143))).trans hf428
    have hL431 : car2 ∈ S189.1 := by rw [hS189]; exact List.mem_append_left _ hL429
    have hf432 : S189.2 car2 = .inr (8, [.ref cab2, .int (nI 0)]) := by rw [hS189]; exact (pnew_n (fun z : car2 = jo => hq_jo (by rw [← z]; exact hL429))).trans hf430
    have hL433 : car2 ∈ S192.1 := by rw [hS192]; exact List.mem_append_left _ hL431
    have hf434 : S192.2 car2 = .inr (8, [.ref cab2, .int (nI 0)]) := by rw [hS192]; exact (pnew_n (fun z : car2 = dd => hq_dd (by rw [← z]; exact hL431))).trans hf432
    have hL435 : cab2 ∈ S167.1 := by rw [hS167]; exact List.mem_append_left _ hL144
    have hf436 : S167.2 cab2 = aN (cy 0) 320 (fun _ => 0) := by rw [hS167]; exact (pnew_n (fun z : cab2 = mm => hq_mm (by rw [← z]; exact hL144))).trans hf38
    have hL437 : cab2 ∈ S170.1 := by rw [hS172]; exact List.mem_append_left _ hL435
    have hf438 : S170.2 cab2 = aN (cy 0) 320 (fun _ => 0) := (hfr173 cab2 hL435 (fun z : cab2 = mm => hq_mm (by rw [← z]; exact hL144))).trans hf436
    have hL439 : cab2 ∈ S189.1 := by rw [hS189]; exact List.mem_append_left _ hL437
    have hf440 : S189.2 cab2 = aN (cy 0) 320 (fun _ => 0) := by rw [hS189]; exact (pnew_n (fun z : cab2 = jo => hq_jo (by rw [← z]; exact hL437))).trans hf438
    have hL441 : cab2 ∈ S192.1 := by rw [hS192]; exact List.mem_append_left _ hL439
    have hf442 : S192.2 cab2 = aN (cy 0) 320 (fun _ => 0) := by rw [hS192]; exact (pnew_n (fun z : cab2 = dd => hq_dd (by rw [← z]; exact hL439))).trans hf440
    have hL443 : car3 ∈ S167.1 := by rw [hS167]; exact List.mem_append_left _ hL145
    have hf444 : S167.2 car3 = .inr (8, [.ref cab3, .int (nI 0)]) := by rw [hS167]; exact (pnew_n (fun z : car3 = mm => hq_mm (by rw [← z]; exact hL145))).trans hf39
    have hL445 : car3 ∈ S170.1 := by rw [hS172]; exact List.mem_append_left _ hL443
    have hf446 : S170.2 car3 = .inr (8, [.ref cab3, .int (nI 0)]) := (hfr173 car3 hL443 (fun z : car3 = mm => hq_mm (by rw [← z]; exact hL145))).trans hf444
    have hL447 : car3 ∈ S189.1 := by rw [hS189]; exact List.mem_append_left _ hL445
    have hf448 : S189.2 car3 = .inr (8, [.ref cab3, .int (nI 0)]) := by rw [hS189]; exact (pnew_n (fun z : car3 = jo => hq_jo (by rw [← z]; exact hL445))).trans hf446
    have hL449 : car3 ∈ S192.1 := by rw [hS192]; exact List.mem_append_left _ hL447
    have hf450 : S192.2 car3 = .inr (8, [.ref cab3, .int (nI 0)]) := by rw [hS192]; exact (pnew_n (fun z : car3 = dd => hq_dd (by rw [← z]; exact hL447))).trans hf448
    have hL451 : cab3 ∈ S167.1 := by rw [hS167]; exact List.mem_append_left _ hL146
    have hf452 : S167.2 cab3 = aN (cy 0) 320 (fun _ => 0) := by rw [hS167]; exact (pnew_n (fun z : cab3 = mm => hq_mm (by rw [← z]; exact hL146))).trans hf40
    have hL453 : cab3 ∈ S170.1 := by rw [hS172]; exact List.mem_append_left _ hL451
    have hf454 : S170.2 cab3 = aN (cy 0) 320 (fun _ => 0) := (hfr173 cab3 hL451 (fun z : cab3 = mm => hq_mm (by rw [← z]; exact hL146))).trans hf452
    have hL455 : cab3 ∈ S189.1 := by rw [hS189]; exact List.mem_append_left _ hL453
    have hf456 : S189.2 cab3 = aN (cy 0) 320 (fun _ => 0) := by rw [hS189]; exact (pnew_n (fun z : cab3 = jo => hq_jo (by rw [← z]; exact hL453))).trans hf454
    have hL457 : cab3 ∈ S192.1 := by rw [hS192]; exact List.mem_append_left _ hL455
    have hf458 : S192.2 cab3 = aN (cy 0) 320 (fun _ => 0) := by rw [hS192]; exact (pnew_n (fun z : cab3 = dd => hq_dd (by rw [← z]; exact hL455))).trans hf456
    have hL459 : car4 ∈ S167.1 := by rw [hS167]; exact List.mem_append_left _ hL147
    have hf460 : S167.2 car4 = .inr (8, [.ref cab4, .int (nI 0)]) := by rw [hS167]; exact (pnew_n (fun z : car4 = mm => hq_mm (by rw [← z]; exact hL147))).trans hf41
    have hL461 : car4 ∈ S170.1 := by rw [hS172]; exact List.mem_append_left _ hL459
    have hf462 : S170.2 car4 = .inr (8, [.ref cab4, .int (nI 0)]) := (hfr173 car4 hL459 (fun z : car4 = mm => hq_mm (by rw [← z]; exact hL147))).trans hf460
    have hL463 : car4 ∈ S189.1 := by rw [hS189]; exact List.mem_append_left _ hL461
    have hf464 : S189.2 car4 = .inr (8, [.ref cab4, .int (nI 0)]) := by rw [hS189]; exact (pnew_n (fun z : car4 = jo => hq_jo (by rw [← z]; exact hL461))).trans hf462
    have hL465 : car4 ∈ S192.1 := by rw [hS192]; exact List.mem_append_left _ hL463
    have hf466 : S192.2 car4 = .inr (8, [.ref cab4, .int (nI 0)]) := by rw [hS192]; exact (pnew_n (fun z : car4 = dd => hq_dd (by rw [← z]; exact hL463))).trans hf464
    have hL467 : cab4 ∈ S167.1 := by rw [hS167]; exact List.mem_append_left _ hL148
    have hf468 : S167.2 cab4 = aN (cy 0) 320 (fun _ => 0) := by rw [hS167]; exact (pnew_n (fun z : cab4 = mm => hq_mm (by rw [← z]; exact hL148))).trans hf42
    have hL469 : cab4 ∈ S170.1 := by rw [hS172]; exact List.mem_append_left _ hL467
    have hf470 : S170.2 cab4 = aN (cy 0) 320 (fun _ => 0) := (hfr173 cab4 hL467 (fun z : cab4 = mm => hq_mm (by rw [← z]; exact hL148))).trans hf468
    have hL471 : cab4 ∈ S189.1 := by rw [hS189]; exact List.mem_append_left _ hL469
    have hf472 : S189.2 cab4 = aN (cy 0) 320 (fun _ => 0) := by rw [hS189]; exact (pnew_n (fun z : cab4 = jo => hq_jo (by rw [← z]; exact hL469))).trans hf470
    have hL473 : cab4 ∈ S192.1 := by rw [hS192]; exact List.mem_append_left _ hL471
    have hf474 : S192.2 cab4 = aN (cy 0) 320 (fun _ => 0) := by rw [hS192]; exact (pnew_n (fun z : cab4 = dd => hq_dd (by rw [← z]; exact hL471))).trans hf472
    have hL475 : su ∈ S167.1 := by rw [hS167]; exact List.mem_append_left _ hL149
    have hf476 : S167.2 su = .inr (5, [.ref sul, .ref sun]) := by rw [hS167]; exact (pnew_n (fun z : su = mm => hq_mm (by rw [← z]; exact hL149))).trans hf43
    have hL477 : su ∈ S170.1 := by rw [hS172]; exact List.mem_append_left _ hL475
    have hf478 : S170.2 su = .inr (5, [.ref sul, .ref sun]) := (hfr173 su hL475 (fun z : su = mm => hq_mm (by rw [← z]; exact hL149))).trans hf476
    have hL479 : su ∈ S189.1 := by rw [hS189]; exact List.mem_append_left _ hL477
    have hf480 : S189.2 su = .inr (5, [.ref sul, .ref sun]) := by rw [hS189]; exact (pnew_n (fun z : su = jo => hq_jo (by rw [← z]; exact hL477))).trans hf478
    have hL481 : su ∈ S192.1 := by rw [hS192]; exact List.mem_append_left _ hL479
    have hf482 : S192.2 su = .inr (5, [.ref sul, .ref sun]) := by rw [hS192]; exact (pnew_n (fun z : su = dd => hq_dd (by rw [← z]; exact hL479))).trans hf480
    have hL483 : sul ∈ S167.1 := by rw [hS167]; exact List.mem_append_left _ hL150
    have hf484 : S167.2 sul = aQ (cy 2) 5 (va_up (va_up (va_up (va_up (va_up (fun _ => none) 0 (some sur0)) 1 (some sur1)) 2 (some sur2)) 3 (some sur3)) 4 (some sur4)) := by rw [hS167]; exact (pnew_n (fun z : sul = mm => hq_mm (by rw [← z]; exact hL150))).trans hf44
    have hL485 : sul ∈ S170.1 := by rw [hS172]; exact List.mem_append_left _ hL483
    have hf486 : S170.2 sul = aQ (cy 2) 5 (va_up (va_up (va_up (va_up (va_up (fun _ => none) 0 (some sur0)) 1 (some sur1)) 2 (some sur2)) 3 (some sur3)) 4 (some sur4)) := (hfr173 sul hL483 (fun z : sul = mm => hq_mm (by rw [← z]; exact hL150))).trans hf484
    have hL487 : sul ∈ S189.1 := by rw [hS189]; exact List.mem_append_left _ hL485
    have hf488 : S189.2 sul = aQ (cy 2) 5 (va_up (va_up (va_up (va_up (va_up (fun _ => none) 0 (some sur0)) 1 (some sur1)) 2 (some sur2)) 3 (some sur3)) 4 (some sur4)) := by rw [hS189]; exact (pnew_n (fun z : sul = jo => hq_jo (by rw [← z]; exact hL485))).trans hf486
    have hL489 : sul ∈ S192.1 := by rw [hS192]; exact List.mem_append_left _ hL487
    have hf490 : S192.2 sul = aQ (cy 2) 5 (va_up (va_up (va_up (va_up (va_up (fun _ => none) 0 (some sur0)) 1 (some sur1)) 2 (some sur2)) 3 (some sur3)) 4 (some sur4)) := by rw [hS192]; exact (pnew_n (fun z : sul = dd => hq_dd (by rw [← z]; exact hL487))).trans hf488
    have hL491 : sun ∈ S167.1 := by rw [hS167]; exact List.mem_append_left _ hL151
    have hf492 : S167.2 sun = .inr (8, [.ref sum, .int (nI 0)]) := by rw [hS167]; exact (pnew_n (fun z : sun = mm => hq_mm (by rw [← z]; exact hL151))).trans hf45
    have hL493 : sun ∈ S170.1 := by rw [hS172]; exact List.mem_append_left _ hL491
    have hf494 : S170.2 sun = .inr (8, [.ref sum, .int (nI 0)]) := (hfr173 sun hL491 (fun z : sun = mm => hq_mm (by rw [← z]; exact hL151))).trans hf492
    have hL495 : sun ∈ S189.1 := by rw [hS189]; exact List.mem_append_left _ hL493
    have hf496 : S189.2 sun = .inr (8, [.ref sum, .int (nI 0)]) := by rw [hS189]; exact (pnew_n (fun z : sun = jo => hq_jo (by rw [← z]; exact hL493))).trans hf494
    have hL497 : sun ∈ S192.1 := by rw [hS192]; exact List.mem_append_left _ hL495
    have hf498 : S192.2 sun = .inr (8, [.ref sum, .int (nI 0)]) := by rw [hS192]; exact (pnew_n (fun z : sun = dd => hq_dd (by rw [← z]; exact hL495))).trans hf496
    have hL499 : sum ∈ S167.1 := by rw [hS167]; exact List.mem_append_left _ hL152
    have hf500 : S167.2 sum = aN (cy 0) 0 (fun _ => 0) := by rw [hS167]; exact (pnew_n (fun z : sum = mm => hq_mm (by rw [← z]; exact hL152))).trans hf46
    have hL501 : sum ∈ S170.1 := by rw [hS172]; exact List.mem_append_left _ hL499
    have hf502 : S170.2 sum = aN (cy 0) 0 (fun _ => 0) := (hfr173 sum hL499 (fun z : sum = mm => hq_mm (by rw [← z]; exact hL152))).trans hf500
    have hL503 : sum ∈ S189.1 := by rw [hS189]; exact List.mem_append_left _ hL501
    have hf504 : S189.2 sum = aN (cy 0) 0 (fun _ => 0) := by rw [hS189]; exact (pnew_n (fun z : sum = jo => hq_jo (by rw [← z]; exact hL501))).trans hf502
    have hL505 : sum ∈ S192.1 := by rw [hS192]; exact List.mem_append_left _ hL503
    have hf506 : S192.2 sum = aN (cy 0) 0 (fun _ => 0) := by rw [hS192]; exact (pnew_n (fun z : sum = dd => hq_dd (by rw [← z]; exact hL503))).trans hf504
    have hL507 : sur0 ∈ S167.1 := by rw [hS167]; exact List.mem_append_left _ hL153
    have hf508 : S167.2 sur0 = .inr (8, [.ref sub0, .int (nI 0)]) := by rw [hS167]; exact (pnew_n (fun z : sur0 = mm => hq_mm (by rw [← z]; exact hL153))).trans hf47
    have hL509 : sur0 ∈ S170.1 := by rw [hS172]; exact List.mem_append_left _ hL507
    have hf510 : S170.2 sur0 = .inr (8, [.ref sub0, .int (nI 0)]) := (hfr173 sur0 hL507 (fun z : sur0 = mm => hq_mm (by rw [← z]; exact hL153))).trans hf508
    have hL511 : sur0 ∈ S189.1 := by rw [hS189]; exact List.mem_append_left _ hL509
    have hf512 : S189.2 sur0 = .inr (8, [.ref sub0, .int (nI 0)]) := by rw [hS189]; exact (pnew_n (fun z : sur0 = jo => hq_jo (by rw [← z]; exact hL509))).trans hf510
    have hL513 : sur0 ∈ S192.1 := by rw [hS192]; exact List.mem_append_left _ hL511
    have hf514 : S192.2 sur0 = .inr (8, [.ref sub0, .int (nI 0)]) := by rw [hS192]; exact (pnew_n (fun z : sur0 = dd => hq_dd (by rw [← z]; exact hL511))).trans hf512
    have hL515 : sub0 ∈ S167.1 := by rw [hS167]; exact List.mem_append_left _ hL154
    have hf516 : S167.2 sub0 = aN (cy 0) 32 (fun _ => 0) := by rw [hS167]; exact (pnew_n (fun z : sub0 = mm => hq_mm (by rw [← z]; exact hL154))).trans hf48
    have hL517 : sub0 ∈ S170.1 := by rw [hS172]; exact List.mem_append_left _ hL515
    have hf518 : S170.2 sub0 = aN (cy 0) 32 (fun _ => 0) := (hfr173 sub0 hL515 (fun z : sub0 = mm => hq_mm (by rw [← z]; exact hL154))).trans hf516
    have hL519 : sub0 ∈ S189.1 := by rw [hS189]; exact List.mem_append_left _ hL517
    have hf520 : S189.2 sub0 = aN (cy 0) 32 (fun _ => 0) := by rw [hS189]; exact (pnew_n (fun z : sub0 = jo => hq_jo (by rw [← z]; exact hL517))).trans hf518
    have hL521 : sub0 ∈ S192.1 := by rw [hS192]; exact List.mem_append_left _ hL519
    have hf522 : S192.2 sub0 = aN (cy 0) 32 (fun _ => 0) := by rw [hS192]; exact (pnew_n (fun z : sub0 = dd => hq_dd (by rw [← z]; exact hL519))).trans hf520
    have hL523 : sur1 ∈ S167.1 := by rw [hS167]; exact List.mem_append_left _ hL155
    have hf524 : S167.2 sur1 = .inr (8, [.ref sub1, .int (nI 0)]) := by rw [hS167]; exact (pnew_n (fun z : sur1 = mm => hq_mm (by rw [← z]; exact hL155))).trans hf49
    have hL525 : sur1 ∈ S170.1 := by rw [hS172]; exact List.mem_append_left _ hL523
    have hf526 : S170.2 sur1 = .inr (8, [.ref sub1, .int (nI 0)]) := (hfr173 sur1 hL523 (fun z : sur1 = mm => hq_mm (by rw [← z]; exact hL155))).trans hf524
    have hL527 : sur1 ∈ S189.1 := by rw [hS189]; exact List.mem_append_left _ hL525
    have hf528 : S189.2 sur1 = .inr (8, [.ref sub1, .int (nI 0)]) := by rw [hS189]; exact (pnew_n (fun z : sur1 = jo => hq_jo (by rw [← z]; exact hL525))).trans hf526
    have hL529 : sur1 ∈ S192.1 := by rw [hS192]; exact List.mem_append_left _ hL527
    have hf530 : S192.2 sur1 = .inr (8, [.ref sub1, .int (nI 0)]) := by rw [hS192]; exact (pnew_n (fun z : sur1 = dd => hq_dd (by rw [← z]; exact hL527))).trans hf528
    have hL531 : sub1 ∈ S167.1 := by rw [hS167]; exact List.mem_append_left _ hL156
    have hf532 : S167.2 sub1 = aN (cy 0) 320 (fun _ => 0) := by rw [hS167]; exact (pnew_n (fun z : sub1 = mm => hq_mm (by rw [← z]; exact hL156))).trans hf50
    have hL533 : sub1 ∈ S170.1 := by rw [hS172]; exact List.mem_append_left _ hL531
    have hf534 : S170.2 sub1 = aN (cy 0) 320 (fun _ => 0) := (hfr173 sub1 hL531 (fun z : sub1 = mm => hq_mm (by rw [← z]; exact hL156))).trans hf532
    have hL535 : sub1 ∈ S189.1 := by rw [hS189]; exact List.mem_append_left _ hL533
    have hf536 : S189.2 sub1 = aN (cy 0) 320 (fun _ => 0) := by rw [hS189]; exact (pnew_n (fun z : sub1 = jo => hq_jo (by rw [← z]; exact hL533))).trans hf534
    have hL537 : sub1 ∈ S192.1 := by rw [hS192]; exact List.mem_append_left _ hL535
    have hf538 : S192.2 sub1 = aN (cy 0) 320 (fun _ => 0) := by rw [hS192]; exact (pnew_n (fun z : sub1 = dd => hq_dd (by rw [← z]; exact hL535))).trans hf536
    have hL539 : sur2 ∈ S167.1 := by rw [hS167]; exact List.mem_append_left _ hL157
    have hf540 : S167.2 sur2 = .inr (8, [.ref sub2, .int (nI 0)]) := by rw [hS167]; exact (pnew_n (fun z : sur2 = mm => hq_mm (by rw [← z]; exact hL157))).trans hf51
    have hL541 : sur2 ∈ S170.1 := by rw [hS172]; exact List.mem_append_left _ hL539
    have hf542 : S170.2 sur2 = .inr (8, [.ref sub2, .int (nI 0)]) := (hfr173 sur2 hL539 (fun z : sur2 = mm => hq_mm (by rw [← z]; exact hL157))).trans hf540
    have hL543 : sur2 ∈ S189.1 := by rw [hS189]; exact List.mem_append_left _ hL541
    have hf544 : S189.2 sur2 = .inr (8, [.ref sub2, .int (nI 0)]) := by rw [hS189]; exact (pnew_n (fun z : sur2 = jo => hq_jo (by rw [← z]; exact hL541))).trans hf542
    have hL545 : sur2 ∈ S192.1 := by rw [hS192]; exact List.mem_append_left _ hL543
    have hf546 : S192.2 sur2 = .inr (8, [.ref sub2, .int (nI 0)]) := by rw [hS192]; exact (pnew_n (fun z : sur2 = dd => hq_dd (by rw [← z]; exact hL543))).trans hf544
    have hL547 : sub2 ∈ S167.1 := by rw [hS167]; exact List.mem_append_left _ hL158
    have hf548 : S167.2 sub2 = aN (cy 0) 320 (fun _ => 0) := by rw [hS167]; exact (pnew_n (fun z : sub2 = mm => hq_mm (by rw [← z]; exact hL158))).trans hf52
    have hL549 : sub2 ∈ S170.1 := by rw [hS172]; exact List.mem_append_left _ hL547
    have hf550 : S170.2 sub2 = aN (cy 0) 320 (fun _ => 0) := (hfr173 sub2 hL547 (fun z : sub2 = mm => hq_mm (by rw [← z]; exact hL158))).trans hf548
    have hL551 : sub2 ∈ S189.1 := by rw [hS189]; exact List.mem_append_left _ hL549
    have hf552 : S189.2 sub2 = aN (cy 0) 320 (fun _ => 0) := by rw [hS189]; exact (pnew_n (fun z : sub2 = jo => hq_jo (by rw [← z]; exact hL549))).trans hf550
    have hL553 : sub2 ∈ S192.1 := by rw [hS192]; exact List.mem_append_left _ hL551
    have hf554 : S192.2 sub2 = aN (cy 0) 320 (fun _ => 0) := by rw [hS192]; exact (pnew_n (fun z : sub2 = dd => hq_dd (by rw [← z]; exact hL551))).trans hf552
    have hL555 : sur3 ∈ S167.1 := by rw [hS167]; exact List.mem_append_left _ hL159
    have hf556 : S167.2 sur3 = .inr (8, [.ref sub3, .int (nI 0)]) := by rw [hS167]; exact (pnew_n (fun z : sur3 = mm => hq_mm (by rw [← z]; exact hL159))).trans hf53
    have hL557 : sur3 ∈ S170.1 := by rw [hS172]; exact List.mem_append_left _ hL555
    have hf558 : S170.2 sur3 = .inr (8, [.ref sub3, .int (nI 0)]) := (hfr173 sur3 hL555 (fun z : sur3 = mm => hq_mm (by rw [← z]; exact hL159))).trans hf556
    have hL559 : sur3 ∈ S189.1 := by rw [hS189]; exact List.mem_append_left _ hL557
    have hf560 : S189.2 sur3 = .inr (8, [.ref sub3, .int (nI 0)]) := by rw [hS189]; exact (pnew_n (fun z : sur3 = jo => hq_jo (by rw [← z]; exact hL557))).trans hf558
    have hL561 : sur3 ∈ S192.1 := by rw [hS192]; exact List.mem_append_left _ hL559
    have hf562 : S192.2 sur3 = .inr (8, [.ref sub3, .int (nI 0)]) := by rw [hS192]; exact (pnew_n (fun z : sur3 = dd => hq_dd (by rw [← z]; exact hL559))).trans hf560
    have hL563 : sub3 ∈ S167.1 := by rw [hS167]; exact List.mem_append_left _ hL160
    have hf564 : S167.2 sub3 = aN (cy 0) 320 (fun _ => 0) := by rw [hS167]; exact (pnew_n (fun z : sub3 = mm => hq_mm (by rw [← z]; exact hL160))).trans hf54
    have hL565 : sub3 ∈ S170.1 := by rw [hS172]; exact List.mem_append_left _ hL563
    have hf566 : S170.2 sub3 = aN (cy 0) 320 (fun _ => 0) := (hfr173 sub3 hL563 (fun z : sub3 = mm => hq_mm (by rw [← z]; exact hL160))).trans hf564
    have hL567 : sub3 ∈ S189.1 := by rw [hS189]; exact List.mem_append_left _ hL565
    have hf568 : S189.2 sub3 = aN (cy 0) 320 (fun _ => 0) := by rw [hS189]; exact (pnew_n (fun z : sub3 = jo => hq_jo (by rw [← z]; exact hL565))).trans hf566
    have hL569 : sub3 ∈ S192.1 := by rw [hS192]; exact List.mem_append_left _ hL567
    have hf570 : S192.2 sub3 = aN (cy 0) 320 (fun _ => 0) := by rw [hS192]; exact (pnew_n (fun z : sub3 = dd => hq_dd (by rw [← z]; exact hL567))).trans hf568
    have hL571 : sur4 ∈ S167.1 := by rw [hS167]; exact List.mem_append_left _ hL161
    have hf572 : S167.2 sur4 = .inr (8, [.ref sub4, .int (nI 0)]) := by rw [hS167]; exact (pnew_n (fun z : sur4 = mm => hq_mm (by rw [← z]; exact hL161))).trans hf55
    have hL573 : sur4 ∈ S170.1 := by rw [hS172]; exact List.mem_append_left _ hL571
    have hf574 : S170.2 sur4 = .inr (8, [.ref sub4, .int (nI 0)]) := (hfr173 sur4 hL571 (fun z : sur4 = mm => hq_mm (by rw [← z]; exact hL161))).trans hf572
    have hL575 : sur4 ∈ S189.1 := by rw [hS189]; exact List.mem_append_left _ hL573
    have hf576 : S189.2 sur4 = .inr (8, [.ref sub4, .int (nI 0)]) := by rw [hS189]; exact (pnew_n (fun z : sur4 = jo => hq_jo (by rw [← z]; exact hL573))).trans hf574
    have hL577 : sur4 ∈ S192.1 := by rw [hS192]; exact List.mem_append_left _ hL575
    have hf578 : S192.2 sur4 = .inr (8, [.ref sub4, .int (nI 0)]) := by rw [hS192]; exact (pnew_n (fun z : sur4 = dd => hq_dd (by rw [← z]; exact hL575))).trans hf576
    have hL579 : sub4 ∈ S167.1 := by rw [hS167]; exact List.mem_append_left _ hL162
    have hf580 : S167.2 sub4 = aN (cy 0) 320 (fun _ => 0) := by rw [hS167]; exact (pnew_n (fun z : sub4 = mm => hq_mm (by rw [← z]; exact hL162))).trans hf56
    have hL581 : sub4 ∈ S170.1 := by rw [hS172]; exact List.mem_append_left _ hL579
    have hf582 : S170.2 sub4 = aN (cy 0) 320 (fun _ => 0) := (hfr173 sub4 hL579 (fun z : sub4 = mm => hq_mm (by rw [← z]; exact hL162))).trans hf580
    have hL583 : sub4 ∈ S189.1 := by rw [hS189]; exact List.mem_append_left _ hL581
    have hf584 : S189.2 sub4 = aN (cy 0) 320 (fun _ => 0) := by rw [hS189]; exact (pnew_n (fun z : sub4 = jo => hq_jo (by rw [← z]; exact hL581))).trans hf582
    have hL585 : sub4 ∈ S192.1 := by rw [hS192]; exact List.mem_append_left _ hL583
    have hf586 : S192.2 sub4 = aN (cy 0) 320 (fun _ => 0) := by rw [hS192]; exact (pnew_n (fun z : sub4 = dd => hq_dd (by rw [← z]; exact hL583))).trans hf584
    have hL587 : lt ∈ S167.1 := by rw [hS167]; exact List.mem_append_left _ hL163
    have hf588 : S167.2 lt = .inr (4, [.ref lf, .ref lx, .ref lw]) := by rw [hS167]; exact (pnew_n (fun z : lt = mm => hq_mm (by rw [← z]; exact hL163))).trans hf57
    have hL589 : lt ∈ S170.1 := by rw [hS172]; exact List.mem_append_left _ hL587
    have hf590 : S170.2 lt = .inr (4, [.ref lf, .ref lx, .ref lw]) := (hfr173 lt hL587 (fun z : lt = mm => hq_mm (by rw [← z]; exact hL163))).trans hf588
    have hL591 : lt ∈ S189.1 := by rw [hS189]; exact List.mem_append_left _ hL589
    have hf592 : S189.2 lt = .inr (4, [.ref lf, .ref lx, .ref lw]) := by rw [hS189]; exact (pnew_n (fun z : lt = jo => hq_jo (by rw [← z]; exact hL589))).trans hf590
    have hL593 : lt ∈ S192.1 := by rw [hS192]; exact List.mem_append_left _ hL591
    have hf594 : S192.2 lt = .inr (4, [.ref lf, .ref lx, .ref lw]) := by rw [hS192]; exact (pnew_n (fun z : lt = dd => hq_dd (by rw [← z]; exact hL591))).trans hf592
    have hL595 : lf ∈ S167.1 := by rw [hS167]; exact List.mem_append_left _ hL164
    have hf596 : S167.2 lf = aN (cy 0) 16 (fun _ => 0) := by rw [hS167]; exact (pnew_n (fun z : lf = mm => hq_mm (by rw [← z]; exact hL164))).trans hf58
    have hL597 : lf ∈ S170.1 := by rw [hS172]; exact List.mem_append_left _ hL595
    have hf598 : S170.2 lf = aN (cy 0) 16 (fun _ => 0) := (hfr173 lf hL595 (fun z : lf = mm => hq_mm (by rw [← z]; exact hL164))).trans hf596
    have hL599 : lf ∈ S189.1 := by rw [hS189]; exact List.mem_append_left _ hL597
    have hf600 : S189.2 lf = aN (cy 0) 16 (fun _ => 0) := by rw [hS189]; exact (pnew_n (fun z : lf = jo => hq_jo (by rw [← z]; exact hL597))).trans hf598
    have hL601 : lf ∈ S192.1 := by rw [hS192]; exact List.mem_append_left _ hL599
    have hf602 : S192.2 lf = aN (cy 0) 16 (fun _ => 0) := by rw [hS192]; exact (pnew_n (fun z : lf = dd => hq_dd (by rw [← z]; exact hL599))).trans hf600
    have hL603 : lx ∈ S167.1 := by rw [hS167]; exact List.mem_append_left _ hL165
    have hf604 : S167.2 lx = aN (cy 0) 16 (fun _ => 0) := by rw [hS167]; exact (pnew_n (fun z : lx = mm => hq_mm (by rw [← z]; exact hL165))).trans hf59
    have hL605 : lx ∈ S170.1 := by rw [hS172]; exact List.mem_append_left _ hL603
    have hf606 : S170.2 lx = aN (cy 0) 16 (fun _ => 0) := (hfr173 lx hL603 (fun z : lx = mm => hq_mm (by rw [← z]; exact hL165))).trans hf604
    have hL607 : lx ∈ S189.1 := by rw [hS189]; exact List.mem_append_left _ hL605
    have hf608 : S189.2 lx = aN (cy 0) 16 (fun _ => 0) := by rw [hS189]; exact (pnew_n (fun z : lx = jo => hq_jo (by rw [← z]; exact hL605))).trans hf606
    have hL609 : lx ∈ S192.1 := by rw [hS192]; exact List.mem_append_left _ hL607
    have hf610 : S192.2 lx = aN (cy 0) 16 (fun _ => 0) := by rw [hS192]; exact (pnew_n (fun z : lx = dd => hq_dd (by rw [← z]; exact hL607))).trans hf608
    have hL611 : lw ∈ S167.1 := by rw [hS167]; exact List.mem_append_left _ hL166
    have hf612 : S167.2 lw = aN (cy 0) 320 (fun _ => 0) := by rw [hS167]; exact (pnew_n (fun z : lw = mm => hq_mm (by rw [← z]; exact hL166))).trans hf60
    have hL613 : lw ∈ S170.1 := by rw [hS172]; exact List.mem_append_left _ hL611
    have hf614 : S170.2 lw = aN (cy 0) 320 (fun _ => 0) := (hfr173 lw hL611 (fun z : lw = mm => hq_mm (by rw [← z]; exact hL166))).trans hf612
    have hL615 : lw ∈ S189.1 := by rw [hS189]; exact List.mem_append_left _ hL613
    have hf616 : S189.2 lw = aN (cy 0) 320 (fun _ => 0) := by rw [hS189]; exact (pnew_n (fun z : lw = jo => hq_jo (by rw [← z]; exact hL613))).trans hf614
    have hL617 : lw ∈ S192.1 := by rw [hS192]; exact List.mem_append_left _ hL615
    have hf618 : S192.2 lw = aN (cy 0) 320 (fun _ => 0) := by rw [hS192]; exact (pnew_n (fun z : lw = dd => hq_dd (by rw [← z]; exact hL615))).trans hf616
    have hL619 : mm ∈ S189.1 := by rw [hS189]; exact List.mem_append_left _ hL184
    have hf620 : S189.2 mm = .inr (13, [.int (nI 0), .ref me, .ref sg, .ref cn, .ref im]) := by rw [hS189]; exact (pnew_n (fun z : mm = jo => hq_jo (by rw [← z]; exact hL184))).trans hf174
    have hL621 : mm ∈ S192.1 := by rw [hS192]; exact List.mem_append_left _ hL619
    have hf622 : S192.2 mm = .inr (13, [.int (nI 0), .ref me, .ref sg, .ref cn, .ref im]) := by rw [hS192]; exact (pnew_n (fun z : mm = dd => hq_dd (by rw [← z]; exact hL619))).trans hf620
    have hL623 : me ∈ S189.1 := by rw [hS189]; exact List.mem_append_left _ hL185
    have hf624 : S189.2 me = .inl (cy 0, 0, .inl (fun _ => 0)) := by rw [hS189]; exact (pnew_n (fun z : me = jo => hq_jo (by rw [← z]; exact hL185))).trans hf175
    have hL625 : me ∈ S192.1 := by rw [hS192]; exact List.mem_append_left _ hL623
    have hf626 : S192.2 me = .inl (cy 0, 0, .inl (fun _ => 0)) := by rw [hS192]; exact (pnew_n (fun z : me = dd => hq_dd (by rw [← z]; exact hL623))).trans hf624
    have hL627 : sg ∈ S189.1 := by rw [hS189]; exact List.mem_append_left _ hL186
    have hf628 : S189.2 sg = .inr (0, [.int (nI 0), .ref ed, .int (nI 0)]) := by rw [hS189]; exact (pnew_n (fun z : sg = jo => hq_jo (by rw [← z]; exact hL186))).trans hf176
    have hL629 : sg ∈ S192.1 := by rw [hS192]; exact List.mem_append_left _ hL627
    have hf630 : S192.2 sg = .inr (0, [.int (nI 0), .ref ed, .int (nI 0)]) := by rw [hS192]; exact (pnew_n (fun z : sg = dd => hq_dd (by rw [← z]; exact hL627))).trans hf628
    have hL631 : cn ∈ S189.1 := by rw [hS189]; exact List.mem_append_left _ hL187
    have hf632 : S189.2 cn = .inl (cy 0, 4, .inl (upd (upd (upd (upd (fun _ => 0) 0 (nI 0)) 1 (nI 0)) 2 (nI 0)) 3 (nI 1))) := by rw [hS189]; exact (pnew_n (fun z : cn = jo => hq_jo (by rw [← z]; exact hL187))).trans hf177
    have hL633 : cn ∈ S192.1 := by rw [hS192]; exact List.mem_append_left _ hL631
    have hf634 : S192.2 cn = .inl (cy 0, 4, .inl (upd (upd (upd (upd (fun _ => 0) 0 (nI 0)) 1 (nI 0)) 2 (nI 0)) 3 (nI 1))) := by rw [hS192]; exact (pnew_n (fun z : cn = dd => hq_dd (by rw [← z]; exact hL631))).trans hf632
    have hL635 : im ∈ S189.1 := by rw [hS189]; exact List.mem_append_left _ hL188
    have hf636 : S189.2 im = .inl (cy 1, 320, .inl (fun _ => 0)) := by rw [hS189]; exact (pnew_n (fun z : im = jo => hq_jo (by rw [← z]; exact hL188))).trans hf178
    have hL637 : im ∈ S192.1 := by rw [hS192]; exact List.mem_append_left _ hL635
    have hf638 : S192.2 im = .inl (cy 1, 320, .inl (fun _ => 0)) := by rw [hS192]; exact (pnew_n (fun z : im = dd => hq_dd (by rw [← z]; exact hL635))).trans hf636
    have hL639 : jo ∈ S192.1 := by rw [hS192]; exact List.mem_append_left _ hL190
    have hf640 : S192.2 jo = .inl (cy 6, 1, .inr (.inl (fun _ => 0))) := by rw [hS192]; exact (pnew_n (fun z : jo = dd => hq_dd (by rw [← z]; exact hL190))).trans hf191
    by_cases hsw : ((xs (nI 0).toNatClampNeg) &&& (nI 31)).toInt < 0 ∨ 25 < ((xs (nI 0).toNatClampNeg) &&& (nI 31)).toInt
    · refine lv_tableOut (tgt := 1501) hx hb dL_law_45 hsw (by decide) ?_
      exact W.widen (k := 600002) (n := 7302232) (Nat.le_of_ble_eq_true rfl) (Nat.le_of_ble_eq_true rfl) (law_tail hx hb hXs hbl hbA hw (lv_sub hl [0, 5] rfl) kk)
    obtain ⟨wN, hwN, hwe⟩ : ∃ n : Nat, n < 26 ∧ ((xs (nI 0).toNatClampNeg) &&& (nI 31)).toInt = (n : Int) := ⟨((xs (nI 0).toNatClampNeg) &&& (nI 31)).toInt.toNat, by omega, by omega⟩
    rcases (show wN = 0 ∨ wN = 1 ∨ wN = 2 ∨ wN = 3 ∨ wN = 4 ∨ wN = 5 ∨ wN = 6 ∨ wN = 7 ∨ wN = 8 ∨ wN = 9 ∨ wN = 10 ∨ wN = 11 ∨ wN = 12 ∨ wN = 13 ∨ wN = 14 ∨ wN = 15 ∨ wN = 16 ∨ wN = 17 ∨ wN = 18 ∨ wN = 19 ∨ wN = 20 ∨ wN = 21 ∨ wN = 22 ∨ wN = 23 ∨ wN = 24 ∨ wN = 25 by omega) with rfl | rfl | rfl | rfl | rfl | rfl | rfl | rfl | rfl | rfl | rfl | rfl | rfl | rfl | rfl | rfl | rfl | rfl | rfl | rfl | rfl | rfl | rfl | rfl | rfl | rfl
    · skip
      refine lv_tableIn (tgt := 164) (off := 119) hx hb dL_law_45 (by rw [hwe]; decide) (by rw [hwe]; decide) (by rw [hwe]; rfl) (by decide) ?_
      exact e_law_164 l hflags D cy ed C hE hA hXs hbl hbA S192 H locs ls x mm jo dd ch ln sl mk co ca su lt lk mb col con cor0 cor1 cor2 cor3 cor4 cob0 cal can car0 car1 car2 car3 car4 cab0 me sg cn im hL201 hf202 hL209 hf210 hL225 hf226 hL241 hf242 hL249 hf250 hL257 hf258 hL265 hf266 hL289 hf290 hL297 hf298 hL369 hf370 hL377 hf378 hL401 hf402 hL409 hf410 hL621 hf622 hL625 hf626 hL629 hf630 hL639 hf640 (nd_ne hnd61 4 10 rfl rfl (by decide)) (nd_ne hnd61 5 11 rfl rfl (by decide)) (Ne.symm (nd_ne hnd61 10 24 rfl rfl (by decide))) (Ne.symm (nd_ne hnd61 11 25 rfl rfl (by decide))) (nd_ne hnd61 4 24 rfl rfl (by decide)) (nd_ne hnd61 5 25 rfl rfl (by decide)) (fun z : jo = cob0 => hq_jo (by rw [z]; exact hL293)) (fun z : jo = cab0 => hq_jo (by rw [z]; exact hL405)) (fun z : me = cob0 => hq180 (by rw [z]; exact hL291)) (fun z : me = cab0 => hq180 (by rw [z]; exact hL403)) (fun z : me = jo => hq_jo (by rw [← z]; exact hL185)) hw (lv_sub hl [0, 1, 2, 3, 4, 5] rfl) (fun S2 H2 locs2 ls2 hw2 hl2 => law_tail hx hb hXs hbl hbA hw2 hl2 kk)
    · skip
      refine lv_tableIn (tgt := 232) (off := 187) hx hb dL_law_45 (by rw [hwe]; decide) (by rw [hwe]; decide) (by rw [hwe]; rfl) (by decide) ?_
      exact e_law_232 l hflags D cy ed C hE hA hXs hbl hbA S192 H locs ls x mm jo dd ch ln sl mk co ca su lt lk mb col con cor0 cor1 cor2 cor3 cor4 cob0 cal can car0 car1 car2 car3 car4 cab0 me sg cn im hL201 hf202 hL209 hf210 hL225 hf226 hL241 hf242 hL249 hf250 hL257 hf258 hL265 hf266 hL289 hf290 hL297 hf298 hL369 hf370 hL377 hf378 hL401 hf402 hL409 hf410 hL621 hf622 hL625 hf626 (nd_ne hnd61 11 25 rfl rfl (by decide)) (nd_ne hnd61 10 24 rfl rfl (by decide)) (nd_ne hnd61 4 24 rfl rfl (by decide)) (nd_ne hnd61 5 25 rfl rfl (by decide)) (fun z : me = cab0 => hq180 (by rw [z]; exact hL403)) hw (lv_sub hl [0, 1, 2, 3, 4, 5] rfl) (fun S2 H2 locs2 ls2 hw2 hl2 => law_tail hx hb hXs hbl hbA hw2 hl2 kk)
    · skip
      refine lv_tableIn (tgt := 245) (off := 200) hx hb dL_law_45 (by rw [hwe]; decide) (by rw [hwe]; decide) (by rw [hwe]; rfl) (by decide) ?_
      exact e_law_245 l hflags D cy ed C hE hA hXs hbl hbA S192 H locs ls x mm jo dd ch ln sl mk co ca su lt lk mb col con cor0 cor1 cor2 cor3 cor4 cob0 cob1 cal can car0 car1 car2 car3 car4 cab0 cab1 me sg cn im hL201 hf202 hL209 hf210 hL217 hf218 hL225 hf226 hL241 hf242 hL249 hf250 hL257 hf258 hL265 hf266 hL289 hf290 hL305 hf306 hL313 hf314 hL369 hf370 hL377 hf378 hL401 hf402 hL409 hf410 hL417 hf418 hL425 hf426 hL621 hf622 hL625 hf626 hL629 hf630 hL639 hf640 (Ne.symm (nd_ne hnd61 1 7 rfl rfl (by decide))) (Ne.symm (nd_ne hnd61 1 21 rfl rfl (by decide))) (nd_ne hnd61 10 12 rfl rfl (by decide)) (nd_ne hnd61 4 12 rfl rfl (by decide)) (Ne.symm (nd_ne hnd61 12 26 rfl rfl (by decide))) (nd_ne hnd61 13 27 rfl rfl (by decide)) (nd_ne hnd61 4 26 rfl rfl (by decide)) (nd_ne hnd61 5 27 rfl rfl (by decide)) (nd_ne hnd61 10 26 rfl rfl (by decide)) (Ne.symm (nd_ne hnd61 12 24 rfl rfl (by decide))) (nd_ne hnd61 24 26 rfl rfl (by decide)) (nd_ne hnd61 25 27 rfl rfl (by decide)) (fun z : jo = lk => hq_jo (by rw [z]; exact hL213)) (fun z : jo = cab1 => hq_jo (by rw [z]; exact hL421)) (fun z : me = lk => hq180 (by rw [z]; exact hL211)) (fun z : me = cab1 => hq180 (by rw [z]; exact hL419)) (fun z : me = jo => hq_jo (by rw [← z]; exact hL185)) hw (lv_sub hl [0, 1, 2, 3, 4, 5] rfl) (fun S2 H2 locs2 ls2 hw2 hl2 => law_tail hx hb hXs hbl hbA hw2 hl2 kk)
    · skip
      refine lv_tableIn (tgt := 301) (off := 256) hx hb dL_law_45 (by rw [hwe]; decide) (by rw [hwe]; decide) (by rw [hwe]; rfl) (by decide) ?_
      exact e_law_301 l hflags D cy ed C hE hA hXs hbl hbA S192 H locs ls x mm jo dd ch ln sl mk co ca su lt lk mb col con cor0 cor1 cor2 cor3 cor4 cob0 cob1 cal can car0 car1 car2 car3 car4 cab0 cab1 me sg cn im hL201 hf202 hL209 hf210 hL217 hf218 hL225 hf226 hL241 hf242 hL249 hf250 hL257 hf258 hL265 hf266 hL289 hf290 hL305 hf306 hL313 hf314 hL369 hf370 hL377 hf378 hL401 hf402 hL409 hf410 hL417 hf418 hL425 hf426 hL621 hf622 hL625 hf626 hL629 hf630 hL639 hf640 (Ne.symm (nd_ne hnd61 1 7 rfl rfl (by decide))) (Ne.symm (nd_ne hnd61 1 21 rfl rfl (by decide))) (nd_ne hnd61 10 12 rfl rfl (by decide)) (nd_ne hnd61 4 12 rfl rfl (by decide)) (Ne.symm (nd_ne hnd61 12 26 rfl rfl (by decide))) (nd_ne hnd61 13 27 rfl rfl (by decide)) (nd_ne hnd61 4 26 rfl rfl (by decide)) (nd_ne hnd61 5 27 rfl rfl (by decide)) (nd_ne hnd61 10 26 rfl rfl (by decide)) (Ne.symm (nd_ne hnd61 12 24 rfl rfl (by decide))) (nd_ne hnd61 24 26 rfl rfl (by decide)) (nd_ne hnd61 25 27 rfl rfl (by decide)) (fun z : jo = lk => hq_jo (by rw [z]; exact hL213)) (fun z : jo = cab1 => hq_jo (by rw [z]; exact hL421)) (fun z : me = lk => hq180 (by rw [z]; exact hL211)) (fun z : me = cab1 => hq180 (by rw [z]; exact hL419)) (fun z : me = jo => hq_jo (by rw [← z]; exact hL185)) hw (lv_sub hl [0, 1, 2, 3, 4, 5] rfl) (fun S2 H2 locs2 ls2 hw2 hl2 => law_tail hx hb hXs hbl hbA hw2 hl2 kk)
    · skip
      refine lv_tableIn (tgt := 419) (off := 374) hx hb dL_law_45 (by rw [hwe]; decide) (by rw [hwe]; decide) (by rw [hwe]; rfl) (by decide) ?_
      exact e_law_419 l hflags D cy ed C hE hA hXs hbl hbA S192 H locs ls x mm jo dd ch ln sl mk co ca su lt lk mb col con cor0 cor1 cor2 cor3 cor4 cob0 cob1 cal can car0 car1 car2 car3 car4 cab0 cab1 me sg cn im hL201 hf202 hL209 hf210 hL217 hf218 hL225 hf226 hL241 hf242 hL249 hf250 hL257 hf258 hL265 hf266 hL289 hf290 hL305 hf306 hL313 hf314 hL369 hf370 hL377 hf378 hL401 hf402 hL409 hf410 hL417 hf418 hL425 hf426 hL621 hf622 hL625 hf626 hL629 hf630 hL639 hf640 (Ne.symm (nd_ne hnd61 1 7 rfl rfl (by decide))) (Ne.symm (nd_ne hnd61 1 21 rfl rfl (by decide))) (nd_ne hnd61 10 12 rfl rfl (by decide)) (nd_ne hnd61 4 12 rfl rfl (by decide)) (Ne.symm (nd_ne hnd61 12 26 rfl rfl (by decide))) (nd_ne hnd61 13 27 rfl rfl (by decide)) (nd_ne hnd61 4 26 rfl rfl (by decide)) (nd_ne hnd61 5 27 rfl rfl (by decide)) (nd_ne hnd61 10 26 rfl rfl (by decide)) (Ne.symm (nd_ne hnd61 12 24 rfl rfl (by decide))) (nd_ne hnd61 24 26 rfl rfl (by decide)) (nd_ne hnd61 25 27 rfl rfl (by decide)) (fun z : jo = lk => hq_jo (by rw [z]; exact hL213)) (fun z : jo = cab1 => hq_jo (by rw [z]; exact hL421)) (fun z : me = lk => hq180 (by rw [z]; exact hL211)) (fun z : me = cab1 => hq180 (by rw [z]; exact hL419)) (fun z : me = jo => hq_jo (by rw [← z]; exact hL185)) hw (lv_sub hl [0, 1, 2, 3, 4, 5] rfl) (fun S2 H2 locs2 ls2 hw2 hl2 => law_tail hx hb hXs hbl hbA hw2 hl2 kk)
    · skip
      refine lv_tableIn (tgt := 487) (off := 442) hx hb dL_law_45 (by rw [hwe]; decide) (by rw [hwe]; decide) (by rw [hwe]; rfl) (by decide) ?_
      exact e_law_487 l hflags D cy ed C hE hA hXs hbl hbA S192 H locs ls x mm jo dd ch ln sl mk co ca su lt lk mb col con cor0 cor1 cor2 cor3 cor4 cob0 cob1 cal can car0 car1 car2 car3 car4 cab0 cab1 lf lx lw me sg cn im hL201 hf202 hL209 hf210 hL217 hf218 hL225 hf226 hL241 hf242 hL249 hf250 hL257 hf258 hL265 hf266 hL289 hf290 hL305 hf306 hL313 hf314 hL369 hf370 hL377 hf378 hL401 hf402 hL409 hf410 hL417 hf418 hL425 hf426 hL593 hf594 hL601 hf602 hL621 hf622 hL625 hf626 hL629 hf630 hL639 hf640 (Ne.symm (nd_ne hnd61 1 7 rfl rfl (by decide))) (Ne.symm (nd_ne hnd61 1 21 rfl rfl (by decide))) (nd_ne hnd61 10 12 rfl rfl (by decide)) (nd_ne hnd61 4 12 rfl rfl (by decide)) (Ne.symm (nd_ne hnd61 12 26 rfl rfl (by decide))) (nd_ne hnd61 13 27 rfl rfl (by decide)) (nd_ne hnd61 4 26 rfl rfl (by decide)) (nd_ne hnd61 5 27 rfl rfl (by decide)) (Ne.symm (nd_ne hnd61 27 49 rfl rfl (by decide))) (nd_ne hnd61 10 26 rfl rfl (by decide)) (Ne.symm (nd_ne hnd61 12 24 rfl rfl (by decide))) (nd_ne hnd61 24 26 rfl rfl (by decide)) (nd_ne hnd61 25 27 rfl rfl (by decide)) (fun z : jo = lk => hq_jo (by rw [z]; exact hL213)) (fun z : jo = cab1 => hq_jo (by rw [z]; exact hL421)) (fun z : jo = lf => hq_jo (by rw [z]; exact hL597)) (fun z : me = lk => hq180 (by rw [z]; exact hL211)) (fun z : me = cab1 => hq180 (by rw [z]; exact hL419)) (fun z : me = lf => hq180 (by rw [z]; exact hL595)) (fun z : me = jo => hq_jo (by rw [← z]; exact hL185)) hw (lv_sub hl [0, 1, 2, 3, 4, 5] rfl) (fun S2 H2 locs2 ls2 hw2 hl2 => law_tail hx hb hXs hbl hbA hw2 hl2 kk)
    · skip
      refine lv_tableIn (tgt := 579) (off := 534) hx hb dL_law_45 (by rw [hwe]; decide) (by rw [hwe]; decide) (by rw [hwe]; rfl) (by decide) ?_
      exact e_law_579 l hflags D cy ed C hE hA hXs hbl hbA S192 H locs ls x mm jo dd ch ln sl mk co ca su lt lk mb col con cor0 cor1 cor2 cor3 cor4 cob0 cob1 cal can car0 car1 car2 car3 car4 cab0 cab1 me sg cn im hL201 hf202 hL209 hf210 hL217 hf218 hL225 hf226 hL241 hf242 hL249 hf250 hL257 hf258 hL265 hf266 hL289 hf290 hL305 hf306 hL313 hf314 hL369 hf370 hL377 hf378 hL401 hf402 hL409 hf410 hL417 hf418 hL425 hf426 hL621 hf622 hL625 hf626 hL629 hf630 hL639 hf640 (Ne.symm (nd_ne hnd61 1 7 rfl rfl (by decide))) (Ne.symm (nd_ne hnd61 1 21 rfl rfl (by decide))) (nd_ne hnd61 4 12 rfl rfl (by decide)) (Ne.symm (nd_ne hnd61 12 26 rfl rfl (by decide))) (nd_ne hnd61 13 27 rfl rfl (by decide)) (nd_ne hnd61 4 26 rfl rfl (by decide)) (nd_ne hnd61 5 27 rfl rfl (by decide)) (nd_ne hnd61 10 12 rfl rfl (by decide)) (nd_ne hnd61 10 26 rfl rfl (by decide)) (Ne.symm (nd_ne hnd61 12 24 rfl rfl (by decide))) (nd_ne hnd61 24 26 rfl rfl (by decide)) (nd_ne hnd61 25 27 rfl rfl (by decide)) (fun z : jo = lk => hq_jo (by rw [z]; exact hL213)) (fun z : jo = cab1 => hq_jo (by rw [z]; exact hL421)) (fun z : me = lk => hq180 (by rw [z]; exact hL211)) (fun z : me = cab1 => hq180 (by rw [z]; exact hL419)) (fun z : me = jo => hq_jo (by rw [← z]; exact hL185)) hw (lv_sub hl [0, 1, 2, 3, 4, 5] rfl) (fun S2 H2 locs2 ls2 hw2 hl2 => law_tail hx hb hXs hbl hbA hw2 hl2 kk)
    · skip
      refine lv_tableIn (tgt := 647) (off := 602) hx hb dL_law_45 (by rw [hwe]; decide) (by rw [hwe]; decide) (by rw [hwe]; rfl) (by decide) ?_
      exact e_law_647 l hflags D cy ed C hE hA hXs hbl hbA S192 H locs ls x mm jo dd ch ln sl mk co ca su lt lk me sg cn im hL201 hf202 hL209 hf210 hL621 hf622 hL629 hf630  hw (lv_sub hl [0, 1, 2, 3, 4, 5] rfl) (fun S2 H2 locs2 ls2 hw2 hl2 => law_tail hx hb hXs hbl hbA hw2 hl2 kk)
    · skip
      refine lv_tableIn (tgt := 691) (off := 646) hx hb dL_law_45 (by rw [hwe]; decide) (by rw [hwe]; decide) (by rw [hwe]; rfl) (by decide) ?_
      exact e_law_691 l hflags D cy ed C hE hA hXs hbl hbA S192 H locs ls x mm jo dd ch ln sl mk co ca su lt lk mb col con cor0 cor1 cor2 cor3 cor4 cob0 cal can car0 car1 car2 car3 car4 cab0 me sg cn im hL201 hf202 hL209 hf210 hL225 hf226 hL241 hf242 hL249 hf250 hL257 hf258 hL265 hf266 hL289 hf290 hL297 hf298 hL369 hf370 hL377 hf378 hL401 hf402 hL409 hf410 hL621 hf622 hL633 hf634 hL639 hf640 (nd_ne hnd61 11 25 rfl rfl (by decide)) (nd_ne hnd61 10 24 rfl rfl (by decide)) (nd_ne hnd61 4 24 rfl rfl (by decide)) (nd_ne hnd61 5 25 rfl rfl (by decide)) (fun z : jo = cab0 => hq_jo (by rw [z]; exact hL405)) (fun z : cn = cab0 => hq182 (by rw [z]; exact hL403)) (fun z : cn = jo => hq_jo (by rw [← z]; exact hL187)) hw (lv_sub hl [0, 1, 2, 3, 4, 5] rfl) (fun S2 H2 locs2 ls2 hw2 hl2 => law_tail hx hb hXs hbl hbA hw2 hl2 kk)
    · skip
      refine lv_tableIn (tgt := 783) (off := 738) hx hb dL_law_45 (by rw [hwe]; decide) (by rw [hwe]; decide) (by rw [hwe]; rfl) (by decide) ?_
      exact e_law_783 l hflags D cy ed C hE hA hXs hbl hbA S192 H locs ls x mm jo dd ch ln sl mk co ca su lt lk mb col con cor0 cor1 cor2 cor3 cor4 cob0 cal can car0 car1 car2 car3 car4 cab0 me sg cn im hL201 hf202 hL209 hf210 hL225 hf226 hL241 hf242 hL249 hf250 hL257 hf258 hL265 hf266 hL289 hf290 hL297 hf298 hL369 hf370 hL377 hf378 hL401 hf402 hL409 hf410 hL621 hf622 hL637 hf638 hL639 hf640 (Ne.symm (nd_ne hnd61 5 11 rfl rfl (by decide))) (Ne.symm (nd_ne hnd61 5 25 rfl rfl (by decide))) (nd_ne hnd61 11 25 rfl rfl (by decide)) (nd_ne hnd61 10 24 rfl rfl (by decide)) (nd_ne hnd61 4 24 rfl rfl (by decide)) (fun z : jo = mb => hq_jo (by rw [z]; exact hL245)) (fun z : jo = cab0 => hq_jo (by rw [z]; exact hL405)) (fun z : im = mb => hq183 (by rw [z]; exact hL243)) (fun z : im = cab0 => hq183 (by rw [z]; exact hL403)) (fun z : im = jo => hq_jo (by rw [← z]; exact hL188)) hw (lv_sub hl [0, 1, 2, 3, 4, 5] rfl) (fun S2 H2 locs2 ls2 hw2 hl2 => law_tail hx hb hXs hbl hbA hw2 hl2 kk)
    · skip
      refine lv_tableIn (tgt := 839) (off := 794) hx hb dL_law_45 (by rw [hwe]; decide) (by rw [hwe]; decide) (by rw [hwe]; rfl) (by decide) ?_
      exact e_law_839 l hflags D cy ed C hE hA hXs hbl hbA S192 H locs ls x mm jo dd ch ln sl mk co ca su lt col con cor0 cor1 cor2 cor3 cor4 cob0 me sg cn im hL201 hf202 hL257 hf258 hL265 hf266 hL289 hf290 hL621 hf622 hL625 hf626  hw (lv_sub hl [0, 1, 2, 3, 4, 5] rfl) (fun S2 H2 locs2 ls2 hw2 hl2 => law_tail hx hb hXs hbl hbA hw2 hl2 kk)
    · skip
      refine lv_tableIn (tgt := 852) (off := 807) hx hb dL_law_45 (by rw [hwe]; decide) (by rw [hwe]; decide) (by rw [hwe]; rfl) (by decide) ?_
      exact e_law_852 l hflags D cy ed C hE hA hXs hbl hbA S192 H locs ls x mm jo dd ch ln sl mk co ca su lt lk me sg cn im hL201 hf202 hL209 hf210 hL621 hf622 hL629 hf630  hw (lv_sub hl [0, 1, 2, 3, 4, 5] rfl) (fun S2 H2 locs2 ls2 hw2 hl2 => law_tail hx hb hXs hbl hbA hw2 hl2 kk)
    · skip
      refine lv_tableIn (tgt := 865) (off := 820) hx hb dL_law_45 (by rw [hwe]; decide) (by rw [hwe]; decide) (by rw [hwe]; rfl) (by decide) ?_
      exact e_law_865 l hflags D cy ed C hE hA hXs hbl hbA S192 H locs ls x mm jo dd ch ln sl mk co ca su lt lk me sg cn im hL201 hf202 hL209 hf210 hL621 hf622 hL629 hf630  hw (lv_sub hl [0, 1, 2, 3, 4, 5] rfl) (fun S2 H2 locs2 ls2 hw2 hl2 => law_tail hx hb hXs hbl hbA hw2 hl2 kk)
    · skip
      refine lv_tableIn (tgt := 933) (off := 888) hx hb dL_law_45 (by rw [hwe]; decide) (by rw [hwe]; decide) (by rw [hwe]; rfl) (by decide) ?_
      exact e_law_933 l hflags D cy ed C hE hA hXs hbl hbA S192 H locs ls x mm jo dd ch ln sl mk co ca su lt lk col con cor0 cor1 cor2 cor3 cor4 cob0 me sg cn im hL201 hf202 hL209 hf210 hL257 hf258 hL265 hf266 hL289 hf290 hL621 hf622 hL625 hf626 hL629 hf630  hw (lv_sub hl [0, 1, 2, 3, 4, 5] rfl) (fun S2 H2 locs2 ls2 hw2 hl2 => law_tail hx hb hXs hbl hbA hw2 hl2 kk)
    · skip
      refine lv_tableIn (tgt := 946) (off := 901) hx hb dL_law_45 (by rw [hwe]; decide) (by rw [hwe]; decide) (by rw [hwe]; rfl) (by decide) ?_
      exact e_law_946 l hflags D cy ed C hE hA hXs hbl hbA S192 H locs ls x mm jo dd ch ln sl mk co ca su lt lk col con cor0 cor1 cor2 cor3 cor4 cob0 me sg cn im hL201 hf202 hL209 hf210 hL257 hf258 hL265 hf266 hL289 hf290 hL621 hf622 hL625 hf626 hL629 hf630  hw (lv_sub hl [0, 1, 2, 3, 4, 5] rfl) (fun S2 H2 locs2 ls2 hw2 hl2 => law_tail hx hb hXs hbl hbA hw2 hl2 kk)
    · skip
      refine lv_tableIn (tgt := 1014) (off := 969) hx hb dL_law_45 (by rw [hwe]; decide) (by rw [hwe]; decide) (by rw [hwe]; rfl) (by decide) ?_
      exact e_law_1014 l hflags D cy ed C hE hA hXs hbl hbA S192 H locs ls x mm jo dd ch ln sl mk co ca su lt col con cor0 cor1 cor2 cor3 cor4 cob0 me sg cn im hL201 hf202 hL257 hf258 hL265 hf266 hL289 hf290 hL621 hf622 hL625 hf626  hw (lv_sub hl [0, 1, 2, 3, 4, 5] rfl) (fun S2 H2 locs2 ls2 hw2 hl2 => law_tail hx hb hXs hbl hbA hw2 hl2 kk)
    · skip
      refine lv_tableIn (tgt := 1082) (off := 1037) hx hb dL_law_45 (by rw [hwe]; decide) (by rw [hwe]; decide) (by rw [hwe]; rfl) (by decide) ?_
      exact e_law_1082 l hflags D cy ed C hE hA hXs hbl hbA S192 H locs ls x mm jo dd ch ln sl mk co ca su lt lk col con cor0 cor1 cor2 cor3 cor4 cob0 cal can car0 car1 car2 car3 car4 me sg cn im hL201 hf202 hL209 hf210 hL257 hf258 hL265 hf266 hL289 hf290 hL369 hf370 hL377 hf378 hL621 hf622 hL625 hf626 hL629 hf630 hL633 hf634  hw (lv_sub hl [0, 1, 2, 3, 4, 5] rfl) (fun S2 H2 locs2 ls2 hw2 hl2 => law_tail hx hb hXs hbl hbA hw2 hl2 kk)
    · skip
      refine lv_tableIn (tgt := 1095) (off := 1050) hx hb dL_law_45 (by rw [hwe]; decide) (by rw [hwe]; decide) (by rw [hwe]; rfl) (by decide) ?_
      exact e_law_1095 l hflags D cy ed C hE hA hXs hbl hbA S192 H locs ls x mm jo dd ch ln sl mk co ca su lt col con cor0 cor1 cor2 cor3 cor4 cob0 cal can car0 car1 car2 car3 car4 me sg cn im hL201 hf202 hL257 hf258 hL265 hf266 hL289 hf290 hL369 hf370 hL377 hf378 hL621 hf622 hL625 hf626 hL629 hf630 hL633 hf634  hw (lv_sub hl [0, 1, 2, 3, 4, 5] rfl) (fun S2 H2 locs2 ls2 hw2 hl2 => law_tail hx hb hXs hbl hbA hw2 hl2 kk)
    · skip
      refine lv_tableIn (tgt := 1108) (off := 1063) hx hb dL_law_45 (by rw [hwe]; decide) (by rw [hwe]; decide) (by rw [hwe]; rfl) (by decide) ?_
      exact e_law_1108 l hflags D cy ed C hE hA hXs hbl hbA S192 H locs ls x mm jo dd ch ln sl mk co ca su lt lk me sg cn im hL201 hf202 hL209 hf210 hL621 hf622 hL629 hf630  hw (lv_sub hl [0, 1, 2, 3, 4, 5] rfl) (fun S2 H2 locs2 ls2 hw2 hl2 => law_tail hx hb hXs hbl hbA hw2 hl2 kk)
    · skip
      refine lv_tableIn (tgt := 1164) (off := 1119) hx hb dL_law_45 (by rw [hwe]; decide) (by rw [hwe]; decide) (by rw [hwe]; rfl) (by decide) ?_
      exact e_law_1164 l hflags D cy ed C hE hA hXs hbl hbA S192 H locs ls x mm jo dd ch ln sl mk co ca su lt lk me sg cn im hL201 hf202 hL209 hf210 hL621 hf622 hL629 hf630  hw (lv_sub hl [0, 1, 2, 3, 4, 5] rfl) (fun S2 H2 locs2 ls2 hw2 hl2 => law_tail hx hb hXs hbl hbA hw2 hl2 kk)
    · skip
      refine lv_tableIn (tgt := 1232) (off := 1187) hx hb dL_law_45 (by rw [hwe]; decide) (by rw [hwe]; decide) (by rw [hwe]; rfl) (by decide) ?_
      exact e_law_1232 l hflags D cy ed C hE hA hXs hbl hbA S192 H locs ls x mm jo dd ch ln sl mk co ca su lt lk col con cor0 cor1 cor2 cor3 cor4 cob0 me sg cn im hL201 hf202 hL209 hf210 hL257 hf258 hL265 hf266 hL289 hf290 hL621 hf622 hL625 hf626 hL629 hf630  hw (lv_sub hl [0, 1, 2, 3, 4, 5] rfl) (fun S2 H2 locs2 ls2 hw2 hl2 => law_tail hx hb hXs hbl hbA hw2 hl2 kk)
    · skip
      refine lv_tableIn (tgt := 1273) (off := 1228) hx hb dL_law_45 (by rw [hwe]; decide) (by rw [hwe]; decide) (by rw [hwe]; rfl) (by decide) ?_
      exact e_law_1273 l hflags D cy ed C hE hA hXs hbl hbA S192 H locs ls x mm jo dd ch ln sl mk co ca su lt lk col con cor0 cor1 cor2 cor3 cor4 cob0 me sg cn im hL201 hf202 hL209 hf210 hL257 hf258 hL265 hf266 hL289 hf290 hL621 hf622 hL625 hf626 hL629 hf630  hw (lv_sub hl [0, 1, 2, 3, 4, 5] rfl) (fun S2 H2 locs2 ls2 hw2 hl2 => law_tail hx hb hXs hbl hbA hw2 hl2 kk)
    · skip
      refine lv_tableIn (tgt := 1329) (off := 1284) hx hb dL_law_45 (by rw [hwe]; decide) (by rw [hwe]; decide) (by rw [hwe]; rfl) (by decide) ?_
      exact e_law_1329 l hflags D cy ed C hE hA hXs hbl hbA S192 H locs ls x mm jo dd ch ln sl mk co ca su lt lk col con cor0 cor1 cor2 cor3 cor4 cob0 cal can car0 car1 car2 car3 car4 me sg cn im hL201 hf202 hL209 hf210 hL257 hf258 hL265 hf266 hL289 hf290 hL369 hf370 hL377 hf378 hL621 hf622 hL625 hf626 hL629 hf630 hL633 hf634  hw (lv_sub hl [0, 1, 2, 3, 4, 5] rfl) (fun S2 H2 locs2 ls2 hw2 hl2 => law_tail hx hb hXs hbl hbA hw2 hl2 kk)
    · skip
      refine lv_tableIn (tgt := 1342) (off := 1297) hx hb dL_law_45 (by rw [hwe]; decide) (by rw [hwe]; decide) (by rw [hwe]; rfl) (by decide) ?_
      exact e_law_1342 l hflags D cy ed C hE hA hXs hbl hbA S192 H locs ls x mm jo dd ch ln sl mk co ca su lt lk col con cor0 cor1 cor2 cor3 cor4 cob0 sul sun sur0 sur1 sur2 sur3 sur4 sub0 me sg cn im hL201 hf202 hL209 hf210 hL257 hf258 hL265 hf266 hL289 hf290 hL297 hf298 hL481 hf482 hL489 hf490 hL513 hf514 hL521 hf522 hL621 hf622 hL625 hf626 hL629 hf630 hL639 hf640 (nd_ne hnd61 11 39 rfl rfl (by decide)) (nd_ne hnd61 10 38 rfl rfl (by decide)) (fun z : jo = sub0 => hq_jo (by rw [z]; exact hL517)) (fun z : me = sub0 => hq180 (by rw [z]; exact hL515)) (fun z : me = jo => hq_jo (by rw [← z]; exact hL185)) hw (lv_sub hl [0, 1, 2, 3, 4, 5] rfl) (fun S2 H2 locs2 ls2 hw2 hl2 => law_tail hx hb hXs hbl hbA hw2 hl2 kk)
    · skip
      refine lv_tableIn (tgt := 1398) (off := 1353) hx hb dL_law_45 (by rw [hwe]; decide) (by rw [hwe]; decide) (by rw [hwe]; rfl) (by decide) ?_
      exact e_law_1398 l hflags D cy ed C hE hA hXs hbl hbA S192 H locs ls x mm jo dd ch ln sl mk co ca su lt lk mb col con cor0 cor1 cor2 cor3 cor4 cob0 sul sun sur0 sur1 sur2 sur3 sur4 sub0 me sg cn im hL201 hf202 hL209 hf210 hL233 hf234 hL241 hf242 hL249 hf250 hL257 hf258 hL265 hf266 hL289 hf290 hL297 hf298 hL481 hf482 hL489 hf490 hL513 hf514 hL521 hf522 hL621 hf622 hL625 hf626 hL629 hf630 hL193 hf194 (nd_ne hnd61 4 38 rfl rfl (by decide)) (nd_ne hnd61 5 39 rfl rfl (by decide)) (nd_ne hnd61 10 38 rfl rfl (by decide)) (nd_ne hnd61 11 39 rfl rfl (by decide)) (fun z : dd = sub0 => hq_dd (by rw [z]; exact hL519)) (fun z : me = sub0 => hq180 (by rw [z]; exact hL515)) (fun z : me = dd => hq_dd (by rw [← z]; exact hL623)) hw (lv_sub hl [0, 1, 2, 3, 4, 5] rfl) (fun S2 H2 locs2 ls2 hw2 hl2 => law_tail hx hb hXs hbl hbA hw2 hl2 kk)
    · skip
      refine lv_tableIn (tgt := 1487) (off := 1442) hx hb dL_law_45 (by rw [hwe]; decide) (by rw [hwe]; decide) (by rw [hwe]; rfl) (by decide) ?_
      exact e_law_1487 l hflags D cy ed C hE hA hXs hbl hbA S192 H locs ls x mm jo dd ch ln sl mk co ca su lt lk col con cor0 cor1 cor2 cor3 cor4 cob0 cal can car0 car1 car2 car3 car4 sul sun sur0 sur1 sur2 sur3 sur4 sub0 me sg cn im hL201 hf202 hL209 hf210 hL257 hf258 hL265 hf266 hL289 hf290 hL297 hf298 hL369 hf370 hL377 hf378 hL481 hf482 hL489 hf490 hL513 hf514 hL521 hf522 hL621 hf622 hL625 hf626 hL629 hf630 hL633 hf634 (nd_ne hnd61 11 39 rfl rfl (by decide)) (nd_ne hnd61 10 38 rfl rfl (by decide)) (fun z : me = sub0 => hq180 (by rw [z]; exact hL515)) (fun z : cn = sub0 => hq182 (by rw [z]; exact hL515)) hw (lv_sub hl [0, 1, 2, 3, 4, 5] rfl) (fun S2 H2 locs2 ls2 hw2 hl2 => law_tail hx hb hXs hbl hbA hw2 hl2 kk)
