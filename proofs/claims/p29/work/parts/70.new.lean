
set_option maxHeartbeats 16000000 in
set_option maxRecDepth 100000 in
theorem law_new {p : Program} {e : Env} {s : State} {m : MethodId} {below : List Frame} {meth : Method} {c : Code} (l : Launch) (D : va_G) (cy : Nat → ClassId) (ed : Nat) {Q : State → Prop} {S : pS} {cw : Cond} (C : pC p s m #[Value.ref ed] c code 15 RL (cw :: lwU) D cy) (hE : eK (pA S s.heap.size) ed s s.heap) (hA : ∀ q, s.heap.size ≤ q → pA S s.heap.size q) (ls : Array Slot) (hw : pW D (pA S s.heap.size) s.heap S s.heap []) (hl : lv_has ls 15 [(0, .ref ed)]) (kk : ∀ (S' : pS) (G T : Nat → Nat) (H' : Heap) (locs' : List Loc) (ls' : Array Slot), Pic cy S' G T 0 (fun _ => (0, 0, 0, fun _ => 0)) (.inr (5, [.int (nI 0), .int (nI 0), .int (nI 0), .int (nI 0)])) (.inr (5, [.int (nI 0), .int (nI 0), .int (nI 0), .int (nI 0)])) (fun r => if r = 15 then 320 else 0, fun _ _ => 0) → pW D (pA S s.heap.size) s.heap S' H' locs' → lv_has ls' 15 [(0, .ref ed)] → W p l e room_1 s m #[Value.ref ed] below meth c H' locs' 53 4692 Q (F0 m 7 ls' [.ref (G 0)])) : W p l e room_1 s m #[Value.ref ed] below meth c s.heap [] 0 0 Q (F0 m 0 ls []) := by
  have hx := C.1
  have hb := C.2.1
  have hin_RX11 : ∀ w ∈ u_ws RX11 TX11 8, w ∈ cw :: lwU := fun w h => mU (sub_RX11 w h)
  refine p_new C hw hA (ci := 10) (Cn := RX11) (T := TX11) (N := 8) (fs := [.null, .null, .null, .null, .null, .null, .null, .null]) tyX11 tyX11_ok rfl hin_RX11 (mU mw_0) (mU mw_1) (mU mw_2) (fun j hj => by rcases (show j = 0 ∨ j = 1 ∨ j = 2 ∨ j = 3 ∨ j = 4 ∨ j = 5 ∨ j = 6 ∨ j = 7 by omega) with rfl | rfl | rfl | rfl | rfl | rfl | rfl | rfl <;> rfl) (Nat.le_of_ble_eq_true rfl) (Nat.le_of_ble_eq_true rfl) dL_law_0 (fun x H hq_x hw => ?_)
  obtain ⟨S1, hS1⟩ : ∃ z, z = pnew S x (.inr (10, [.null, .null, .null, .null, .null, .null, .null, .null])) := ⟨_, rfl⟩
  replace hw : pW D (pA S s.heap.size) s.heap S1 H [] := by rw [hS1]; exact hw
  have hL2 : x ∈ S1.1 := by rw [hS1]; exact List.mem_append_right _ List.mem_cons_self
  have hf3 : S1.2 x = .inr (10, [.null, .null, .null, .null, .null, .null, .null, .null]) := by rw [hS1]; exact pnew_s
  refine lv_dup hx hb dL_law_3 rfl ?_
  refine p_callv (va_runI (As := []) (rest := [.ref x]) C.fix (e_X11_init l D cy S1 H.size x hL2 hf3 ) (cwI 0 C.2.2.2.2.1 (gU_sub (subU mw_6)) rfl rfl rfl (C.2.2.2.2.1 (.initialized RX11) (mU mw_2)) (C.2.2.2.2.1 (.methodLink RL 90 yX11_init) (mU mw_4)) (C.2.2.2.2.1 (.instanceMethod yX11_init) (mU mw_5)) rfl (by decide +kernel) ⟨Nat.le_of_ble_eq_true rfl, Nat.le_of_ble_eq_true rfl⟩) (p_preS C hw) rfl rfl hl.1 rfl (lv_room (Nat.le_of_ble_eq_true rfl)) dL_law_4 ⟨(Nat.le_of_ble_eq_true rfl), (Nat.le_of_ble_eq_true rfl)⟩) hw hA (fun S4 H locs hpost hw => ?_)
  obtain ⟨ch, lk, ln, sl, mk, mb, co, col, con, com, cor0, cob0, cor1, cob1, cor2, cob2, cor3, cob3, cor4, cob4, ca, cal, can, cam, car0, cab0, car1, cab1, car2, cab2, car3, cab3, car4, cab4, su, sul, sun, sum, sur0, sub0, sur1, sub1, sur2, sub2, sur3, sub3, sur4, sub4, lt, lf, lx, lw, hS6, hfr7, hf8, hf9, hf10, hf11, hf12, hf13, hf14, hf15, hf16, hf17, hf18, hf19, hf20, hf21, hf22, hf23, hf24, hf25, hf26, hf27, hf28, hf29, hf30, hf31, hf32, hf33, hf34, hf35, hf36, hf37, hf38, hf39, hf40, hf41, hf42, hf43, hf44, hf45, hf46, hf47, hf48, hf49, hf50, hf51, hf52, hf53, hf54, hf55, hf56, hf57, hf58, hf59, hf60⟩ := hpost
  have hnd61 := p_apart hw hS6
  have hq62 : ch ∉ S1.1 := p_fresh hw hS6 0 rfl
  have hq63 : lk ∉ S1.1 := p_fresh hw hS6 1 rfl
  have hq64 : ln ∉ S1.1 := p_fresh hw hS6 2 rfl
  have hq65 : sl ∉ S1.1 := p_fresh hw hS6 3 rfl
  have hq66 : mk ∉ S1.1 := p_fresh hw hS6 4 rfl
  have hq67 : mb ∉ S1.1 := p_fresh hw hS6 5 rfl
  have hq68 : co ∉ S1.1 := p_fresh hw hS6 6 rfl
  have hq69 : col ∉ S1.1 := p_fresh hw hS6 7 rfl
  have hq70 : con ∉ S1.1 := p_fresh hw hS6 8 rfl
  have hq71 : com ∉ S1.1 := p_fresh hw hS6 9 rfl
  have hq72 : cor0 ∉ S1.1 := p_fresh hw hS6 10 rfl
  have hq73 : cob0 ∉ S1.1 := p_fresh hw hS6 11 rfl
  have hq74 : cor1 ∉ S1.1 := p_fresh hw hS6 12 rfl
  have hq75 : cob1 ∉ S1.1 := p_fresh hw hS6 13 rfl
  have hq76 : cor2 ∉ S1.1 := p_fresh hw hS6 14 rfl
  have hq77 : cob2 ∉ S1.1 := p_fresh hw hS6 15 rfl
  have hq78 : cor3 ∉ S1.1 := p_fresh hw hS6 16 rfl
  have hq79 : cob3 ∉ S1.1 := p_fresh hw hS6 17 rfl
  have hq80 : cor4 ∉ S1.1 := p_fresh hw hS6 18 rfl
  have hq81 : cob4 ∉ S1.1 := p_fresh hw hS6 19 rfl
  have hq82 : ca ∉ S1.1 := p_fresh hw hS6 20 rfl
  have hq83 : cal ∉ S1.1 := p_fresh hw hS6 21 rfl
  have hq84 : can ∉ S1.1 := p_fresh hw hS6 22 rfl
  have hq85 : cam ∉ S1.1 := p_fresh hw hS6 23 rfl
  have hq86 : car0 ∉ S1.1 := p_fresh hw hS6 24 rfl
  have hq87 : cab0 ∉ S1.1 := p_fresh hw hS6 25 rfl
  have hq88 : car1 ∉ S1.1 := p_fresh hw hS6 26 rfl
  have hq89 : cab1 ∉ S1.1 := p_fresh hw hS6 27 rfl
  have hq90 : car2 ∉ S1.1 := p_fresh hw hS6 28 rfl
  have hq91 : cab2 ∉ S1.1 := p_fresh hw hS6 29 rfl
  have hq92 : car3 ∉ S1.1 := p_fresh hw hS6 30 rfl
  have hq93 : cab3 ∉ S1.1 := p_fresh hw hS6 31 rfl
  have hq94 : car4 ∉ S1.1 := p_fresh hw hS6 32 rfl
  have hq95 : cab4 ∉ S1.1 := p_fresh hw hS6 33 rfl
  have hq96 : su ∉ S1.1 := p_fresh hw hS6 34 rfl
  have hq97 : sul ∉ S1.1 := p_fresh hw hS6 35 rfl
  have hq98 : sun ∉ S1.1 := p_fresh hw hS6 36 rfl
  have hq99 : sum ∉ S1.1 := p_fresh hw hS6 37 rfl
  have hq100 : sur0 ∉ S1.1 := p_fresh hw hS6 38 rfl
  have hq101 : sub0 ∉ S1.1 := p_fresh hw hS6 39 rfl
  have hq102 : sur1 ∉ S1.1 := p_fresh hw hS6 40 rfl
  have hq103 : sub1 ∉ S1.1 := p_fresh hw hS6 41 rfl
  have hq104 : sur2 ∉ S1.1 := p_fresh hw hS6 42 rfl
  have hq105 : sub2 ∉ S1.1 := p_fresh hw hS6 43 rfl
  have hq106 : sur3 ∉ S1.1 := p_fresh hw hS6 44 rfl
  have hq107 : sub3 ∉ S1.1 := p_fresh hw hS6 45 rfl
  have hq108 : sur4 ∉ S1.1 := p_fresh hw hS6 46 rfl
  have hq109 : sub4 ∉ S1.1 := p_fresh hw hS6 47 rfl
  have hq110 : lt ∉ S1.1 := p_fresh hw hS6 48 rfl
  have hq111 : lf ∉ S1.1 := p_fresh hw hS6 49 rfl
  have hq112 : lx ∉ S1.1 := p_fresh hw hS6 50 rfl
  have hq113 : lw ∉ S1.1 := p_fresh hw hS6 51 rfl
  have hL114 : x ∈ S4.1 := by rw [hS6]; exact List.mem_append_left _ hL2
  have hL115 : ch ∈ S4.1 := by rw [hS6]; exact List.mem_append_right _ (List.mem_of_getElem? (i := 0) rfl)
  have hL116 : lk ∈ S4.1 := by rw [hS6]; exact List.mem_append_right _ (List.mem_of_getElem? (i := 1) rfl)
  have hL117 : ln ∈ S4.1 := by rw [hS6]; exact List.mem_append_right _ (List.mem_of_getElem? (i := 2) rfl)
  have hL118 : sl ∈ S4.1 := by rw [hS6]; exact List.mem_append_right _ (List.mem_of_getElem? (i := 3) rfl)
  have hL119 : mk ∈ S4.1 := by rw [hS6]; exact List.mem_append_right _ (List.mem_of_getElem? (i := 4) rfl)
  have hL120 : mb ∈ S4.1 := by rw [hS6]; exact List.mem_append_right _ (List.mem_of_getElem? (i := 5) rfl)
  have hL121 : co ∈ S4.1 := by rw [hS6]; exact List.mem_append_right _ (List.mem_of_getElem? (i := 6) rfl)
  have hL122 : col ∈ S4.1 := by rw [hS6]; exact List.mem_append_right _ (List.mem_of_getElem? (i := 7) rfl)
  have hL123 : con ∈ S4.1 := by rw [hS6]; exact List.mem_append_right _ (List.mem_of_getElem? (i := 8) rfl)
  have hL124 : com ∈ S4.1 := by rw [hS6]; exact List.mem_append_right _ (List.mem_of_getElem? (i := 9) rfl)
  have hL125 : cor0 ∈ S4.1 := by rw [hS6]; exact List.mem_append_right _ (List.mem_of_getElem? (i := 10) rfl)
  have hL126 : cob0 ∈ S4.1 := by rw [hS6]; exact List.mem_append_right _ (List.mem_of_getElem? (i := 11) rfl)
  have hL127 : cor1 ∈ S4.1 := by rw [hS6]; exact List.mem_append_right _ (List.mem_of_getElem? (i := 12) rfl)
  have hL128 : cob1 ∈ S4.1 := by rw [hS6]; exact List.mem_append_right _ (List.mem_of_getElem? (i := 13) rfl)
  have hL129 : cor2 ∈ S4.1 := by rw [hS6]; exact List.mem_append_right _ (List.mem_of_getElem? (i := 14) rfl)
  have hL130 : cob2 ∈ S4.1 := by rw [hS6]; exact List.mem_append_right _ (List.mem_of_getElem? (i := 15) rfl)
  have hL131 : cor3 ∈ S4.1 := by rw [hS6]; exact List.mem_append_right _ (List.mem_of_getElem? (i := 16) rfl)
  have hL132 : cob3 ∈ S4.1 := by rw [hS6]; exact List.mem_append_right _ (List.mem_of_getElem? (i := 17) rfl)
  have hL133 : cor4 ∈ S4.1 := by rw [hS6]; exact List.mem_append_right _ (List.mem_of_getElem? (i := 18) rfl)
  have hL134 : cob4 ∈ S4.1 := by rw [hS6]; exact List.mem_append_right _ (List.mem_of_getElem? (i := 19) rfl)
  have hL135 : ca ∈ S4.1 := by rw [hS6]; exact List.mem_append_right _ (List.mem_of_getElem? (i := 20) rfl)
  have hL136 : cal ∈ S4.1 := by rw [hS6]; exact List.mem_append_right _ (List.mem_of_getElem? (i := 21) rfl)
  have hL137 : can ∈ S4.1 := by rw [hS6]; exact List.mem_append_right _ (List.mem_of_getElem? (i := 22) rfl)
  have hL138 : cam ∈ S4.1 := by rw [hS6]; exact List.mem_append_right _ (List.mem_of_getElem? (i := 23) rfl)
  have hL139 : car0 ∈ S4.1 := by rw [hS6]; exact List.mem_append_right _ (List.mem_of_getElem? (i := 24) rfl)
  have hL140 : cab0 ∈ S4.1 := by rw [hS6]; exact List.mem_append_right _ (List.mem_of_getElem? (i := 25) rfl)
  have hL141 : car1 ∈ S4.1 := by rw [hS6]; exact List.mem_append_right _ (List.mem_of_getElem? (i := 26) rfl)
  have hL142 : cab1 ∈ S4.1 := by rw [hS6]; exact List.mem_append_right _ (List.mem_of_getElem? (i := 27) rfl)
  have hL143 : car2 ∈ S4.1 := by rw [hS6]; exact List.mem_append_right _ (List.mem_of_getElem? (i := 28) rfl)
  have hL144 : cab2 ∈ S4.1 := by rw [hS6]; exact List.mem_append_right _ (List.mem_of_getElem? (i := 29) rfl)
  have hL145 : car3 ∈ S4.1 := by rw [hS6]; exact List.mem_append_right _ (List.mem_of_getElem? (i := 30) rfl)
  have hL146 : cab3 ∈ S4.1 := by rw [hS6]; exact List.mem_append_right _ (List.mem_of_getElem? (i := 31) rfl)
  have hL147 : car4 ∈ S4.1 := by rw [hS6]; exact List.mem_append_right _ (List.mem_of_getElem? (i := 32) rfl)
  have hL148 : cab4 ∈ S4.1 := by rw [hS6]; exact List.mem_append_right _ (List.mem_of_getElem? (i := 33) rfl)
  have hL149 : su ∈ S4.1 := by rw [hS6]; exact List.mem_append_right _ (List.mem_of_getElem? (i := 34) rfl)
  have hL150 : sul ∈ S4.1 := by rw [hS6]; exact List.mem_append_right _ (List.mem_of_getElem? (i := 35) rfl)
  have hL151 : sun ∈ S4.1 := by rw [hS6]; exact List.mem_append_right _ (List.mem_of_getElem? (i := 36) rfl)
  have hL152 : sum ∈ S4.1 := by rw [hS6]; exact List.mem_append_right _ (List.mem_of_getElem? (i := 37) rfl)
  have hL153 : sur0 ∈ S4.1 := by rw [hS6]; exact List.mem_append_right _ (List.mem_of_getElem? (i := 38) rfl)
  have hL154 : sub0 ∈ S4.1 := by rw [hS6]; exact List.mem_append_right _ (List.mem_of_getElem? (i := 39) rfl)
  have hL155 : sur1 ∈ S4.1 := by rw [hS6]; exact List.mem_append_right _ (List.mem_of_getElem? (i := 40) rfl)
  have hL156 : sub1 ∈ S4.1 := by rw [hS6]; exact List.mem_append_right _ (List.mem_of_getElem? (i := 41) rfl)
  have hL157 : sur2 ∈ S4.1 := by rw [hS6]; exact List.mem_append_right _ (List.mem_of_getElem? (i := 42) rfl)
  have hL158 : sub2 ∈ S4.1 := by rw [hS6]; exact List.mem_append_right _ (List.mem_of_getElem? (i := 43) rfl)
  have hL159 : sur3 ∈ S4.1 := by rw [hS6]; exact List.mem_append_right _ (List.mem_of_getElem? (i := 44) rfl)
  have hL160 : sub3 ∈ S4.1 := by rw [hS6]; exact List.mem_append_right _ (List.mem_of_getElem? (i := 45) rfl)
  have hL161 : sur4 ∈ S4.1 := by rw [hS6]; exact List.mem_append_right _ (List.mem_of_getElem? (i := 46) rfl)
  have hL162 : sub4 ∈ S4.1 := by rw [hS6]; exact List.mem_append_right _ (List.mem_of_getElem? (i := 47) rfl)
  have hL163 : lt ∈ S4.1 := by rw [hS6]; exact List.mem_append_right _ (List.mem_of_getElem? (i := 48) rfl)
  have hL164 : lf ∈ S4.1 := by rw [hS6]; exact List.mem_append_right _ (List.mem_of_getElem? (i := 49) rfl)
  have hL165 : lx ∈ S4.1 := by rw [hS6]; exact List.mem_append_right _ (List.mem_of_getElem? (i := 50) rfl)
  have hL166 : lw ∈ S4.1 := by rw [hS6]; exact List.mem_append_right _ (List.mem_of_getElem? (i := 51) rfl)
  obtain ⟨G, hG0, hPn, -⟩ := pic_new (cy := cy) hL2 hS6 (p_nodup hw) hf8 hf9 hf10 hf11 hf12 hf13 hf14 hf15 hf16 hf17 hf18 hf19 hf20 hf21 hf22 hf23 hf24 hf25 hf26 hf27 hf28 hf29 hf30 hf31 hf32 hf33 hf34 hf35 hf36 hf37 hf38 hf39 hf40 hf41 hf42 hf43 hf44 hf45 hf46 hf47 hf48 hf49 hf50 hf51 hf52 hf53 hf54 hf55 hf56 hf57 hf58 hf59 hf60 (fun _ => (0, 0, 0, fun _ => 0))
  subst hG0
  refine W.widen (k := 53) (n := 4692) (Nat.le_of_ble_eq_true rfl) (Nat.le_of_ble_eq_true rfl) ?_
  exact kk _ G _ H locs ls hPn hw (lv_sub hl [0] rfl)
