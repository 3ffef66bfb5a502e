/-! fields by a heir's name -/
section PIH
variable {p : Program} {l : Launch} {e : Env} {R : Room} {s : State} {m : MethodId} {args : Array Value} {below : List Frame} {meth : Method} {c : Code} {H : Heap} {locs : List Loc} {cells slots : Nat} {Q : State → Prop}
variable {cc : ByteArray} {nL : Nat} {own : String} {Ts : List Cond} {D : va_G} {cy : Nat → ClassId} {A : Nat → Prop} {H0 : Heap} {S : pS} {pc : Nat} {ls : Array Slot} {rest : List Value} {a : Nat}
theorem p_getS (C : pC p s m args c cc nL own Ts D cy) (hw : pW D A H0 S H locs) {Cn ref : String} {T : u_T} {N ci index : Nat} {fs : List Value} {v : Value} (hL : a ∈ S.1) (hf : S.2 a = .inr (ci, fs)) (hc : vwCl[ci]? = some (Cn, T, N)) (hin : ∀ w ∈ u_ws Cn T N, w ∈ Ts) (k : Nat) (hk : k < N) (hlink : Cond.fieldLink own index ref (T k).2.1 (T k).2.2.1 ∈ Ts) (hs : ∀ x, s.fieldFound? (T k).1 (T k).2.1 (T k).2.2.1 = some x → s.fieldFound? ref (T k).2.1 (T k).2.2.1 = some x) (hv : fs[k]? = some v) (hdg : decode cc pc = .ok (.getfield index, 3))
    (kk : W p l e R s m args below meth c H locs cells slots Q (F0 m (pc + 3) ls (v :: rest))) : W p l e R s m args below meth c H locs cells slots Q (F0 m pc ls (.ref a :: rest)) := by
  obtain ⟨k0, hk0⟩ := va_pl_get (X := []) (f := S.2) hL
  rw [hf] at hk0
  exact va_get C.1 C.2.1 C.2.2.2.2.1 hin C.2.2.2.1 C.2.2.2.2.2.1 hw.1 k0 hk0 hc k hk (C.2.2.2.2.1 _ hlink) hs hv hdg kk
theorem p_putS (C : pC p s m args c cc nL own Ts D cy) (hw : pW D A H0 S H locs) {Cn ref : String} {T : u_T} {N ci index : Nat} {fs : List Value} {v : Value} (ty0 : Nat → FieldType) (hty : ∀ k, k < N → parseFieldDescriptor (T k).2.2.1 = some (ty0 k)) (hnm : ∀ a, a < N → ∀ b, b < N → a ≠ b → (T a).2.1 ≠ (T b).2.1) (hL : a ∈ S.1) (hf : S.2 a = .inr (ci, fs)) (hc : vwCl[ci]? = some (Cn, T, N)) (hin : ∀ w ∈ u_ws Cn T N, w ∈ Ts) (k : Nat) (hk : k < N) (hlink : Cond.fieldLink own index ref (T k).2.1 (T k).2.2.1 ∈ Ts) (hs : ∀ x, s.fieldFound? (T k).1 (T k).2.1 (T k).2.2.1 = some x → s.fieldFound? ref (T k).2.1 (T k).2.2.1 = some x) (hfin : (T k).2.2.2 = false) {ty : FieldType} (hd : parseFieldDescriptor (T k).2.2.1 = some ty) (hn : narrow ty v = v) (hfit : fits ty v = true) (hl : k < fs.length) (hdg : decode cc pc = .ok (.putfield index, 3))
    {fs' : List Value} (hfs : fs.set k v = fs')
    (kk : ∀ (H1 : Heap) (locs1 : List Loc), pW D A H0 (S.1, va_up S.2 a (.inr (ci, fs'))) H1 locs1 → W p l e R s m args below meth c H1 locs1 cells slots Q (F0 m (pc + 3) ls rest)) : W p l e R s m args below meth c H locs cells slots Q (F0 m pc ls (v :: .ref a :: rest)) := by
  subst hfs
  obtain ⟨k0, hk0⟩ := va_pl_get (X := []) (f := S.2) hL
  rw [hf] at hk0
  exact va_put C.1 C.2.1 C.2.2.2.2.1 hin ty0 hty hnm C.2.2.2.1 C.2.2.2.2.2.1 hw.1 hw.2.1 hw.2.2 k0 hk0 hc k hk (C.2.2.2.2.1 _ hlink) hs hfin hd hn hfit hl hdg (fun H1 locs1 hP hD hS => kk H1 locs1 (p_seti hw hL hk0 hP hD hS))
end PIH
set_option maxHeartbeats 4000000 in
set_option maxRecDepth 100000 in
theorem e_Jxa1e45_init_da8c8 (l : Launch) (D : va_G) (cy : Nat → ClassId) (S : pS) (sz : Nat) (h : Nat)   : Met l yJxa1e45_init_da8c8 (Cond.code yJxa1e45_init_da8c8 cJxa1e45_init_da8c8 1 none :: lwU) ({ frames := 1, cells := 0, slots := 0, locals := 12 }) (pPc D cy S sz [.ref h]) (pQv D cy S sz (fun S' => S = S')) 0 0 (pA S sz) := by
  refine Met.ofW (cc := cJxa1e45_init_da8c8) (maxL := 1) (ret := none) (by decide) rfl ?_
  intro p e s m args below meth c s₁ B hml hv
  have hin : meth.name = "<init>" := (name_of_methodNamed B.named B.method).1
  obtain ⟨rfl, rfl, C, hw, hA, hr, hlocks⟩ := p_start B hml hv
  have hx := C.1
  have hb := C.2.1
  have hl := lv_entry ([.ref h]) (n := 1) (Nat.le_of_ble_eq_true rfl)
  rw [lg_entry_eq]
  generalize (lg_sl ([.ref h]) ++ List.replicate (1 - (lg_sl ([.ref h])).length) Slot.unset).toArray = ls at hl ⊢
  have hl : lv_has ls 1 [(0, .ref h)] := hl
  refine lv_aload_n hx hb dJxa1e45_init_da8c8_0 rfl (lv_at hl 0 rfl) ?_
  refine W.objInit hx hb C.2.2.2.1 (C.2.2.2.2.1 (.methodLink RJxa1e45 1 objectInit) (mU mw_108)) (C.2.2.2.2.1 (.instanceMethod objectInit) (mU mw_12)) (C.2.2.2.2.1 _ (mU mw_13)) rfl (by rw [hml]; exact hl.1) rfl dJxa1e45_init_da8c8_1 (Nat.le_of_ble_eq_true rfl) (Nat.le_of_ble_eq_true rfl) ?_
  refine W.eq (g2 := F0 m 4 ls []) rfl ?_
  exact (p_vret C hw (rfl) hr hlocks dJxa1e45_init_da8c8_4)

set_option maxHeartbeats 4000000 in
set_option maxRecDepth 100000 in
theorem e_Jxc12de_init_da8c8 (l : Launch) (D : va_G) (cy : Nat → ClassId) (S : pS) (sz : Nat) (h : Nat) (a0 : Nat) (s0 : Nat) (hL_h : h ∈ S.1) (hf_h : S.2 h = .inr (0, [.int (nI a0), .null, .int (nI s0)]))  : Met l yJxc12de_init_da8c8 (Cond.code yJxc12de_init_da8c8 cJxc12de_init_da8c8 1 none :: lwU) ({ frames := 2, cells := 0, slots := 0, locals := 32 }) (pPc D cy S sz [.ref h]) (pQv D cy S sz (fun S' => S'.1 = S.1 ++ [] ∧ (∀ a_, a_ ∈ S.1 → a_ ≠ h → S'.2 a_ = S.2 a_) ∧ S'.2 h = .inr (0, [.int (nI 0), .null, .int (nI s0)]))) 0 0 (pA S sz) := by
  refine Met.ofW (cc := cJxc12de_init_da8c8) (maxL := 1) (ret := none) (by decide) rfl ?_
  intro p e s m args below meth c s₁ B hml hv
  have hin : meth.name = "<init>" := (name_of_methodNamed B.named B.method).1
  obtain ⟨rfl, rfl, C, hw, hA, hr, hlocks⟩ := p_start B hml hv
  have hx := C.1
  have hb := C.2.1
  have hl := lv_entry ([.ref h]) (n := 1) (Nat.le_of_ble_eq_true rfl)
  rw [lg_entry_eq]
  generalize (lg_sl ([.ref h]) ++ List.replicate (1 - (lg_sl ([.ref h])).length) Slot.unset).toArray = ls at hl ⊢
  have hl : lv_has ls 1 [(0, .ref h)] := hl
  have hin_RJx4a65c : ∀ w ∈ u_ws RJx4a65c TJx4a65c 3, w ∈ (Cond.code yJxc12de_init_da8c8 cJxc12de_init_da8c8 1 none :: lwU) := fun w h => mU (sub_RJx4a65c w h)
  refine lv_aload_n hx hb dJxc12de_init_da8c8_0 rfl (lv_at hl 0 rfl) ?_
  refine p_callv (va_runI (As := []) (rest := []) C.fix (e_Jxa1e45_init_da8c8 l D cy S s.heap.size h  ) (cwI 0 C.2.2.2.2.1 (gU_sub (subU mw_107)) rfl rfl rfl (C.2.2.2.2.1 (.initialized RJxa1e45) (mU mw_106)) (C.2.2.2.2.1 (.methodLink RJxc12de 1 yJxa1e45_init_da8c8) (mU mw_104)) (C.2.2.2.2.1 (.instanceMethod yJxa1e45_init_da8c8) (mU mw_105)) rfl (by decide +kernel) ⟨Nat.le_of_ble_eq_true rfl, Nat.le_of_ble_eq_true rfl⟩) (p_preS C hw) rfl rfl hl.1 rfl (lv_room (Nat.le_of_ble_eq_true rfl)) dJxc12de_init_da8c8_1 ⟨(Nat.le_of_ble_eq_true rfl), (Nat.le_of_ble_eq_true rfl)⟩) hw hA (fun S1 H locs hpost hw => ?_)
  have hS_ := hpost
  subst hS_
  refine lv_aload_n hx hb dJxc12de_init_da8c8_4 rfl (lv_at hl 0 rfl) ?_
  refine lv_iconst (v := nI 0) hx hb dJxc12de_init_da8c8_5 (by decide) ?_
  refine p_put C hw (ci := 0) (Cn := RJx4a65c) (T := TJx4a65c) (N := 3) tyJx4a65c tyJx4a65c_ok nmJx4a65c hL_h hf_h rfl hin_RJx4a65c 0 (by decide) (mU mw_103) rfl rfl rfl rfl rfl (by simp) dJxc12de_init_da8c8_6 rfl (fun H locs hw => ?_)
  obtain ⟨S3, hS3⟩ : ∃ z, z = pup S h (.inr (0, [.int (nI 0), .null, .int (nI s0)])) := ⟨_, rfl⟩
  replace hw : pW D (pA S s.heap.size) s.heap S3 H locs := by rw [hS3]; exact hw
  have hL4 : h ∈ S3.1 := by rw [hS3]; exact hL_h
  have hf5 : S3.2 h = .inr (0, [.int (nI 0), .null, .int (nI s0)]) := by rw [hS3]; exact pup_s
  exact (p_vret C hw (⟨(by simp only [hS3, pup, pnew, List.append_nil, List.append_assoc, List.cons_append, List.nil_append]), (fun a_ ha_ hn_0 => (show S3.2 a_ = S.2 a_ from by rw [hS3]; exact pup_n hn_0)), hf5⟩) hr hlocks dJxc12de_init_da8c8_9)

set_option maxHeartbeats 4000000 in
set_option maxRecDepth 100000 in
theorem e_Jx4a65c_init_da8c8 (l : Launch) (D : va_G) (cy : Nat → ClassId) (ed : Nat) (S : pS) (sz : Nat) (h : Nat) (a0 : Nat) (s0 : Nat) (hL_h : h ∈ S.1) (hf_h : S.2 h = .inr (0, [.int (nI a0), .null, .int (nI s0)]))  : Met l yJx4a65c_init_da8c8 (Cond.code yJx4a65c_init_da8c8 cJx4a65c_init_da8c8 1 none :: lwU) ({ frames := 3, cells := 0, slots := 0, locals := 52 }) (ePc D cy ed S sz [.ref h]) (pQv D cy S sz (fun S' => S'.1 = S.1 ++ [] ∧ (∀ a_, a_ ∈ S.1 → a_ ≠ h → S'.2 a_ = S.2 a_) ∧ S'.2 h = .inr (0, [.int (nI 0), .ref ed, .int (nI s0)]))) 0 0 (pA S sz) := by
  refine Met.ofW (cc := cJx4a65c_init_da8c8) (maxL := 1) (ret := none) (by decide) rfl ?_
  intro p e s m args below meth c s₁ B hml hv
  have hin : meth.name = "<init>" := (name_of_methodNamed B.named B.method).1
  obtain ⟨rfl, rfl, C, hw, hA, hr, hlocks, hE⟩ := e_start B hml hv
  have hx := C.1
  have hb := C.2.1
  have hl := lv_entry ([.ref h]) (n := 1) (Nat.le_of_ble_eq_true rfl)
  rw [lg_entry_eq]
  generalize (lg_sl ([.ref h]) ++ List.replicate (1 - (lg_sl ([.ref h])).length) Slot.unset).toArray = ls at hl ⊢
  have hl : lv_has ls 1 [(0, .ref h)] := hl
  have hin_RJx4a65c : ∀ w ∈ u_ws RJx4a65c TJx4a65c 3, w ∈ (Cond.code yJx4a65c_init_da8c8 cJx4a65c_init_da8c8 1 none :: lwU) := fun w h => mU (sub_RJx4a65c w h)
  refine lv_aload_n hx hb dJx4a65c_init_da8c8_0 rfl (lv_at hl 0 rfl) ?_
  refine p_callv (va_runI (As := []) (rest := []) C.fix (e_Jxc12de_init_da8c8 l D cy S s.heap.size h a0 s0 hL_h hf_h ) (cwI 0 C.2.2.2.2.1 (gU_sub (subU mw_102)) rfl rfl rfl (C.2.2.2.2.1 (.initialized RJxc12de) (mU mw_101)) (C.2.2.2.2.1 (.methodLink RJx4a65c 1 yJxc12de_init_da8c8) (mU mw_99)) (C.2.2.2.2.1 (.instanceMethod yJxc12de_init_da8c8) (mU mw_100)) rfl (by decide +kernel) ⟨Nat.le_of_ble_eq_true rfl, Nat.le_of_ble_eq_true rfl⟩) (p_preS C hw) rfl rfl hl.1 rfl (lv_room (Nat.le_of_ble_eq_true rfl)) dJx4a65c_init_da8c8_1 ⟨(Nat.le_of_ble_eq_true rfl), (Nat.le_of_ble_eq_true rfl)⟩) hw hA (fun S1 H locs hpost hw => ?_)
  obtain ⟨hS3, hfr4, hf5⟩ := hpost
  have hL6 : h ∈ S1.1 := by rw [hS3]; exact List.mem_append_left _ hL_h
  refine lv_aload_n hx hb dJx4a65c_init_da8c8_4 rfl (lv_at hl 0 rfl) ?_
  refine va_gets hx hb hE.1 hw.2.2 C.2.2.2.1 (C.2.2.2.2.1 _ (mU mw_97)) (fun _ h => h) dJx4a65c_init_da8c8_5 ?_
  refine p_put C hw (ci := 0) (Cn := RJx4a65c) (T := TJx4a65c) (N := 3) tyJx4a65c tyJx4a65c_ok nmJx4a65c hL6 hf5 rfl hin_RJx4a65c 1 (by decide) (mU mw_98) rfl rfl rfl rfl rfl (by simp) dJx4a65c_init_da8c8_8 rfl (fun H locs hw => ?_)
  obtain ⟨S7, hS7⟩ : ∃ z, z = pup S1 h (.inr (0, [.int (nI 0), .ref ed, .int (nI s0)])) := ⟨_, rfl⟩
  replace hw : pW D (pA S s.heap.size) s.heap S7 H locs := by rw [hS7]; exact hw
  have hL8 : h ∈ S7.1 := by rw [hS7]; exact hL6
  have hf9 : S7.2 h = .inr (0, [.int (nI 0), .ref ed, .int (nI s0)]) := by rw [hS7]; exact pup_s
  exact (p_vret C hw (⟨(by simp only [hS7, hS3, pup, pnew, List.append_nil, List.append_assoc, List.cons_append, List.nil_append]), (fun a_ ha_ hn_0 => ((show S7.2 a_ = S1.2 a_ from by rw [hS7]; exact pup_n hn_0).trans (hfr4 a_ ha_ hn_0))), hf9⟩) hr hlocks dJx4a65c_init_da8c8_11)

set_option maxHeartbeats 4000000 in
set_option maxRecDepth 100000 in
theorem e_Jx4a65c_size_8abf5 (l : Launch) (D : va_G) (cy : Nat → ClassId) (S : pS) (sz : Nat) (h : Nat) (ee : Nat) (a0 : Nat) (n : Nat) (hL_h : h ∈ S.1) (hf_h : S.2 h = .inr (0, [.int (nI a0), .ref ee, .int (nI n)]))  : Met l yJx4a65c_size_8abf5 (Cond.code yJx4a65c_size_8abf5 cJx4a65c_size_8abf5 1 (some .int) :: lwU) ({ frames := 0, cells := 0, slots := 0, locals := 0 }) (pPc D cy S sz [.ref h]) (pQi D cy S sz (fun r S' => r = (nI n) ∧ S = S')) 0 0 (pA S sz) := by
  refine Met.ofW (cc := cJx4a65c_size_8abf5) (maxL := 1) (ret := (some .int)) (by decide) rfl ?_
  intro p e s m args below meth c s₁ B hml hv
  obtain ⟨rfl, rfl, C, hw, hA, hr, hlocks⟩ := p_start B hml hv
  have hx := C.1
  have hb := C.2.1
  have hl := lv_entry ([.ref h]) (n := 1) (Nat.le_of_ble_eq_true rfl)
  rw [lg_entry_eq]
  generalize (lg_sl ([.ref h]) ++ List.replicate (1 - (lg_sl ([.ref h])).length) Slot.unset).toArray = ls at hl ⊢
  have hl : lv_has ls 1 [(0, .ref h)] := hl
  have hin_RJx4a65c : ∀ w ∈ u_ws RJx4a65c TJx4a65c 3, w ∈ (Cond.code yJx4a65c_size_8abf5 cJx4a65c_size_8abf5 1 (some .int) :: lwU) := fun w h => mU (sub_RJx4a65c w h)
  refine lv_aload_n hx hb dJx4a65c_size_8abf5_0 rfl (lv_at hl 0 rfl) ?_
  refine p_get C hw (ci := 0) (Cn := RJx4a65c) (T := TJx4a65c) (N := 3) hL_h hf_h rfl hin_RJx4a65c 2 (by decide) (mU mw_425) rfl rfl dJx4a65c_size_8abf5_1 ?_
  exact (p_iret C hw (⟨rfl, rfl⟩) hr hlocks dJx4a65c_size_8abf5_4)

set_option maxHeartbeats 4000000 in
set_option maxRecDepth 100000 in
theorem e_Jx4a65c_isEmpty_aae020 (l : Launch) (D : va_G) (cy : Nat → ClassId) (S : pS) (sz : Nat) (h : Nat) (ee : Nat) (a0 : Nat) (hL_h : h ∈ S.1) (hf_h : S.2 h = .inr (0, [.int (nI a0), .ref ee, .int (nI 0)]))  : Met l yJx4a65c_isEmpty_aae02 (Cond.code yJx4a65c_isEmpty_aae02 cJx4a65c_isEmpty_aae02 1 (some .boolean) :: lwU) ({ frames := 0, cells := 0, slots := 0, locals := 0 }) (pPc D cy S sz [.ref h]) (pQi D cy S sz (fun r S' => r = (nI 1) ∧ S = S')) 0 0 (pA S sz) := by
  refine Met.ofW (cc := cJx4a65c_isEmpty_aae02) (maxL := 1) (ret := (some .boolean)) (by decide) rfl ?_
  intro p e s m args below meth c s₁ B hml hv
  obtain ⟨rfl, rfl, C, hw, hA, hr, hlocks⟩ := p_start B hml hv
  have hx := C.1
  have hb := C.2.1
  have hl := lv_entry ([.ref h]) (n := 1) (Nat.le_of_ble_eq_true rfl)
  rw [lg_entry_eq]
  generalize (lg_sl ([.ref h]) ++ List.replicate (1 - (lg_sl ([.ref h])).length) Slot.unset).toArray = ls at hl ⊢
  have hl : lv_has ls 1 [(0, .ref h)] := hl
  have hin_RJx4a65c : ∀ w ∈ u_ws RJx4a65c TJx4a65c 3, w ∈ (Cond.code yJx4a65c_isEmpty_aae02 cJx4a65c_isEmpty_aae02 1 (some .boolean) :: lwU) := fun w h => mU (sub_RJx4a65c w h)
  refine lv_aload_n hx hb dJx4a65c_isEmpty_aae02_0 rfl (lv_at hl 0 rfl) ?_
  refine p_get C hw (ci := 0) (Cn := RJx4a65c) (T := TJx4a65c) (N := 3) hL_h hf_h rfl hin_RJx4a65c 2 (by decide) (mU mw_425) rfl rfl dJx4a65c_isEmpty_aae02_1 ?_
  refine n_if_ne (tgt := 11) hx hb (by first | decide | omega) dJx4a65c_isEmpty_aae02_4 (by decide) (fun h_4 => ?_) (fun h_4 => ?_)
  · exact absurd h_4 (by first | decide | omega)
  · skip
    refine lv_iconst (v := nI 1) hx hb dJx4a65c_isEmpty_aae02_7 (by decide) ?_
    refine lv_goto (tgt := 12) hx hb dJx4a65c_isEmpty_aae02_8 (by decide) ?_
    exact (p_zret C hw (⟨rfl, rfl⟩) hr rfl hlocks dJx4a65c_isEmpty_aae02_12)

set_option maxHeartbeats 4000000 in
set_option maxRecDepth 100000 in
theorem e_J3_checkIndex_8e157 (l : Launch) (D : va_G) (cy : Nat → ClassId) (S : pS) (sz : Nat) (j : Nat) (n : Nat)  (hj : j < n) (hn : n < 2 ^ 31) : Met l yJ3_checkIndex_8e157 (Cond.code yJ3_checkIndex_8e157 cJ3_checkIndex_8e157 3 (some .int) :: lwU) ({ frames := 0, cells := 0, slots := 0, locals := 0 }) (pPc D cy S sz [.int (nI j), .int (nI n), .null]) (pQi D cy S sz (fun r S' => r = (nI j) ∧ S = S')) 0 0 (pA S sz) := by
  refine Met.ofW (cc := cJ3_checkIndex_8e157) (maxL := 3) (ret := (some .int)) (by decide) rfl ?_
  intro p e s m args below meth c s₁ B hml hv
  obtain ⟨rfl, rfl, C, hw, hA, hr, hlocks⟩ := p_start B hml hv
  have hx := C.1
  have hb := C.2.1
  have hl := lv_entry ([.int (nI j), .int (nI n), .null]) (n := 3) (Nat.le_of_ble_eq_true rfl)
  rw [lg_entry_eq]
  generalize (lg_sl ([.int (nI j), .int (nI n), .null]) ++ List.replicate (3 - (lg_sl ([.int (nI j), .int (nI n), .null])).length) Slot.unset).toArray = ls at hl ⊢
  have hl : lv_has ls 3 [(0, .int (nI j)), (1, .int (nI n)), (2, .null)] := hl
  refine lv_iload_n hx hb dJ3_checkIndex_8e157_0 rfl (lv_at hl 0 rfl) ?_
  refine n_if_lt (tgt := 9) hx hb (by first | decide | omega) dJ3_checkIndex_8e157_1 (by decide) ?_
  refine lv_iload_n hx hb dJ3_checkIndex_8e157_4 rfl (lv_at hl 0 rfl) ?_
  refine lv_iload_n hx hb dJ3_checkIndex_8e157_5 rfl (lv_at hl 1 rfl) ?_
  refine n_icmp_lt (tgt := 16) hx hb (by first | decide | omega) (by first | decide | omega) dJ3_checkIndex_8e157_6 (by decide) (fun h_6 => ?_) (fun h_6 => ?_)
  · skip
    refine lv_iload_n hx hb dJ3_checkIndex_8e157_16 rfl (lv_at hl 0 rfl) ?_
    exact (p_iret C hw (⟨rfl, rfl⟩) hr hlocks dJ3_checkIndex_8e157_17)
  · exfalso; omega

theorem hde_J15_checkIndex_7cf53_S_0 : yJ3_checkIndex_8e157.cls ≠ "java/lang/invoke/MethodHandle" ∧ yJ3_checkIndex_8e157.cls ≠ "java/lang/invoke/VarHandle" ∧ (parseMethodDescriptor yJ3_checkIndex_8e157.desc).map (fun d => d.parameters.length) = some 3 := by decide +kernel
set_option maxHeartbeats 4000000 in
set_option maxRecDepth 100000 in
theorem e_J15_checkIndex_7cf53 (l : Launch) (D : va_G) (cy : Nat → ClassId) (S : pS) (sz : Nat) (j : Nat) (n : Nat)  (hj : j < n) (hn : n < 2 ^ 31) : Met l yJ15_checkIndex_7cf53 (Cond.code yJ15_checkIndex_7cf53 cJ15_checkIndex_7cf53 2 (some .int) :: lwU) ({ frames := 1, cells := 0, slots := 0, locals := 22 }) (pPc D cy S sz [.int (nI j), .int (nI n)]) (pQi D cy S sz (fun r S' => r = (nI j) ∧ S = S')) 0 0 (pA S sz) := by
  refine Met.ofW (cc := cJ15_checkIndex_7cf53) (maxL := 2) (ret := (some .int)) (by decide) rfl ?_
  intro p e s m args below meth c s₁ B hml hv
  obtain ⟨rfl, rfl, C, hw, hA, hr, hlocks⟩ := p_start B hml hv
  have hx := C.1
  have hb := C.2.1
  have hl := lv_entry ([.int (nI j), .int (nI n)]) (n := 2) (Nat.le_of_ble_eq_true rfl)
  rw [lg_entry_eq]
  generalize (lg_sl ([.int (nI j), .int (nI n)]) ++ List.replicate (2 - (lg_sl ([.int (nI j), .int (nI n)])).length) Slot.unset).toArray = ls at hl ⊢
  have hl : lv_has ls 2 [(0, .int (nI j)), (1, .int (nI n))] := hl
  refine lv_iload_n hx hb dJ15_checkIndex_7cf53_0 rfl (lv_at hl 0 rfl) ?_
  refine lv_iload_n hx hb dJ15_checkIndex_7cf53_1 rfl (lv_at hl 1 rfl) ?_
  refine lv_null hx hb dJ15_checkIndex_7cf53_2 ?_
  refine p_calli (va_runS (As := [.int (nI j), .int (nI n), .null]) (rest := []) C.fix (e_J3_checkIndex_8e157 l D cy S s.heap.size j n  (by first | assumption | decide | omega) (by first | assumption | decide | omega)) (va_cwS 3 C.2.2.2.2.1 (gU_S mw_476 mw_477 mw_478 (subU mw_479)) rfl rfl rfl hde_J15_checkIndex_7cf53_S_0 ⟨Nat.le_of_ble_eq_true rfl, Nat.le_of_ble_eq_true rfl⟩) (p_preS C hw) rfl rfl hl.1 rfl (lv_room (Nat.le_of_ble_eq_true rfl)) dJ15_checkIndex_7cf53_3 ⟨(Nat.le_of_ble_eq_true rfl), (Nat.le_of_ble_eq_true rfl)⟩) hw hA (fun r2 S1 H locs hpost hw => ?_)
  obtain ⟨hr_, hS_⟩ := hpost
  subst hr_
  subst hS_
  exact (p_iret C hw (⟨rfl, rfl⟩) hr hlocks dJ15_checkIndex_7cf53_6)

set_option maxHeartbeats 4000000 in
set_option maxRecDepth 100000 in
theorem e_Jx4a65c_elementData_915e3 (l : Launch) (D : va_G) (cy : Nat → ClassId) (S : pS) (sz : Nat) (h : Nat) (ea : Nat) (a0 : Nat) (n : Nat) (j : Nat) (r9 : Nat) (gq : Nat → Option Nat) (hL_h : h ∈ S.1) (hf_h : S.2 h = .inr (0, [.int (nI a0), .ref ea, .int (nI n)])) (hL_ea : ea ∈ S.1) (hf_ea : S.2 ea = aQ (cy 4) 10 gq) (hj : j < 10) (hq : gq j = some r9) : Met l yJx4a65c_elementData_915e3 (Cond.code yJx4a65c_elementData_915e3 cJx4a65c_elementData_915e3 2 (some (.object "java/lang/Object")) :: lwU) ({ frames := 0, cells := 0, slots := 0, locals := 0 }) (pPc D cy S sz [.ref h, .int (nI j)]) (pQq D cy S sz (fun r S' => r = some r9 ∧ S = S')) 0 0 (pA S sz) := by
  refine Met.ofW (cc := cJx4a65c_elementData_915e3) (maxL := 2) (ret := (some (.object "java/lang/Object"))) (by decide) rfl ?_
  intro p e s m args below meth c s₁ B hml hv
  obtain ⟨rfl, rfl, C, hw, hA, hr, hlocks⟩ := p_start B hml hv
  have hx := C.1
  have hb := C.2.1
  have hl := lv_entry ([.ref h, .int (nI j)]) (n := 2) (Nat.le_of_ble_eq_true rfl)
  rw [lg_entry_eq]
  generalize (lg_sl ([.ref h, .int (nI j)]) ++ List.replicate (2 - (lg_sl ([.ref h, .int (nI j)])).length) Slot.unset).toArray = ls at hl ⊢
  have hl : lv_has ls 2 [(0, .ref h), (1, .int (nI j))] := hl
  have hin_RJx4a65c : ∀ w ∈ u_ws RJx4a65c TJx4a65c 3, w ∈ (Cond.code yJx4a65c_elementData_915e3 cJx4a65c_elementData_915e3 2 (some (.object "java/lang/Object")) :: lwU) := fun w h => mU (sub_RJx4a65c w h)
  refine lv_aload_n hx hb dJx4a65c_elementData_915e3_0 rfl (lv_at hl 0 rfl) ?_
  refine p_get C hw (ci := 0) (Cn := RJx4a65c) (T := TJx4a65c) (N := 3) hL_h hf_h rfl hin_RJx4a65c 1 (by decide) (mU mw_98) rfl rfl dJx4a65c_elementData_915e3_1 ?_
  refine lv_iload_n hx hb dJx4a65c_elementData_915e3_4 rfl (lv_at hl 1 rfl) ?_
  refine p_aldq C hw 4 rfl hL_ea hf_ea (by first | decide | omega) (by first | decide | omega) (r := some r9) hq dJx4a65c_elementData_915e3_5 ?_
  exact (p_qret C hw (v := some r9) (⟨rfl, rfl⟩) hr (by first | exact Or.inl ⟨_, rfl⟩ | exact Or.inr ⟨_, rfl⟩) hlocks dJx4a65c_elementData_915e3_6)

theorem hde_Jx4a65c_get_915e3_S_0 : yJ15_checkIndex_7cf53.cls ≠ "java/lang/invoke/MethodHandle" ∧ yJ15_checkIndex_7cf53.cls ≠ "java/lang/invoke/VarHandle" ∧ (parseMethodDescriptor yJ15_checkIndex_7cf53.desc).map (fun d => d.parameters.length) = some 2 := by decide +kernel
theorem hde_Jx4a65c_get_915e3_V_1 : yJx4a65c_elementData_915e3.cls = RJx4a65c ∧ yJx4a65c_elementData_915e3.cls ≠ "java/lang/invoke/MethodHandle" ∧ yJx4a65c_elementData_915e3.cls ≠ "java/lang/invoke/VarHandle" ∧ (parseMethodDescriptor yJx4a65c_elementData_915e3.desc).map (fun d => d.parameters.length) = some 1 := by decide +kernel
set_option maxHeartbeats 4000000 in
set_option maxRecDepth 100000 in
theorem e_Jx4a65c_get_915e3 (l : Launch) (D : va_G) (cy : Nat → ClassId) (S : pS) (sz : Nat) (h : Nat) (ea : Nat) (a0 : Nat) (n : Nat) (j : Nat) (r9 : Nat) (gq : Nat → Option Nat) (hL_h : h ∈ S.1) (hf_h : S.2 h = .inr (0, [.int (nI a0), .ref ea, .int (nI n)])) (hL_ea : ea ∈ S.1) (hf_ea : S.2 ea = aQ (cy 4) 10 gq) (hj : j < n) (hn : n ≤ 10) (hq : gq j = some r9) : Met l yJx4a65c_get_915e3 (Cond.code yJx4a65c_get_915e3 cJx4a65c_get_915e3 2 (some (.object "java/lang/Object")) :: lwU) ({ frames := 2, cells := 0, slots := 0, locals := 43 }) (pPc D cy S sz [.ref h, .int (nI j)]) (pQq D cy S sz (fun r S' => r = some r9 ∧ S = S')) 0 0 (pA S sz) := by
  refine Met.ofW (cc := cJx4a65c_get_915e3) (maxL := 2) (ret := (some (.object "java/lang/Object"))) (by decide) rfl ?_
  intro p e s m args below meth c s₁ B hml hv
  obtain ⟨rfl, rfl, C, hw, hA, hr, hlocks⟩ := p_start B hml hv
  have hx := C.1
  have hb := C.2.1
  have hl := lv_entry ([.ref h, .int (nI j)]) (n := 2) (Nat.le_of_ble_eq_true rfl)
  rw [lg_entry_eq]
  generalize (lg_sl ([.ref h, .int (nI j)]) ++ List.replicate (2 - (lg_sl ([.ref h, .int (nI j)])).length) Slot.unset).toArray = ls at hl ⊢
  have hl : lv_has ls 2 [(0, .ref h), (1, .int (nI j))] := hl
  have hin_RJx4a65c : ∀ w ∈ u_ws RJx4a65c TJx4a65c 3, w ∈ (Cond.code yJx4a65c_get_915e3 cJx4a65c_get_915e3 2 (some (.object "java/lang/Object")) :: lwU) := fun w h => mU (sub_RJx4a65c w h)
  refine lv_iload_n hx hb dJx4a65c_get_915e3_0 rfl (lv_at hl 1 rfl) ?_
  refine lv_aload_n hx hb dJx4a65c_get_915e3_1 rfl (lv_at hl 0 rfl) ?_
  refine p_get C hw (ci := 0) (Cn := RJx4a65c) (T := TJx4a65c) (N := 3) hL_h hf_h rfl hin_RJx4a65c 2 (by decide) (mU mw_425) rfl rfl dJx4a65c_get_915e3_2 ?_
  refine p_calli (va_runS (As := [.int (nI j), .int (nI n)]) (rest := []) C.fix (e_J15_checkIndex_7cf53 l D cy S s.heap.size j n  (by first | assumption | decide | omega) (by first | assumption | decide | omega)) (va_cwS 2 C.2.2.2.2.1 (gU_S mw_472 mw_473 mw_474 (subU mw_475)) rfl rfl rfl hde_Jx4a65c_get_915e3_S_0 ⟨Nat.le_of_ble_eq_true rfl, Nat.le_of_ble_eq_true rfl⟩) (p_preS C hw) rfl rfl hl.1 rfl (lv_room (Nat.le_of_ble_eq_true rfl)) dJx4a65c_get_915e3_5 ⟨(Nat.le_of_ble_eq_true rfl), (Nat.le_of_ble_eq_true rfl)⟩) hw hA (fun r2 S1 H locs hpost hw => ?_)
  obtain ⟨hr_, hS_⟩ := hpost
  subst hr_
  subst hS_
  refine lv_pop hx hb dJx4a65c_get_915e3_8 rfl ?_
  refine lv_aload_n hx hb dJx4a65c_get_915e3_9 rfl (lv_at hl 0 rfl) ?_
  refine lv_iload_n hx hb dJx4a65c_get_915e3_10 rfl (lv_at hl 1 rfl) ?_
  refine p_callq (va_runV (As := [.int (nI j)]) (rest := []) C.fix (e_Jx4a65c_elementData_915e3 l D cy S H.size h ea a0 n j r9 gq hL_h hf_h hL_ea hf_ea (by first | assumption | decide | omega) (by first | assumption | rfl | simp [va_up])) (cwV 1 C.2.2.2.2.1 (gU_V mw_480 mw_481 mw_482 mw_89 (subU mw_483)) rfl rfl rfl hde_Jx4a65c_get_915e3_V_1 ⟨Nat.le_of_ble_eq_true rfl, Nat.le_of_ble_eq_true rfl⟩) (p_preV C hw hL_h hf_h rfl) rfl rfl hl.1 rfl (lv_room (Nat.le_of_ble_eq_true rfl)) dJx4a65c_get_915e3_11 ⟨(Nat.le_of_ble_eq_true rfl), (Nat.le_of_ble_eq_true rfl)⟩) hw hA (fun r4 S3 H locs hpost hw => ?_)
  obtain ⟨hr_, hS_⟩ := hpost
  subst hr_
  subst hS_
  exact (p_qret C hw (v := some r9) (⟨rfl, rfl⟩) hr (by first | exact Or.inl ⟨_, rfl⟩ | exact Or.inr ⟨_, rfl⟩) hlocks dJx4a65c_get_915e3_14)

set_option maxHeartbeats 4000000 in
set_option maxRecDepth 100000 in
theorem e_Jx4a65c_grow_92f84 (l : Launch) (D : va_G) (cy : Nat → ClassId) (ed : Nat) (S : pS) (sz : Nat) (h : Nat) (a0 : Nat) (hL_h : h ∈ S.1) (hf_h : S.2 h = .inr (0, [.int (nI a0), .ref ed, .int (nI 0)]))  : Met l yJx4a65c_grow_92f84 (Cond.code yJx4a65c_grow_92f84 cJx4a65c_grow_92f84 4 (some (.array (.object "java/lang/Object"))) :: lwU) ({ frames := 1, cells := 1, slots := 10, locals := 21 }) (ePc D cy ed S sz [.ref h, .int (nI 1)]) (pQq D cy S sz (fun r S' => ∃ (ea : Nat), r = some ea ∧ S'.1 = S.1 ++ [ea] ∧ (∀ a_, a_ ∈ S.1 → a_ ≠ h → S'.2 a_ = S.2 a_) ∧ S'.2 h = .inr (0, [.int (nI a0), .ref ea, .int (nI 0)]) ∧ S'.2 ea = aQ (cy 4) 10 (fun _ => none))) 1 10 (pA S sz) := by
  refine Met.ofW (cc := cJx4a65c_grow_92f84) (maxL := 4) (ret := (some (.array (.object "java/lang/Object")))) (by decide) rfl ?_
  intro p e s m args below meth c s₁ B hml hv
  obtain ⟨rfl, rfl, C, hw, hA, hr, hlocks, hE⟩ := e_start B hml hv
  have hx := C.1
  have hb := C.2.1
  have hl := lv_entry ([.ref h, .int (nI 1)]) (n := 4) (Nat.le_of_ble_eq_true rfl)
  rw [lg_entry_eq]
  generalize (lg_sl ([.ref h, .int (nI 1)]) ++ List.replicate (4 - (lg_sl ([.ref h, .int (nI 1)])).length) Slot.unset).toArray = ls at hl ⊢
  have hl : lv_has ls 4 [(0, .ref h), (1, .int (nI 1))] := hl
  have hin_RJx4a65c : ∀ w ∈ u_ws RJx4a65c TJx4a65c 3, w ∈ (Cond.code yJx4a65c_grow_92f84 cJx4a65c_grow_92f84 4 (some (.array (.object "java/lang/Object"))) :: lwU) := fun w h => mU (sub_RJx4a65c w h)
  refine lv_aload_n hx hb dJx4a65c_grow_92f84_0 rfl (lv_at hl 0 rfl) ?_
  refine p_get C hw (ci := 0) (Cn := RJx4a65c) (T := TJx4a65c) (N := 3) hL_h hf_h rfl hin_RJx4a65c 1 (by decide) (mU mw_98) rfl rfl dJx4a65c_grow_92f84_1 ?_
  refine va_tlen hx hb hE.2.1 hw.2.2 (v := nI 0) rfl dJx4a65c_grow_92f84_4 ?_
  refine lv_istore_n (lv' := [(2, .int (nI 0)), (0, .ref h), (1, .int (nI 1))]) hx hb dJx4a65c_grow_92f84_5 rfl hl (by decide) rfl (fun ls hl => ?_)
  refine lv_iload_n hx hb dJx4a65c_grow_92f84_6 rfl (lv_at hl 0 rfl) ?_
  refine n_if_gt (tgt := 20) hx hb (by first | decide | omega) dJx4a65c_grow_92f84_7 (by decide) (fun h_7 => ?_) (fun h_7 => ?_)
  · exact absurd h_7 (by first | decide | omega)
  · skip
    refine lv_aload_n hx hb dJx4a65c_grow_92f84_10 rfl (lv_at hl 1 rfl) ?_
    refine p_get C hw (ci := 0) (Cn := RJx4a65c) (T := TJx4a65c) (N := 3) hL_h hf_h rfl hin_RJx4a65c 1 (by decide) (mU mw_98) rfl rfl dJx4a65c_grow_92f84_11 ?_
    refine va_gets hx hb hE.1 hw.2.2 C.2.2.2.1 (C.2.2.2.2.1 _ (mU mw_97)) (fun _ h => h) dJx4a65c_grow_92f84_14 ?_
    refine lv_acmp_eq (tgt := 45) (rx := some ed) (ry := some ed) (rest := []) hx hb dJx4a65c_grow_92f84_17 (by decide) (fun h_17 => ?_) (fun h_17 => ?_)
    · skip
      refine lv_aload_n hx hb dJx4a65c_grow_92f84_45 rfl (lv_at hl 1 rfl) ?_
      refine lv_bipush (v := nI 10) hx hb dJx4a65c_grow_92f84_46 (by decide) ?_
      refine lv_iload_n hx hb dJx4a65c_grow_92f84_48 rfl (lv_at hl 2 rfl) ?_
      refine n_mmax C hl.1.symm (index := 79) (mU mw_438) (mU mw_56) (mU mw_57) (mU mw_58) (Nat.le_of_ble_eq_true rfl) (Nat.le_of_ble_eq_true rfl) (Nat.le_of_ble_eq_true rfl) (Nat.le_of_ble_eq_true rfl) (by first | decide | omega) (by first | decide | omega) dJx4a65c_grow_92f84_49 ?_
      refine n_ren (b := 10) (by decide) ?_
      refine p_newq C hw hA (mU mw_439) C.aoO 4 rfl (n := 10) (by first | decide | omega) (Nat.le_of_ble_eq_true rfl) (Nat.le_of_ble_eq_true rfl) dJx4a65c_grow_92f84_52 (fun ea H hq_ea hw => ?_)
      obtain ⟨S1, hS1⟩ : ∃ z, z = pnew S ea (aQ (cy 4) 10 (fun _ => none)) := ⟨_, rfl⟩
      replace hw : pW D (pA S s.heap.size) s.heap S1 H [] := by rw [hS1]; exact hw
      have hL2 : ea ∈ S1.1 := by rw [hS1]; exact List.mem_append_right _ List.mem_cons_self
      have hf3 : S1.2 ea = aQ (cy 4) 10 (fun _ => none) := by rw [hS1]; exact pnew_s
      refine lv_dup_x1 hx hb dJx4a65c_grow_92f84_55 rfl rfl ?_
      have hL4 : h ∈ S1.1 := by rw [hS1]; exact List.mem_append_left _ hL_h
      have hf5 : S1.2 h = .inr (0, [.int (nI a0), .ref ed, .int (nI 0)]) := by rw [hS1]; exact (pnew_n (fun z : h = ea => hq_ea (by rw [← z]; exact hL_h))).trans hf_h
      refine p_put C hw (ci := 0) (Cn := RJx4a65c) (T := TJx4a65c) (N := 3) tyJx4a65c tyJx4a65c_ok nmJx4a65c hL4 hf5 rfl hin_RJx4a65c 1 (by decide) (mU mw_98) rfl rfl rfl rfl rfl (by simp) dJx4a65c_grow_92f84_56 rfl (fun H locs hw => ?_)
      obtain ⟨S6, hS6⟩ : ∃ z, z = pup S1 h (.inr (0, [.int (nI a0), .ref ea, .int (nI 0)])) := ⟨_, rfl⟩
      replace hw : pW D (pA S s.heap.size) s.heap S6 H locs := by rw [hS6]; exact hw
      have hL7 : h ∈ S6.1 := by rw [hS6]; exact hL4
      have hf8 : S6.2 h = .inr (0, [.int (nI a0), .ref ea, .int (nI 0)]) := by rw [hS6]; exact pup_s
      have hL9 : ea ∈ S6.1 := by rw [hS6]; exact hL2
      have hf10 : S6.2 ea = aQ (cy 4) 10 (fun _ => none) := by rw [hS6]; exact (pup_n (fun z : ea = h => hq_ea (by rw [z]; exact hL_h))).trans hf3
      exact (p_qret C hw (v := some ea) (⟨ea, rfl, (by simp only [hS6, hS1, pup, pnew, List.append_nil, List.append_assoc, List.cons_append, List.nil_append]), (fun a_ ha_ hn_0 => ((show S6.2 a_ = S1.2 a_ from by rw [hS6]; exact pup_n hn_0).trans (show S1.2 a_ = S.2 a_ from by rw [hS1]; exact pnew_n (fun z : a_ = ea => hq_ea (by rw [← z]; exact ha_))))), hf8, hf10⟩) hr (by first | exact Or.inl ⟨_, rfl⟩ | exact Or.inr ⟨_, rfl⟩) hlocks dJx4a65c_grow_92f84_59)
    · exact absurd rfl h_17

theorem hde_Jx4a65c_grow_d5877_V_0 : yJx4a65c_grow_92f84.cls = RJx4a65c ∧ yJx4a65c_grow_92f84.cls ≠ "java/lang/invoke/MethodHandle" ∧ yJx4a65c_grow_92f84.cls ≠ "java/lang/invoke/VarHandle" ∧ (parseMethodDescriptor yJx4a65c_grow_92f84.desc).map (fun d => d.parameters.length) = some 1 := by decide +kernel
set_option maxHeartbeats 4000000 in
set_option maxRecDepth 100000 in
theorem e_Jx4a65c_grow_d5877 (l : Launch) (D : va_G) (cy : Nat → ClassId) (ed : Nat) (S : pS) (sz : Nat) (h : Nat) (a0 : Nat) (hL_h : h ∈ S.1) (hf_h : S.2 h = .inr (0, [.int (nI a0), .ref ed, .int (nI 0)]))  : Met l yJx4a65c_grow_d5877 (Cond.code yJx4a65c_grow_d5877 cJx4a65c_grow_d5877 1 (some (.array (.object "java/lang/Object"))) :: lwU) ({ frames := 2, cells := 1, slots := 10, locals := 44 }) (ePc D cy ed S sz [.ref h]) (pQq D cy S sz (fun r S' => ∃ (ea : Nat), r = some ea ∧ S'.1 = S.1 ++ [ea] ∧ (∀ a_, a_ ∈ S.1 → a_ ≠ h → S'.2 a_ = S.2 a_) ∧ S'.2 h = .inr (0, [.int (nI a0), .ref ea, .int (nI 0)]) ∧ S'.2 ea = aQ (cy 4) 10 (fun _ => none))) 1 10 (pA S sz) := by
  refine Met.ofW (cc := cJx4a65c_grow_d5877) (maxL := 1) (ret := (some (.array (.object "java/lang/Object")))) (by decide) rfl ?_
  intro p e s m args below meth c s₁ B hml hv
  obtain ⟨rfl, rfl, C, hw, hA, hr, hlocks, hE⟩ := e_start B hml hv
  have hx := C.1
  have hb := C.2.1
  have hl := lv_entry ([.ref h]) (n := 1) (Nat.le_of_ble_eq_true rfl)
  rw [lg_entry_eq]
  generalize (lg_sl ([.ref h]) ++ List.replicate (1 - (lg_sl ([.ref h])).length) Slot.unset).toArray = ls at hl ⊢
  have hl : lv_has ls 1 [(0, .ref h)] := hl
  have hin_RJx4a65c : ∀ w ∈ u_ws RJx4a65c TJx4a65c 3, w ∈ (Cond.code yJx4a65c_grow_d5877 cJx4a65c_grow_d5877 1 (some (.array (.object "java/lang/Object"))) :: lwU) := fun w h => mU (sub_RJx4a65c w h)
  refine lv_aload_n hx hb dJx4a65c_grow_d5877_0 rfl (lv_at hl 0 rfl) ?_
  refine lv_aload_n hx hb dJx4a65c_grow_d5877_1 rfl (lv_at hl 0 rfl) ?_
  refine p_get C hw (ci := 0) (Cn := RJx4a65c) (T := TJx4a65c) (N := 3) hL_h hf_h rfl hin_RJx4a65c 2 (by decide) (mU mw_425) rfl rfl dJx4a65c_grow_d5877_2 ?_
  refine lv_iconst (v := nI 1) hx hb dJx4a65c_grow_d5877_5 (by decide) ?_
  refine n_iadd hx hb dJx4a65c_grow_d5877_6 ?_
  refine n_ren (b := 1) (by first | rfl | omega | simp) ?_
  refine p_callq (va_runV (As := [.int (nI 1)]) (rest := []) C.fix (e_Jx4a65c_grow_92f84 l D cy ed S s.heap.size h a0 hL_h hf_h ) (cwV 1 C.2.2.2.2.1 (gU_V mw_434 mw_435 mw_436 mw_89 (subU mw_437)) rfl rfl rfl hde_Jx4a65c_grow_d5877_V_0 ⟨Nat.le_of_ble_eq_true rfl, Nat.le_of_ble_eq_true rfl⟩) (e_preV C hw hA hE hL_h hf_h rfl) rfl rfl hl.1 rfl (lv_room (Nat.le_of_ble_eq_true rfl)) dJx4a65c_grow_d5877_7 ⟨(Nat.le_of_ble_eq_true rfl), (Nat.le_of_ble_eq_true rfl)⟩) hw hA (fun r2 S1 H locs hpost hw => ?_)
  obtain ⟨ea, hr_, hS3, hfr4, hf5, hf6⟩ := hpost
  subst hr_
  have hq7 : ea ∉ S.1 := p_fresh hw hS3 0 rfl
  have hL8 : h ∈ S1.1 := by rw [hS3]; exact List.mem_append_left _ hL_h
  have hL9 : ea ∈ S1.1 := by rw [hS3]; exact List.mem_append_right _ (List.mem_of_getElem? (i := 0) rfl)
  exact (p_qret C hw (v := some ea) (⟨ea, rfl, (by simp only [hS3, pup, pnew, List.append_nil, List.append_assoc, List.cons_append, List.nil_append]), (fun a_ ha_ hn_0 => (hfr4 a_ ha_ hn_0)), hf5, hf6⟩) hr (by first | exact Or.inl ⟨_, rfl⟩ | exact Or.inr ⟨_, rfl⟩) hlocks dJx4a65c_grow_d5877_10)

theorem hde_Jx4a65c_add_72be81I_V_0 : yJx4a65c_grow_d5877.cls = RJx4a65c ∧ yJx4a65c_grow_d5877.cls ≠ "java/lang/invoke/MethodHandle" ∧ yJx4a65c_grow_d5877.cls ≠ "java/lang/invoke/VarHandle" ∧ (parseMethodDescriptor yJx4a65c_grow_d5877.desc).map (fun d => d.parameters.length) = some 0 := by decide +kernel
set_option maxHeartbeats 4000000 in
set_option maxRecDepth 100000 in
theorem e_Jx4a65c_add_72be81I (l : Launch) (D : va_G) (cy : Nat → ClassId) (ed : Nat) (S : pS) (sz : Nat) (h : Nat) (v : Nat) (a0 : Nat) (vn : Nat) (vg : Nat → Int32) (hL_h : h ∈ S.1) (hf_h : S.2 h = .inr (0, [.int (nI a0), .ref ed, .int (nI 0)])) (hL_v : v ∈ S.1) (hf_v : S.2 v = .inl (cy 0, vn, .inl vg))  : Met l yJx4a65c_add_72be8 (Cond.code yJx4a65c_add_72be8 cJx4a65c_add_72be8 4 none :: lwU) ({ frames := 3, cells := 1, slots := 10, locals := 64 }) (ePc D cy ed S sz [.ref h, .ref v, .ref ed, .int (nI 0)]) (pQv D cy S sz (fun S' => ∃ (ea : Nat), S'.1 = S.1 ++ [ea] ∧ (∀ a_, a_ ∈ S.1 → a_ ≠ h → S'.2 a_ = S.2 a_) ∧ S'.2 h = .inr (0, [.int (nI a0), .ref ea, .int (nI 1)]) ∧ S'.2 ea = aQ (cy 4) 10 (va_up (fun _ => none) 0 (some v)))) 1 10 (pA S sz) := by
  refine Met.ofW (cc := cJx4a65c_add_72be8) (maxL := 4) (ret := none) (by decide) rfl ?_
  intro p e s m args below meth c s₁ B hml hv
  obtain ⟨rfl, rfl, C, hw, hA, hr, hlocks, hE⟩ := e_start B hml hv
  have hx := C.1
  have hb := C.2.1
  have hl := lv_entry ([.ref h, .ref v, .ref ed, .int (nI 0)]) (n := 4) (Nat.le_of_ble_eq_true rfl)
  rw [lg_entry_eq]
  generalize (lg_sl ([.ref h, .ref v, .ref ed, .int (nI 0)]) ++ List.replicate (4 - (lg_sl ([.ref h, .ref v, .ref ed, .int (nI 0)])).length) Slot.unset).toArray = ls at hl ⊢
  have hl : lv_has ls 4 [(0, .ref h), (1, .ref v), (2, .ref ed), (3, .int (nI 0))] := hl
  have hin_RJx4a65c : ∀ w ∈ u_ws RJx4a65c TJx4a65c 3, w ∈ (Cond.code yJx4a65c_add_72be8 cJx4a65c_add_72be8 4 none :: lwU) := fun w h => mU (sub_RJx4a65c w h)
  refine lv_iload_n hx hb dJx4a65c_add_72be8_0 rfl (lv_at hl 3 rfl) ?_
  refine lv_aload_n hx hb dJx4a65c_add_72be8_1 rfl (lv_at hl 2 rfl) ?_
  refine va_tlen hx hb hE.2.1 hw.2.2 (v := nI 0) rfl dJx4a65c_add_72be8_2 ?_
  refine n_icmp_ne (tgt := 11) hx hb (by first | decide | omega) (by first | decide | omega) dJx4a65c_add_72be8_3 (by decide) (fun h_3 => ?_) (fun h_3 => ?_)
  · exact absurd h_3 (by first | decide | omega)
  · skip
    refine lv_aload_n hx hb dJx4a65c_add_72be8_6 rfl (lv_at hl 0 rfl) ?_
    refine p_callq (va_runV (As := []) (rest := []) C.fix (e_Jx4a65c_grow_d5877 l D cy ed S s.heap.size h a0 hL_h hf_h ) (cwV 0 C.2.2.2.2.1 (gU_V mw_430 mw_431 mw_432 mw_89 (subU mw_433)) rfl rfl rfl hde_Jx4a65c_add_72be81I_V_0 ⟨Nat.le_of_ble_eq_true rfl, Nat.le_of_ble_eq_true rfl⟩) (e_preV C hw hA hE hL_h hf_h rfl) rfl rfl hl.1 rfl (lv_room (Nat.le_of_ble_eq_true rfl)) dJx4a65c_add_72be8_7 ⟨(Nat.le_of_ble_eq_true rfl), (Nat.le_of_ble_eq_true rfl)⟩) hw hA (fun r2 S1 H locs hpost hw => ?_)
    obtain ⟨ea, hr_, hS3, hfr4, hf5, hf6⟩ := hpost
    subst hr_
    have hq7 : ea ∉ S.1 := p_fresh hw hS3 0 rfl
    have hL8 : h ∈ S1.1 := by rw [hS3]; exact List.mem_append_left _ hL_h
    have hL9 : ea ∈ S1.1 := by rw [hS3]; exact List.mem_append_right _ (List.mem_of_getElem? (i := 0) rfl)
    refine lv_astore_n (lv' := [(2, .ref ea), (0, .ref h), (1, .ref v), (3, .int (nI 0))]) hx hb dJx4a65c_add_72be8_10 rfl hl (by decide) rfl (fun ls hl => ?_)
    refine lv_aload_n hx hb dJx4a65c_add_72be8_11 rfl (lv_at hl 0 rfl) ?_
    refine lv_iload_n hx hb dJx4a65c_add_72be8_12 rfl (lv_at hl 3 rfl) ?_
    refine lv_aload_n hx hb dJx4a65c_add_72be8_13 rfl (lv_at hl 2 rfl) ?_
    have hL10 : v ∈ S1.1 := by rw [hS3]; exact List.mem_append_left _ hL_v
    have hf11 : S1.2 v = .inl (cy 0, vn, .inl vg) := (hfr4 v hL_v (ne_cells hf_v hf_h (by nofun))).trans hf_v
    refine p_astI C hw 4 rfl hL9 hf6 hL10 hf11 (by first | decide | omega) (by first | decide | omega) dJx4a65c_add_72be8_14 (fun H locs hw => ?_)
    obtain ⟨S12, hS12⟩ : ∃ z, z = pup S1 ea (aQ (cy 4) 10 (va_up (fun _ => none) 0 (some v))) := ⟨_, rfl⟩
    replace hw : pW D (pA S s.heap.size) s.heap S12 H locs := by rw [hS12]; exact hw
    have hL13 : ea ∈ S12.1 := by rw [hS12]; exact hL9
    have hf14 : S12.2 ea = aQ (cy 4) 10 (va_up (fun _ => none) 0 (some v)) := by rw [hS12]; exact pup_s
    refine lv_aload_n hx hb dJx4a65c_add_72be8_15 rfl (lv_at hl 1 rfl) ?_
    refine lv_iload_n hx hb dJx4a65c_add_72be8_16 rfl (lv_at hl 3 rfl) ?_
    refine lv_iconst (v := nI 1) hx hb dJx4a65c_add_72be8_17 (by decide) ?_
    refine n_iadd hx hb dJx4a65c_add_72be8_18 ?_
    refine n_ren (b := 1) (by first | rfl | omega | simp) ?_
    have hL15 : h ∈ S12.1 := by rw [hS12]; exact hL8
    have hf16 : S12.2 h = .inr (0, [.int (nI a0), .ref ea, .int (nI 0)]) := by rw [hS12]; exact (pup_n (fun z : h = ea => hq7 (by rw [← z]; exact hL_h))).trans hf5
    refine p_put C hw (ci := 0) (Cn := RJx4a65c) (T := TJx4a65c) (N := 3) tyJx4a65c tyJx4a65c_ok nmJx4a65c hL15 hf16 rfl hin_RJx4a65c 2 (by decide) (mU mw_425) rfl rfl rfl rfl rfl (by simp) dJx4a65c_add_72be8_19 rfl (fun H locs hw => ?_)
    obtain ⟨S17, hS17⟩ : ∃ z, z = pup S12 h (.inr (0, [.int (nI a0), .ref ea, .int (nI 1)])) := ⟨_, rfl⟩
    replace hw : pW D (pA S s.heap.size) s.heap S17 H locs := by rw [hS17]; exact hw
    have hL18 : h ∈ S17.1 := by rw [hS17]; exact hL15
    have hf19 : S17.2 h = .inr (0, [.int (nI a0), .ref ea, .int (nI 1)]) := by rw [hS17]; exact pup_s
    have hL20 : ea ∈ S17.1 := by rw [hS17]; exact hL13
    have hf21 : S17.2 ea = aQ (cy 4) 10 (va_up (fun _ => none) 0 (some v)) := by rw [hS17]; exact (pup_n (fun z : ea = h => hq7 (by rw [z]; exact hL_h))).trans hf14
    exact (p_vret C hw (⟨ea, (by simp only [hS17, hS12, hS3, pup, pnew, List.append_nil, List.append_assoc, List.cons_append, List.nil_append]), (fun a_ ha_ hn_0 => ((show S17.2 a_ = S12.2 a_ from by rw [hS17]; exact pup_n hn_0).trans ((show S12.2 a_ = S1.2 a_ from by rw [hS12]; exact pup_n (fun z : a_ = ea => hq7 (by rw [← z]; exact ha_))).trans (hfr4 a_ ha_ hn_0)))), hf19, hf21⟩) hr hlocks dJx4a65c_add_72be8_22)

theorem hde_Jx4a65c_add_9ea2d1I_V_0 : yJx4a65c_add_72be8.cls = RJx4a65c ∧ yJx4a65c_add_72be8.cls ≠ "java/lang/invoke/MethodHandle" ∧ yJx4a65c_add_72be8.cls ≠ "java/lang/invoke/VarHandle" ∧ (parseMethodDescriptor yJx4a65c_add_72be8.desc).map (fun d => d.parameters.length) = some 3 := by decide +kernel
set_option maxHeartbeats 4000000 in
set_option maxRecDepth 100000 in
theorem e_Jx4a65c_add_9ea2d1I (l : Launch) (D : va_G) (cy : Nat → ClassId) (ed : Nat) (S : pS) (sz : Nat) (h : Nat) (v : Nat) (vn : Nat) (vg : Nat → Int32) (hL_h : h ∈ S.1) (hf_h : S.2 h = .inr (0, [.int (nI 0), .ref ed, .int (nI 0)])) (hL_v : v ∈ S.1) (hf_v : S.2 v = .inl (cy 0, vn, .inl vg))  : Met l yJx4a65c_add_9ea2d (Cond.code yJx4a65c_add_9ea2d cJx4a65c_add_9ea2d 2 (some .boolean) :: lwU) ({ frames := 4, cells := 1, slots := 10, locals := 87 }) (ePc D cy ed S sz [.ref h, .ref v]) (pQi D cy S sz (fun r S' => ∃ (ea : Nat), r = (nI 1) ∧ S'.1 = S.1 ++ [ea] ∧ (∀ a_, a_ ∈ S.1 → a_ ≠ h → S'.2 a_ = S.2 a_) ∧ S'.2 h = .inr (0, [.int (nI 1), .ref ea, .int (nI 1)]) ∧ S'.2 ea = aQ (cy 4) 10 (va_up (fun _ => none) 0 (some v)))) 1 10 (pA S sz) := by
  refine Met.ofW (cc := cJx4a65c_add_9ea2d) (maxL := 2) (ret := (some .boolean)) (by decide) rfl ?_
  intro p e s m args below meth c s₁ B hml hv
  obtain ⟨rfl, rfl, C, hw, hA, hr, hlocks, hE⟩ := e_start B hml hv
  have hx := C.1
  have hb := C.2.1
  have hl := lv_entry ([.ref h, .ref v]) (n := 2) (Nat.le_of_ble_eq_true rfl)
  rw [lg_entry_eq]
  generalize (lg_sl ([.ref h, .ref v]) ++ List.replicate (2 - (lg_sl ([.ref h, .ref v])).length) Slot.unset).toArray = ls at hl ⊢
  have hl : lv_has ls 2 [(0, .ref h), (1, .ref v)] := hl
  have hin_RJx4a65c : ∀ w ∈ u_ws RJx4a65c TJx4a65c 3, w ∈ (Cond.code yJx4a65c_add_9ea2d cJx4a65c_add_9ea2d 2 (some .boolean) :: lwU) := fun w h => mU (sub_RJx4a65c w h)
  refine lv_aload_n hx hb dJx4a65c_add_9ea2d_0 rfl (lv_at hl 0 rfl) ?_
  refine lv_dup hx hb dJx4a65c_add_9ea2d_1 rfl ?_
  refine p_getS C hw (ci := 0) (Cn := RJx4a65c) (T := TJx4a65c) (N := 3) hL_h hf_h rfl hin_RJx4a65c 0 (by decide) (mU mw_423) (fun x9 h9 => u_same (C.2.2.2.2.1 _ (mU mw_424)) x9 h9) rfl dJx4a65c_add_9ea2d_2 ?_
  refine lv_iconst (v := nI 1) hx hb dJx4a65c_add_9ea2d_5 (by decide) ?_
  refine n_iadd hx hb dJx4a65c_add_9ea2d_6 ?_
  refine n_ren (b := 1) (by first | rfl | omega | simp) ?_
  refine p_putS C hw (ci := 0) (Cn := RJx4a65c) (T := TJx4a65c) (N := 3) tyJx4a65c tyJx4a65c_ok nmJx4a65c hL_h hf_h rfl hin_RJx4a65c 0 (by decide) (mU mw_423) (fun x9 h9 => u_same (C.2.2.2.2.1 _ (mU mw_424)) x9 h9) rfl rfl rfl rfl (by simp) dJx4a65c_add_9ea2d_7 rfl (fun H locs hw => ?_)
  obtain ⟨S1, hS1⟩ : ∃ z, z = pup S h (.inr (0, [.int (nI 1), .ref ed, .int (nI 0)])) := ⟨_, rfl⟩
  replace hw : pW D (pA S s.heap.size) s.heap S1 H locs := by rw [hS1]; exact hw
  have hL2 : h ∈ S1.1 := by rw [hS1]; exact hL_h
  have hf3 : S1.2 h = .inr (0, [.int (nI 1), .ref ed, .int (nI 0)]) := by rw [hS1]; exact pup_s
  refine lv_aload_n hx hb dJx4a65c_add_9ea2d_10 rfl (lv_at hl 0 rfl) ?_
  refine lv_aload_n hx hb dJx4a65c_add_9ea2d_11 rfl (lv_at hl 1 rfl) ?_
  refine lv_aload_n hx hb dJx4a65c_add_9ea2d_12 rfl (lv_at hl 0 rfl) ?_
  refine p_get C hw (ci := 0) (Cn := RJx4a65c) (T := TJx4a65c) (N := 3) hL2 hf3 rfl hin_RJx4a65c 1 (by decide) (mU mw_98) rfl rfl dJx4a65c_add_9ea2d_13 ?_
  refine lv_aload_n hx hb dJx4a65c_add_9ea2d_16 rfl (lv_at hl 0 rfl) ?_
  refine p_get C hw (ci := 0) (Cn := RJx4a65c) (T := TJx4a65c) (N := 3) hL2 hf3 rfl hin_RJx4a65c 2 (by decide) (mU mw_425) rfl rfl dJx4a65c_add_9ea2d_17 ?_
  have hL4 : v ∈ S1.1 := by rw [hS1]; exact hL_v
  have hf5 : S1.2 v = .inl (cy 0, vn, .inl vg) := by rw [hS1]; exact (pup_n (ne_cells hf_v hf_h (by nofun))).trans hf_v
  refine p_callv (va_runV (As := [.ref v, .ref ed, .int (nI 0)]) (rest := []) C.fix (e_Jx4a65c_add_72be81I l D cy ed S1 H.size h v 1 vn vg hL2 hf3 hL4 hf5 ) (cwV 3 C.2.2.2.2.1 (gU_V mw_426 mw_427 mw_428 mw_89 (subU mw_429)) rfl rfl rfl hde_Jx4a65c_add_9ea2d1I_V_0 ⟨Nat.le_of_ble_eq_true rfl, Nat.le_of_ble_eq_true rfl⟩) (e_preV C hw hA hE hL2 hf3 rfl) rfl rfl hl.1 rfl (lv_room (Nat.le_of_ble_eq_true rfl)) dJx4a65c_add_9ea2d_20 ⟨(Nat.le_of_ble_eq_true rfl), (Nat.le_of_ble_eq_true rfl)⟩) hw hA (fun S6 H locs hpost hw => ?_)
  obtain ⟨ea, hS8, hfr9, hf10, hf11⟩ := hpost
  have hq12 : ea ∉ S1.1 := p_fresh hw hS8 0 rfl
  have hL13 : h ∈ S6.1 := by rw [hS8]; exact List.mem_append_left _ hL2
  have hL14 : ea ∈ S6.1 := by rw [hS8]; exact List.mem_append_right _ (List.mem_of_getElem? (i := 0) rfl)
  refine lv_iconst (v := nI 1) hx hb dJx4a65c_add_9ea2d_23 (by decide) ?_
  exact (p_zret C hw (⟨ea, rfl, (by simp only [hS8, hS1, pup, pnew, List.append_nil, List.append_assoc, List.cons_append, List.nil_append]), (fun a_ ha_ hn_0 => ((hfr9 a_ (show a_ ∈ S1.1 from by rw [hS1]; exact ha_) hn_0).trans (show S1.2 a_ = S.2 a_ from by rw [hS1]; exact pup_n hn_0))), hf10, hf11⟩) hr rfl hlocks dJx4a65c_add_9ea2d_24)

theorem hde_Jx4a65c_add_72be81S_V_0 : yJx4a65c_grow_d5877.cls = RJx4a65c ∧ yJx4a65c_grow_d5877.cls ≠ "java/lang/invoke/MethodHandle" ∧ yJx4a65c_grow_d5877.cls ≠ "java/lang/invoke/VarHandle" ∧ (parseMethodDescriptor yJx4a65c_grow_d5877.desc).map (fun d => d.parameters.length) = some 0 := by decide +kernel
set_option maxHeartbeats 4000000 in
set_option maxRecDepth 100000 in
theorem e_Jx4a65c_add_72be81S (l : Launch) (D : va_G) (cy : Nat → ClassId) (ed : Nat) (S : pS) (sz : Nat) (h : Nat) (v : Nat) (vr : Nat) (a0 : Nat) (w0 : Nat) (w1 : Nat) (w2 : Nat) (hL_h : h ∈ S.1) (hf_h : S.2 h = .inr (0, [.int (nI a0), .ref ed, .int (nI 0)])) (hL_v : v ∈ S.1) (hf_v : S.2 v = .inr (12, [.int (nI w0), .int (nI w1), .int (nI w2), .ref vr]))  : Met l yJx4a65c_add_72be8 (Cond.code yJx4a65c_add_72be8 cJx4a65c_add_72be8 4 none :: lwU) ({ frames := 3, cells := 1, slots := 10, locals := 64 }) (ePc D cy ed S sz [.ref h, .ref v, .ref ed, .int (nI 0)]) (pQv D cy S sz (fun S' => ∃ (ea : Nat), S'.1 = S.1 ++ [ea] ∧ (∀ a_, a_ ∈ S.1 → a_ ≠ h → S'.2 a_ = S.2 a_) ∧ S'.2 h = .inr (0, [.int (nI a0), .ref ea, .int (nI 1)]) ∧ S'.2 ea = aQ (cy 4) 10 (va_up (fun _ => none) 0 (some v)))) 1 10 (pA S sz) := by
  refine Met.ofW (cc := cJx4a65c_add_72be8) (maxL := 4) (ret := none) (by decide) rfl ?_
  intro p e s m args below meth c s₁ B hml hv
  obtain ⟨rfl, rfl, C, hw, hA, hr, hlocks, hE⟩ := e_start B hml hv
  have hx := C.1
  have hb := C.2.1
  have hl := lv_entry ([.ref h, .ref v, .ref ed, .int (nI 0)]) (n := 4) (Nat.le_of_ble_eq_true rfl)
  rw [lg_entry_eq]
  generalize (lg_sl ([.ref h, .ref v, .ref ed, .int (nI 0)]) ++ List.replicate (4 - (lg_sl ([.ref h, .ref v, .ref ed, .int (nI 0)])).length) Slot.unset).toArray = ls at hl ⊢
  have hl : lv_has ls 4 [(0, .ref h), (1, .ref v), (2, .ref ed), (3, .int (nI 0))] := hl
  have hin_RJx4a65c : ∀ w ∈ u_ws RJx4a65c TJx4a65c 3, w ∈ (Cond.code yJx4a65c_add_72be8 cJx4a65c_add_72be8 4 none :: lwU) := fun w h => mU (sub_RJx4a65c w h)
  refine lv_iload_n hx hb dJx4a65c_add_72be8_0 rfl (lv_at hl 3 rfl) ?_
  refine lv_aload_n hx hb dJx4a65c_add_72be8_1 rfl (lv_at hl 2 rfl) ?_
  refine va_tlen hx hb hE.2.1 hw.2.2 (v := nI 0) rfl dJx4a65c_add_72be8_2 ?_
  refine n_icmp_ne (tgt := 11) hx hb (by first | decide | omega) (by first | decide | omega) dJx4a65c_add_72be8_3 (by decide) (fun h_3 => ?_) (fun h_3 => ?_)
  · exact absurd h_3 (by first | decide | omega)
  · skip
    refine lv_aload_n hx hb dJx4a65c_add_72be8_6 rfl (lv_at hl 0 rfl) ?_
    refine p_callq (va_runV (As := []) (rest := []) C.fix (e_Jx4a65c_grow_d5877 l D cy ed S s.heap.size h a0 hL_h hf_h ) (cwV 0 C.2.2.2.2.1 (gU_V mw_430 mw_431 mw_432 mw_89 (subU mw_433)) rfl rfl rfl hde_Jx4a65c_add_72be81S_V_0 ⟨Nat.le_of_ble_eq_true rfl, Nat.le_of_ble_eq_true rfl⟩) (e_preV C hw hA hE hL_h hf_h rfl) rfl rfl hl.1 rfl (lv_room (Nat.le_of_ble_eq_true rfl)) dJx4a65c_add_72be8_7 ⟨(Nat.le_of_ble_eq_true rfl), (Nat.le_of_ble_eq_true rfl)⟩) hw hA (fun r2 S1 H locs hpost hw => ?_)
    obtain ⟨ea, hr_, hS3, hfr4, hf5, hf6⟩ := hpost
    subst hr_
    have hq7 : ea ∉ S.1 := p_fresh hw hS3 0 rfl
    have hL8 : h ∈ S1.1 := by rw [hS3]; exact List.mem_append_left _ hL_h
    have hL9 : ea ∈ S1.1 := by rw [hS3]; exact List.mem_append_right _ (List.mem_of_getElem? (i := 0) rfl)
    refine lv_astore_n (lv' := [(2, .ref ea), (0, .ref h), (1, .ref v), (3, .int (nI 0))]) hx hb dJx4a65c_add_72be8_10 rfl hl (by decide) rfl (fun ls hl => ?_)
    refine lv_aload_n hx hb dJx4a65c_add_72be8_11 rfl (lv_at hl 0 rfl) ?_
    refine lv_iload_n hx hb dJx4a65c_add_72be8_12 rfl (lv_at hl 3 rfl) ?_
    refine lv_aload_n hx hb dJx4a65c_add_72be8_13 rfl (lv_at hl 2 rfl) ?_
    have hL10 : v ∈ S1.1 := by rw [hS3]; exact List.mem_append_left _ hL_v
    have hf11 : S1.2 v = .inr (12, [.int (nI w0), .int (nI w1), .int (nI w2), .ref vr]) := (hfr4 v hL_v (ne_cells hf_v hf_h (by nofun))).trans hf_v
    refine p_astqO C hw 4 rfl hL9 hf6 hL10 hf11 rfl (C.cas 0 (RX12, "java/lang/Object") rfl) (by first | decide | omega) (by first | decide | omega) dJx4a65c_add_72be8_14 (fun H locs hw => ?_)
    obtain ⟨S12, hS12⟩ : ∃ z, z = pup S1 ea (aQ (cy 4) 10 (va_up (fun _ => none) 0 (some v))) := ⟨_, rfl⟩
    replace hw : pW D (pA S s.heap.size) s.heap S12 H locs := by rw [hS12]; exact hw
    have hL13 : ea ∈ S12.1 := by rw [hS12]; exact hL9
    have hf14 : S12.2 ea = aQ (cy 4) 10 (va_up (fun _ => none) 0 (some v)) := by rw [hS12]; exact pup_s
    refine lv_aload_n hx hb dJx4a65c_add_72be8_15 rfl (lv_at hl 1 rfl) ?_
    refine lv_iload_n hx hb dJx4a65c_add_72be8_16 rfl (lv_at hl 3 rfl) ?_
    refine lv_iconst (v := nI 1) hx hb dJx4a65c_add_72be8_17 (by decide) ?_
    refine n_iadd hx hb dJx4a65c_add_72be8_18 ?_
    refine n_ren (b := 1) (by first | rfl | omega | simp) ?_
    have hL15 : h ∈ S12.1 := by rw [hS12]; exact hL8
    have hf16 : S12.2 h = .inr (0, [.int (nI a0), .ref ea, .int (nI 0)]) := by rw [hS12]; exact (pup_n (fun z : h = ea => hq7 (by rw [← z]; exact hL_h))).trans hf5
    refine p_put C hw (ci := 0) (Cn := RJx4a65c) (T := TJx4a65c) (N := 3) tyJx4a65c tyJx4a65c_ok nmJx4a65c hL15 hf16 rfl hin_RJx4a65c 2 (by decide) (mU mw_425) rfl rfl rfl rfl rfl (by simp) dJx4a65c_add_72be8_19 rfl (fun H locs hw => ?_)
    obtain ⟨S17, hS17⟩ : ∃ z, z = pup S12 h (.inr (0, [.int (nI a0), .ref ea, .int (nI 1)])) := ⟨_, rfl⟩
    replace hw : pW D (pA S s.heap.size) s.heap S17 H locs := by rw [hS17]; exact hw
    have hL18 : h ∈ S17.1 := by rw [hS17]; exact hL15
    have hf19 : S17.2 h = .inr (0, [.int (nI a0), .ref ea, .int (nI 1)]) := by rw [hS17]; exact pup_s
    have hL20 : ea ∈ S17.1 := by rw [hS17]; exact hL13
    have hf21 : S17.2 ea = aQ (cy 4) 10 (va_up (fun _ => none) 0 (some v)) := by rw [hS17]; exact (pup_n (fun z : ea = h => hq7 (by rw [z]; exact hL_h))).trans hf14
    exact (p_vret C hw (⟨ea, (by simp only [hS17, hS12, hS3, pup, pnew, List.append_nil, List.append_assoc, List.cons_append, List.nil_append]), (fun a_ ha_ hn_0 => ((show S17.2 a_ = S12.2 a_ from by rw [hS17]; exact pup_n hn_0).trans ((show S12.2 a_ = S1.2 a_ from by rw [hS12]; exact pup_n (fun z : a_ = ea => hq7 (by rw [← z]; exact ha_))).trans (hfr4 a_ ha_ hn_0)))), hf19, hf21⟩) hr hlocks dJx4a65c_add_72be8_22)

theorem hde_Jx4a65c_add_9ea2d1S_V_0 : yJx4a65c_add_72be8.cls = RJx4a65c ∧ yJx4a65c_add_72be8.cls ≠ "java/lang/invoke/MethodHandle" ∧ yJx4a65c_add_72be8.cls ≠ "java/lang/invoke/VarHandle" ∧ (parseMethodDescriptor yJx4a65c_add_72be8.desc).map (fun d => d.parameters.length) = some 3 := by decide +kernel
set_option maxHeartbeats 4000000 in
set_option maxRecDepth 100000 in
theorem e_Jx4a65c_add_9ea2d1S (l : Launch) (D : va_G) (cy : Nat → ClassId) (ed : Nat) (S : pS) (sz : Nat) (h : Nat) (v : Nat) (vr : Nat) (w0 : Nat) (w1 : Nat) (w2 : Nat) (hL_h : h ∈ S.1) (hf_h : S.2 h = .inr (0, [.int (nI 0), .ref ed, .int (nI 0)])) (hL_v : v ∈ S.1) (hf_v : S.2 v = .inr (12, [.int (nI w0), .int (nI w1), .int (nI w2), .ref vr]))  : Met l yJx4a65c_add_9ea2d (Cond.code yJx4a65c_add_9ea2d cJx4a65c_add_9ea2d 2 (some .boolean) :: lwU) ({ frames := 4, cells := 1, slots := 10, locals := 87 }) (ePc D cy ed S sz [.ref h, .ref v]) (pQi D cy S sz (fun r S' => ∃ (ea : Nat), r = (nI 1) ∧ S'.1 = S.1 ++ [ea] ∧ (∀ a_, a_ ∈ S.1 → a_ ≠ h → S'.2 a_ = S.2 a_) ∧ S'.2 h = .inr (0, [.int (nI 1), .ref ea, .int (nI 1)]) ∧ S'.2 ea = aQ (cy 4) 10 (va_up (fun _ => none) 0 (some v)))) 1 10 (pA S sz) := by
  refine Met.ofW (cc := cJx4a65c_add_9ea2d) (maxL := 2) (ret := (some .boolean)) (by decide) rfl ?_
  intro p e s m args below meth c s₁ B hml hv
  obtain ⟨rfl, rfl, C, hw, hA, hr, hlocks, hE⟩ := e_start B hml hv
  have hx := C.1
  have hb := C.2.1
  have hl := lv_entry ([.ref h, .ref v]) (n := 2) (Nat.le_of_ble_eq_true rfl)
  rw [lg_entry_eq]
  generalize (lg_sl ([.ref h, .ref v]) ++ List.replicate (2 - (lg_sl ([.ref h, .ref v])).length) Slot.unset).toArray = ls at hl ⊢
  have hl : lv_has ls 2 [(0, .ref h), (1, .ref v)] := hl
  have hin_RJx4a65c : ∀ w ∈ u_ws RJx4a65c TJx4a65c 3, w ∈ (Cond.code yJx4a65c_add_9ea2d cJx4a65c_add_9ea2d 2 (some .boolean) :: lwU) := fun w h => mU (sub_RJx4a65c w h)
  refine lv_aload_n hx hb dJx4a65c_add_9ea2d_0 rfl (lv_at hl 0 rfl) ?_
  refine lv_dup hx hb dJx4a65c_add_9ea2d_1 rfl ?_
  refine p_getS C hw (ci := 0) (Cn := RJx4a65c) (T := TJx4a65c) (N := 3) hL_h hf_h rfl hin_RJx4a65c 0 (by decide) (mU mw_423) (fun x9 h9 => u_same (C.2.2.2.2.1 _ (mU mw_424)) x9 h9) rfl dJx4a65c_add_9ea2d_2 ?_
  refine lv_iconst (v := nI 1) hx hb dJx4a65c_add_9ea2d_5 (by decide) ?_
  refine n_iadd hx hb dJx4a65c_add_9ea2d_6 ?_
  refine n_ren (b := 1) (by first | rfl | omega | simp) ?_
  refine p_putS C hw (ci := 0) (Cn := RJx4a65c) (T := TJx4a65c) (N := 3) tyJx4a65c tyJx4a65c_ok nmJx4a65c hL_h hf_h rfl hin_RJx4a65c 0 (by decide) (mU mw_423) (fun x9 h9 => u_same (C.2.2.2.2.1 _ (mU mw_424)) x9 h9) rfl rfl rfl rfl (by simp) dJx4a65c_add_9ea2d_7 rfl (fun H locs hw => ?_)
  obtain ⟨S1, hS1⟩ : ∃ z, z = pup S h (.inr (0, [.int (nI 1), .ref ed, .int (nI 0)])) := ⟨_, rfl⟩
  replace hw : pW D (pA S s.heap.size) s.heap S1 H locs := by rw [hS1]; exact hw
  have hL2 : h ∈ S1.1 := by rw [hS1]; exact hL_h
  have hf3 : S1.2 h = .inr (0, [.int (nI 1), .ref ed, .int (nI 0)]) := by rw [hS1]; exact pup_s
  refine lv_aload_n hx hb dJx4a65c_add_9ea2d_10 rfl (lv_at hl 0 rfl) ?_
  refine lv_aload_n hx hb dJx4a65c_add_9ea2d_11 rfl (lv_at hl 1 rfl) ?_
  refine lv_aload_n hx hb dJx4a65c_add_9ea2d_12 rfl (lv_at hl 0 rfl) ?_
  refine p_get C hw (ci := 0) (Cn := RJx4a65c) (T := TJx4a65c) (N := 3) hL2 hf3 rfl hin_RJx4a65c 1 (by decide) (mU mw_98) rfl rfl dJx4a65c_add_9ea2d_13 ?_
  refine lv_aload_n hx hb dJx4a65c_add_9ea2d_16 rfl (lv_at hl 0 rfl) ?_
  refine p_get C hw (ci := 0) (Cn := RJx4a65c) (T := TJx4a65c) (N := 3) hL2 hf3 rfl hin_RJx4a65c 2 (by decide) (mU mw_425) rfl rfl dJx4a65c_add_9ea2d_17 ?_
  have hL4 : v ∈ S1.1 := by rw [hS1]; exact hL_v
  have hf5 : S1.2 v = .inr (12, [.int (nI w0), .int (nI w1), .int (nI w2), .ref vr]) := by rw [hS1]; exact (pup_n (ne_cells hf_v hf_h (by nofun))).trans hf_v
  refine p_callv (va_runV (As := [.ref v, .ref ed, .int (nI 0)]) (rest := []) C.fix (e_Jx4a65c_add_72be81S l D cy ed S1 H.size h v vr 1 w0 w1 w2 hL2 hf3 hL4 hf5 ) (cwV 3 C.2.2.2.2.1 (gU_V mw_426 mw_427 mw_428 mw_89 (subU mw_429)) rfl rfl rfl hde_Jx4a65c_add_9ea2d1S_V_0 ⟨Nat.le_of_ble_eq_true rfl, Nat.le_of_ble_eq_true rfl⟩) (e_preV C hw hA hE hL2 hf3 rfl) rfl rfl hl.1 rfl (lv_room (Nat.le_of_ble_eq_true rfl)) dJx4a65c_add_9ea2d_20 ⟨(Nat.le_of_ble_eq_true rfl), (Nat.le_of_ble_eq_true rfl)⟩) hw hA (fun S6 H locs hpost hw => ?_)
  obtain ⟨ea, hS8, hfr9, hf10, hf11⟩ := hpost
  have hq12 : ea ∉ S1.1 := p_fresh hw hS8 0 rfl
  have hL13 : h ∈ S6.1 := by rw [hS8]; exact List.mem_append_left _ hL2
  have hL14 : ea ∈ S6.1 := by rw [hS8]; exact List.mem_append_right _ (List.mem_of_getElem? (i := 0) rfl)
  refine lv_iconst (v := nI 1) hx hb dJx4a65c_add_9ea2d_23 (by decide) ?_
  exact (p_zret C hw (⟨ea, rfl, (by simp only [hS8, hS1, pup, pnew, List.append_nil, List.append_assoc, List.cons_append, List.nil_append]), (fun a_ ha_ hn_0 => ((hfr9 a_ (show a_ ∈ S1.1 from by rw [hS1]; exact ha_) hn_0).trans (show S1.2 a_ = S.2 a_ from by rw [hS1]; exact pup_n hn_0))), hf10, hf11⟩) hr rfl hlocks dJx4a65c_add_9ea2d_24)

set_option maxHeartbeats 4000000 in
set_option maxRecDepth 100000 in
theorem e_Jx4a65c_add_72be82I (l : Launch) (D : va_G) (cy : Nat → ClassId) (S : pS) (sz : Nat) (h : Nat) (v : Nat) (ea : Nat) (a0 : Nat) (gq : Nat → Option Nat) (vn : Nat) (vg : Nat → Int32) (hL_h : h ∈ S.1) (hf_h : S.2 h = .inr (0, [.int (nI a0), .ref ea, .int (nI 1)])) (hL_ea : ea ∈ S.1) (hf_ea : S.2 ea = aQ (cy 4) 10 gq) (hL_v : v ∈ S.1) (hf_v : S.2 v = .inl (cy 0, vn, .inl vg))  : Met l yJx4a65c_add_72be8 (Cond.code yJx4a65c_add_72be8 cJx4a65c_add_72be8 4 none :: lwU) ({ frames := 0, cells := 0, slots := 0, locals := 0 }) (pPc D cy S sz [.ref h, .ref v, .ref ea, .int (nI 1)]) (pQv D cy S sz (fun S' => S'.1 = S.1 ++ [] ∧ (∀ a_, a_ ∈ S.1 → a_ ≠ h → a_ ≠ ea → S'.2 a_ = S.2 a_) ∧ S'.2 h = .inr (0, [.int (nI a0), .ref ea, .int (nI 2)]) ∧ S'.2 ea = aQ (cy 4) 10 (va_up gq 1 (some v)))) 0 0 (pA S sz) := by
  refine Met.ofW (cc := cJx4a65c_add_72be8) (maxL := 4) (ret := none) (by decide) rfl ?_
  intro p e s m args below meth c s₁ B hml hv
  obtain ⟨rfl, rfl, C, hw, hA, hr, hlocks⟩ := p_start B hml hv
  have hx := C.1
  have hb := C.2.1
  have hl := lv_entry ([.ref h, .ref v, .ref ea, .int (nI 1)]) (n := 4) (Nat.le_of_ble_eq_true rfl)
  rw [lg_entry_eq]
  generalize (lg_sl ([.ref h, .ref v, .ref ea, .int (nI 1)]) ++ List.replicate (4 - (lg_sl ([.ref h, .ref v, .ref ea, .int (nI 1)])).length) Slot.unset).toArray = ls at hl ⊢
  have hl : lv_has ls 4 [(0, .ref h), (1, .ref v), (2, .ref ea), (3, .int (nI 1))] := hl
  have hin_RJx4a65c : ∀ w ∈ u_ws RJx4a65c TJx4a65c 3, w ∈ (Cond.code yJx4a65c_add_72be8 cJx4a65c_add_72be8 4 none :: lwU) := fun w h => mU (sub_RJx4a65c w h)
  refine lv_iload_n hx hb dJx4a65c_add_72be8_0 rfl (lv_at hl 3 rfl) ?_
  refine lv_aload_n hx hb dJx4a65c_add_72be8_1 rfl (lv_at hl 2 rfl) ?_
  refine n_len C hw 4 rfl hL_ea hf_ea (n := 10) rfl dJx4a65c_add_72be8_2 ?_
  refine n_icmp_ne (tgt := 11) hx hb (by first | decide | omega) (by first | decide | omega) dJx4a65c_add_72be8_3 (by decide) (fun h_3 => ?_) (fun h_3 => ?_)
  · skip
    refine lv_aload_n hx hb dJx4a65c_add_72be8_11 rfl (lv_at hl 2 rfl) ?_
    refine lv_iload_n hx hb dJx4a65c_add_72be8_12 rfl (lv_at hl 3 rfl) ?_
    refine lv_aload_n hx hb dJx4a65c_add_72be8_13 rfl (lv_at hl 1 rfl) ?_
    refine p_astI C hw 4 rfl hL_ea hf_ea hL_v hf_v (by first | decide | omega) (by first | decide | omega) dJx4a65c_add_72be8_14 (fun H locs hw => ?_)
    obtain ⟨S1, hS1⟩ : ∃ z, z = pup S ea (aQ (cy 4) 10 (va_up gq 1 (some v))) := ⟨_, rfl⟩
    replace hw : pW D (pA S s.heap.size) s.heap S1 H locs := by rw [hS1]; exact hw
    have hL2 : ea ∈ S1.1 := by rw [hS1]; exact hL_ea
    have hf3 : S1.2 ea = aQ (cy 4) 10 (va_up gq 1 (some v)) := by rw [hS1]; exact pup_s
    refine lv_aload_n hx hb dJx4a65c_add_72be8_15 rfl (lv_at hl 0 rfl) ?_
    refine lv_iload_n hx hb dJx4a65c_add_72be8_16 rfl (lv_at hl 3 rfl) ?_
    refine lv_iconst (v := nI 1) hx hb dJx4a65c_add_72be8_17 (by decide) ?_
    refine n_iadd hx hb dJx4a65c_add_72be8_18 ?_
    refine n_ren (b := 2) (by first | rfl | omega | simp) ?_
    have hL4 : h ∈ S1.1 := by rw [hS1]; exact hL_h
    have hf5 : S1.2 h = .inr (0, [.int (nI a0), .ref ea, .int (nI 1)]) := by rw [hS1]; exact (pup_n (ne_cells hf_h hf_ea (by nofun))).trans hf_h
    refine p_put C hw (ci := 0) (Cn := RJx4a65c) (T := TJx4a65c) (N := 3) tyJx4a65c tyJx4a65c_ok nmJx4a65c hL4 hf5 rfl hin_RJx4a65c 2 (by decide) (mU mw_425) rfl rfl rfl rfl rfl (by simp) dJx4a65c_add_72be8_19 rfl (fun H locs hw => ?_)
    obtain ⟨S6, hS6⟩ : ∃ z, z = pup S1 h (.inr (0, [.int (nI a0), .ref ea, .int (nI 2)])) := ⟨_, rfl⟩
    replace hw : pW D (pA S s.heap.size) s.heap S6 H locs := by rw [hS6]; exact hw
    have hL7 : h ∈ S6.1 := by rw [hS6]; exact hL4
    have hf8 : S6.2 h = .inr (0, [.int (nI a0), .ref ea, .int (nI 2)]) := by rw [hS6]; exact pup_s
    have hL9 : ea ∈ S6.1 := by rw [hS6]; exact hL2
    have hf10 : S6.2 ea = aQ (cy 4) 10 (va_up gq 1 (some v)) := by rw [hS6]; exact (pup_n (ne_cells hf3 hf5 (by nofun))).trans hf3
    exact (p_vret C hw (⟨(by simp only [hS6, hS1, pup, pnew, List.append_nil, List.append_assoc, List.cons_append, List.nil_append]), (fun a_ ha_ hn_0 hn_1 => ((show S6.2 a_ = S1.2 a_ from by rw [hS6]; exact pup_n hn_0).trans (show S1.2 a_ = S.2 a_ from by rw [hS1]; exact pup_n hn_1))), hf8, hf10⟩) hr hlocks dJx4a65c_add_72be8_22)
  · exact absurd h_3 (by first | decide | omega)

theorem hde_Jx4a65c_add_9ea2d2I_V_0 : yJx4a65c_add_72be8.cls = RJx4a65c ∧ yJx4a65c_add_72be8.cls ≠ "java/lang/invoke/MethodHandle" ∧ yJx4a65c_add_72be8.cls ≠ "java/lang/invoke/VarHandle" ∧ (parseMethodDescriptor yJx4a65c_add_72be8.desc).map (fun d => d.parameters.length) = some 3 := by decide +kernel
set_option maxHeartbeats 4000000 in
set_option maxRecDepth 100000 in
theorem e_Jx4a65c_add_9ea2d2I (l : Launch) (D : va_G) (cy : Nat → ClassId) (S : pS) (sz : Nat) (h : Nat) (v : Nat) (ea : Nat) (gq : Nat → Option Nat) (vn : Nat) (vg : Nat → Int32) (hL_h : h ∈ S.1) (hf_h : S.2 h = .inr (0, [.int (nI 1), .ref ea, .int (nI 1)])) (hL_ea : ea ∈ S.1) (hf_ea : S.2 ea = aQ (cy 4) 10 gq) (hL_v : v ∈ S.1) (hf_v : S.2 v = .inl (cy 0, vn, .inl vg))  : Met l yJx4a65c_add_9ea2d (Cond.code yJx4a65c_add_9ea2d cJx4a65c_add_9ea2d 2 (some .boolean) :: lwU) ({ frames := 1, cells := 0, slots := 0, locals := 23 }) (pPc D cy S sz [.ref h, .ref v]) (pQi D cy S sz (fun r S' => r = (nI 1) ∧ S'.1 = S.1 ++ [] ∧ (∀ a_, a_ ∈ S.1 → a_ ≠ h → a_ ≠ ea → S'.2 a_ = S.2 a_) ∧ S'.2 h = .inr (0, [.int (nI 2), .ref ea, .int (nI 2)]) ∧ S'.2 ea = aQ (cy 4) 10 (va_up gq 1 (some v)))) 0 0 (pA S sz) := by
  refine Met.ofW (cc := cJx4a65c_add_9ea2d) (maxL := 2) (ret := (some .boolean)) (by decide) rfl ?_
  intro p e s m args below meth c s₁ B hml hv
  obtain ⟨rfl, rfl, C, hw, hA, hr, hlocks⟩ := p_start B hml hv
  have hx := C.1
  have hb := C.2.1
  have hl := lv_entry ([.ref h, .ref v]) (n := 2) (Nat.le_of_ble_eq_true rfl)
  rw [lg_entry_eq]
  generalize (lg_sl ([.ref h, .ref v]) ++ List.replicate (2 - (lg_sl ([.ref h, .ref v])).length) Slot.unset).toArray = ls at hl ⊢
  have hl : lv_has ls 2 [(0, .ref h), (1, .ref v)] := hl
  have hin_RJx4a65c : ∀ w ∈ u_ws RJx4a65c TJx4a65c 3, w ∈ (Cond.code yJx4a65c_add_9ea2d cJx4a65c_add_9ea2d 2 (some .boolean) :: lwU) := fun w h => mU (sub_RJx4a65c w h)
  refine lv_aload_n hx hb dJx4a65c_add_9ea2d_0 rfl (lv_at hl 0 rfl) ?_
  refine lv_dup hx hb dJx4a65c_add_9ea2d_1 rfl ?_
  refine p_getS C hw (ci := 0) (Cn := RJx4a65c) (T := TJx4a65c) (N := 3) hL_h hf_h rfl hin_RJx4a65c 0 (by decide) (mU mw_423) (fun x9 h9 => u_same (C.2.2.2.2.1 _ (mU mw_424)) x9 h9) rfl dJx4a65c_add_9ea2d_2 ?_
  refine lv_iconst (v := nI 1) hx hb dJx4a65c_add_9ea2d_5 (by decide) ?_
  refine n_iadd hx hb dJx4a65c_add_9ea2d_6 ?_
  refine n_ren (b := 2) (by first | rfl | omega | simp) ?_
  refine p_putS C hw (ci := 0) (Cn := RJx4a65c) (T := TJx4a65c) (N := 3) tyJx4a65c tyJx4a65c_ok nmJx4a65c hL_h hf_h rfl hin_RJx4a65c 0 (by decide) (mU mw_423) (fun x9 h9 => u_same (C.2.2.2.2.1 _ (mU mw_424)) x9 h9) rfl rfl rfl rfl (by simp) dJx4a65c_add_9ea2d_7 rfl (fun H locs hw => ?_)
  obtain ⟨S1, hS1⟩ : ∃ z, z = pup S h (.inr (0, [.int (nI 2), .ref ea, .int (nI 1)])) := ⟨_, rfl⟩
  replace hw : pW D (pA S s.heap.size) s.heap S1 H locs := by rw [hS1]; exact hw
  have hL2 : h ∈ S1.1 := by rw [hS1]; exact hL_h
  have hf3 : S1.2 h = .inr (0, [.int (nI 2), .ref ea, .int (nI 1)]) := by rw [hS1]; exact pup_s
  refine lv_aload_n hx hb dJx4a65c_add_9ea2d_10 rfl (lv_at hl 0 rfl) ?_
  refine lv_aload_n hx hb dJx4a65c_add_9ea2d_11 rfl (lv_at hl 1 rfl) ?_
  refine lv_aload_n hx hb dJx4a65c_add_9ea2d_12 rfl (lv_at hl 0 rfl) ?_
  refine p_get C hw (ci := 0) (Cn := RJx4a65c) (T := TJx4a65c) (N := 3) hL2 hf3 rfl hin_RJx4a65c 1 (by decide) (mU mw_98) rfl rfl dJx4a65c_add_9ea2d_13 ?_
  refine lv_aload_n hx hb dJx4a65c_add_9ea2d_16 rfl (lv_at hl 0 rfl) ?_
  refine p_get C hw (ci := 0) (Cn := RJx4a65c) (T := TJx4a65c) (N := 3) hL2 hf3 rfl hin_RJx4a65c 2 (by decide) (mU mw_425) rfl rfl dJx4a65c_add_9ea2d_17 ?_
  have hL4 : ea ∈ S1.1 := by rw [hS1]; exact hL_ea
  have hf5 : S1.2 ea = aQ (cy 4) 10 gq := by rw [hS1]; exact (pup_n (ne_cells hf_ea hf_h (by nofun))).trans hf_ea
  have hL6 : v ∈ S1.1 := by rw [hS1]; exact hL_v
  have hf7 : S1.2 v = .inl (cy 0, vn, .inl vg) := by rw [hS1]; exact (pup_n (ne_cells hf_v hf_h (by nofun))).trans hf_v
  refine p_callv (va_runV (As := [.ref v, .ref ea, .int (nI 1)]) (rest := []) C.fix (e_Jx4a65c_add_72be82I l D cy S1 H.size h v ea 2 gq vn vg hL2 hf3 hL4 hf5 hL6 hf7 ) (cwV 3 C.2.2.2.2.1 (gU_V mw_426 mw_427 mw_428 mw_89 (subU mw_429)) rfl rfl rfl hde_Jx4a65c_add_9ea2d2I_V_0 ⟨Nat.le_of_ble_eq_true rfl, Nat.le_of_ble_eq_true rfl⟩) (p_preV C hw hL2 hf3 rfl) rfl rfl hl.1 rfl (lv_room (Nat.le_of_ble_eq_true rfl)) dJx4a65c_add_9ea2d_20 ⟨(Nat.le_of_ble_eq_true rfl), (Nat.le_of_ble_eq_true rfl)⟩) hw hA (fun S8 H locs hpost hw => ?_)
  obtain ⟨hS10, hfr11, hf12, hf13⟩ := hpost
  have hL14 : h ∈ S8.1 := by rw [hS10]; exact List.mem_append_left _ hL2
  have hL15 : ea ∈ S8.1 := by rw [hS10]; exact List.mem_append_left _ hL4
  refine lv_iconst (v := nI 1) hx hb dJx4a65c_add_9ea2d_23 (by decide) ?_
  exact (p_zret C hw (⟨rfl, (by simp only [hS10, hS1, pup, pnew, List.append_nil, List.append_assoc, List.cons_append, List.nil_append]), (fun a_ ha_ hn_0 hn_1 => ((hfr11 a_ (show a_ ∈ S1.1 from by rw [hS1]; exact ha_) hn_0 hn_1).trans (show S1.2 a_ = S.2 a_ from by rw [hS1]; exact pup_n hn_0))), hf12, hf13⟩) hr rfl hlocks dJx4a65c_add_9ea2d_24)

set_option maxHeartbeats 4000000 in
set_option maxRecDepth 100000 in
theorem e_X13_isIn (l : Launch) (D : va_G) (cy : Nat → ClassId) (S : pS) (sz : Nat) (v : Int32) (a : Int32) (b : Int32) (V9 : Int) (A9 : Int) (B9 : Int)  (hV : v.toInt = V9) (hA9 : a.toInt = A9) (hB9 : b.toInt = B9) : Met l yX13_isIn (Cond.code yX13_isIn cX13_isIn 3 (some .boolean) :: lwU) ({ frames := 0, cells := 0, slots := 0, locals := 0 }) (pPc D cy S sz [.int v, .int a, .int b]) (pQi D cy S sz (fun r S' => ((A9 ≤ V9 ∧ V9 ≤ B9) ∧ r = (nI 1) ∧ S = S') ∨ ((¬ (A9 ≤ V9 ∧ V9 ≤ B9)) ∧ r = (nI 0) ∧ S = S'))) 0 0 (pA S sz) := by
  refine Met.ofW (cc := cX13_isIn) (maxL := 3) (ret := (some .boolean)) (by decide) rfl ?_
  intro p e s m args below meth c s₁ B hml hv
  obtain ⟨rfl, rfl, C, hw, hA, hr, hlocks⟩ := p_start B hml hv
  have hx := C.1
  have hb := C.2.1
  have hl := lv_entry ([.int v, .int a, .int b]) (n := 3) (Nat.le_of_ble_eq_true rfl)
  rw [lg_entry_eq]
  generalize (lg_sl ([.int v, .int a, .int b]) ++ List.replicate (3 - (lg_sl ([.int v, .int a, .int b])).length) Slot.unset).toArray = ls at hl ⊢
  have hl : lv_has ls 3 [(0, .int v), (1, .int a), (2, .int b)] := hl
  refine lv_iload_n hx hb dX13_isIn_0 rfl (lv_at hl 0 rfl) ?_
  refine lv_iload_n hx hb dX13_isIn_1 rfl (lv_at hl 1 rfl) ?_
  refine z_icmp_lt (tgt := 14) hx hb rfl rfl dX13_isIn_2 (by decide) (fun h_2 => ?_) (fun h_2 => ?_)
  · skip
    refine lv_iconst (v := nI 0) hx hb dX13_isIn_14 (by decide) ?_
    exact (p_zret C hw (by first | exact (Or.inl ⟨(by omega), rfl, rfl⟩) | exact (Or.inr ⟨(by omega), rfl, rfl⟩)) hr rfl hlocks dX13_isIn_15)
  · skip
    refine lv_iload_n hx hb dX13_isIn_5 rfl (lv_at hl 0 rfl) ?_
    refine lv_iload_n hx hb dX13_isIn_6 rfl (lv_at hl 2 rfl) ?_
    refine z_icmp_gt (tgt := 14) hx hb rfl rfl dX13_isIn_7 (by decide) (fun h_7 => ?_) (fun h_7 => ?_)
    · skip
      refine lv_iconst (v := nI 0) hx hb dX13_isIn_14 (by decide) ?_
      exact (p_zret C hw (by first | exact (Or.inl ⟨(by omega), rfl, rfl⟩) | exact (Or.inr ⟨(by omega), rfl, rfl⟩)) hr rfl hlocks dX13_isIn_15)
    · skip
      refine lv_iconst (v := nI 1) hx hb dX13_isIn_10 (by decide) ?_
      refine lv_goto (tgt := 15) hx hb dX13_isIn_11 (by decide) ?_
      exact (p_zret C hw (by first | exact (Or.inl ⟨(by omega), rfl, rfl⟩) | exact (Or.inr ⟨(by omega), rfl, rfl⟩)) hr rfl hlocks dX13_isIn_15)

set_option maxHeartbeats 4000000 in
set_option maxRecDepth 100000 in
theorem e_X13_refuse0 (l : Launch) (D : va_G) (cy : Nat → ClassId) (S : pS) (sz : Nat) (mm : Nat) (me : Nat) (sg : Nat) (cn : Nat) (im : Nat) (w : Nat) (hL_mm : mm ∈ S.1) (hf_mm : S.2 mm = .inr (13, [.int (nI 0), .ref me, .ref sg, .ref cn, .ref im]))  : Met l yX13_refuse (Cond.code yX13_refuse cX13_refuse 3 (some .boolean) :: lwU) ({ frames := 0, cells := 0, slots := 0, locals := 0 }) (pPc D cy S sz [.ref mm, .int (nI 0), .int (nI w)]) (pQi D cy S sz (fun r S' => r = (nI 0) ∧ S = S')) 0 0 (pA S sz) := by
  refine Met.ofW (cc := cX13_refuse) (maxL := 3) (ret := (some .boolean)) (by decide) rfl ?_
  intro p e s m args below meth c s₁ B hml hv
  obtain ⟨rfl, rfl, C, hw, hA, hr, hlocks⟩ := p_start B hml hv
  have hx := C.1
  have hb := C.2.1
  have hl := lv_entry ([.ref mm, .int (nI 0), .int (nI w)]) (n := 3) (Nat.le_of_ble_eq_true rfl)
  rw [lg_entry_eq]
  generalize (lg_sl ([.ref mm, .int (nI 0), .int (nI w)]) ++ List.replicate (3 - (lg_sl ([.ref mm, .int (nI 0), .int (nI w)])).length) Slot.unset).toArray = ls at hl ⊢
  have hl : lv_has ls 3 [(0, .ref mm), (1, .int (nI 0)), (2, .int (nI w))] := hl
  have hin_RX13 : ∀ w ∈ u_ws RX13 TX13 5, w ∈ (Cond.code yX13_refuse cX13_refuse 3 (some .boolean) :: lwU) := fun w h => mU (sub_RX13 w h)
  refine lv_iload_n hx hb dX13_refuse_0 rfl (lv_at hl 1 rfl) ?_
  refine n_if_eq (tgt := 16) hx hb (by first | decide | omega) dX13_refuse_1 (by decide) (fun h_1 => ?_) (fun h_1 => ?_)
  · skip
    refine lv_aload_n hx hb dX13_refuse_16 rfl (lv_at hl 0 rfl) ?_
    refine p_get C hw (ci := 13) (Cn := RX13) (T := TX13) (N := 5) hL_mm hf_mm rfl hin_RX13 0 (by decide) (mU mw_401) rfl rfl dX13_refuse_17 ?_
    refine n_if_le (tgt := 27) hx hb (by first | decide | omega) dX13_refuse_20 (by decide) (fun h_20 => ?_) (fun h_20 => ?_)
    · skip
      refine lv_iconst (v := nI 0) hx hb dX13_refuse_27 (by decide) ?_
      exact (p_zret C hw (⟨rfl, rfl⟩) hr rfl hlocks dX13_refuse_28)
    · exact absurd h_20 (by first | decide | omega)
  · exact absurd h_1 (by first | decide | omega)

set_option maxHeartbeats 4000000 in
set_option maxRecDepth 100000 in
theorem e_X13_refuse1 (l : Launch) (D : va_G) (cy : Nat → ClassId) (S : pS) (sz : Nat) (mm : Nat) (me : Nat) (sg : Nat) (cn : Nat) (im : Nat) (w : Nat) (hL_mm : mm ∈ S.1) (hf_mm : S.2 mm = .inr (13, [.int (nI 0), .ref me, .ref sg, .ref cn, .ref im])) (hw0 : 0 < w) (hw9 : w < 3) : Met l yX13_refuse (Cond.code yX13_refuse cX13_refuse 3 (some .boolean) :: lwU) ({ frames := 0, cells := 0, slots := 0, locals := 0 }) (pPc D cy S sz [.ref mm, .int (nI 1), .int (nI w)]) (pQi D cy S sz (fun r S' => r = (nI 1) ∧ S'.1 = S.1 ++ [] ∧ (∀ a_, a_ ∈ S.1 → a_ ≠ mm → S'.2 a_ = S.2 a_) ∧ S'.2 mm = .inr (13, [.int (nI w), .ref me, .ref sg, .ref cn, .ref im]))) 0 0 (pA S sz) := by
  refine Met.ofW (cc := cX13_refuse) (maxL := 3) (ret := (some .boolean)) (by decide) rfl ?_
  intro p e s m args below meth c s₁ B hml hv
  obtain ⟨rfl, rfl, C, hw, hA, hr, hlocks⟩ := p_start B hml hv
  have hx := C.1
  have hb := C.2.1
  have hl := lv_entry ([.ref mm, .int (nI 1), .int (nI w)]) (n := 3) (Nat.le_of_ble_eq_true rfl)
  rw [lg_entry_eq]
  generalize (lg_sl ([.ref mm, .int (nI 1), .int (nI w)]) ++ List.replicate (3 - (lg_sl ([.ref mm, .int (nI 1), .int (nI w)])).length) Slot.unset).toArray = ls at hl ⊢
  have hl : lv_has ls 3 [(0, .ref mm), (1, .int (nI 1)), (2, .int (nI w))] := hl
  have hin_RX13 : ∀ w ∈ u_ws RX13 TX13 5, w ∈ (Cond.code yX13_refuse cX13_refuse 3 (some .boolean) :: lwU) := fun w h => mU (sub_RX13 w h)
  refine lv_iload_n hx hb dX13_refuse_0 rfl (lv_at hl 1 rfl) ?_
  refine n_if_eq (tgt := 16) hx hb (by first | decide | omega) dX13_refuse_1 (by decide) (fun h_1 => ?_) (fun h_1 => ?_)
  · exact absurd h_1 (by first | decide | omega)
  · skip
    refine lv_aload_n hx hb dX13_refuse_4 rfl (lv_at hl 0 rfl) ?_
    refine p_get C hw (ci := 13) (Cn := RX13) (T := TX13) (N := 5) hL_mm hf_mm rfl hin_RX13 0 (by decide) (mU mw_401) rfl rfl dX13_refuse_5 ?_
    refine n_if_ne (tgt := 16) hx hb (by first | decide | omega) dX13_refuse_8 (by decide) (fun h_8 => ?_) (fun h_8 => ?_)
    · exact absurd h_8 (by first | decide | omega)
    · skip
      refine lv_aload_n hx hb dX13_refuse_11 rfl (lv_at hl 0 rfl) ?_
      refine lv_iload_n hx hb dX13_refuse_12 rfl (lv_at hl 2 rfl) ?_
      refine p_put C hw (ci := 13) (Cn := RX13) (T := TX13) (N := 5) tyX13 tyX13_ok nmX13 hL_mm hf_mm rfl hin_RX13 0 (by decide) (mU mw_401) rfl rfl rfl rfl rfl (by simp) dX13_refuse_13 rfl (fun H locs hw => ?_)
      obtain ⟨S1, hS1⟩ : ∃ z, z = pup S mm (.inr (13, [.int (nI w), .ref me, .ref sg, .ref cn, .ref im])) := ⟨_, rfl⟩
      replace hw : pW D (pA S s.heap.size) s.heap S1 H locs := by rw [hS1]; exact hw
      have hL2 : mm ∈ S1.1 := by rw [hS1]; exact hL_mm
      have hf3 : S1.2 mm = .inr (13, [.int (nI w), .ref me, .ref sg, .ref cn, .ref im]) := by rw [hS1]; exact pup_s
      refine lv_aload_n hx hb dX13_refuse_16 rfl (lv_at hl 0 rfl) ?_
      refine p_get C hw (ci := 13) (Cn := RX13) (T := TX13) (N := 5) hL2 hf3 rfl hin_RX13 0 (by decide) (mU mw_401) rfl rfl dX13_refuse_17 ?_
      refine n_if_le (tgt := 27) hx hb (by first | decide | omega) dX13_refuse_20 (by decide) (fun h_20 => ?_) (fun h_20 => ?_)
      · exfalso; omega
      · skip
        refine lv_iconst (v := nI 1) hx hb dX13_refuse_23 (by decide) ?_
        refine lv_goto (tgt := 28) hx hb dX13_refuse_24 (by decide) ?_
        exact (p_zret C hw (⟨rfl, (by simp only [hS1, pup, pnew, List.append_nil, List.append_assoc, List.cons_append, List.nil_append]), (fun a_ ha_ hn_0 => (show S1.2 a_ = S.2 a_ from by rw [hS1]; exact pup_n hn_0)), hf3⟩) hr rfl hlocks dX13_refuse_28)

theorem hde_X13_start0_V_0 : yX13_refuse.cls = RX13 ∧ yX13_refuse.cls ≠ "java/lang/invoke/MethodHandle" ∧ yX13_refuse.cls ≠ "java/lang/invoke/VarHandle" ∧ (parseMethodDescriptor yX13_refuse.desc).map (fun d => d.parameters.length) = some 2 := by decide +kernel
set_option maxHeartbeats 4000000 in
set_option maxRecDepth 100000 in
theorem e_X13_start0 (l : Launch) (D : va_G) (cy : Nat → ClassId) (S : pS) (sz : Nat) (mm : Nat) (me : Nat) (sg : Nat) (cn : Nat) (im : Nat) (w : Nat) (t0 : Nat) (hL_mm : mm ∈ S.1) (hf_mm : S.2 mm = .inr (13, [.int (nI t0), .ref me, .ref sg, .ref cn, .ref im]))  : Met l yX13_start (Cond.code yX13_start cX13_start 3 (some .boolean) :: lwU) ({ frames := 1, cells := 0, slots := 0, locals := 22 }) (pPc D cy S sz [.ref mm, .int (nI 0), .int (nI w)]) (pQi D cy S sz (fun r S' => r = (nI 0) ∧ S'.1 = S.1 ++ [] ∧ (∀ a_, a_ ∈ S.1 → a_ ≠ mm → S'.2 a_ = S.2 a_) ∧ S'.2 mm = .inr (13, [.int (nI 0), .ref me, .ref sg, .ref cn, .ref im]))) 0 0 (pA S sz) := by
  refine Met.ofW (cc := cX13_start) (maxL := 3) (ret := (some .boolean)) (by decide) rfl ?_
  intro p e s m args below meth c s₁ B hml hv
  obtain ⟨rfl, rfl, C, hw, hA, hr, hlocks⟩ := p_start B hml hv
  have hx := C.1
  have hb := C.2.1
  have hl := lv_entry ([.ref mm, .int (nI 0), .int (nI w)]) (n := 3) (Nat.le_of_ble_eq_true rfl)
  rw [lg_entry_eq]
  generalize (lg_sl ([.ref mm, .int (nI 0), .int (nI w)]) ++ List.replicate (3 - (lg_sl ([.ref mm, .int (nI 0), .int (nI w)])).length) Slot.unset).toArray = ls at hl ⊢
  have hl : lv_has ls 3 [(0, .ref mm), (1, .int (nI 0)), (2, .int (nI w))] := hl
  have hin_RX13 : ∀ w ∈ u_ws RX13 TX13 5, w ∈ (Cond.code yX13_start cX13_start 3 (some .boolean) :: lwU) := fun w h => mU (sub_RX13 w h)
  refine lv_aload_n hx hb dX13_start_0 rfl (lv_at hl 0 rfl) ?_
  refine lv_iconst (v := nI 0) hx hb dX13_start_1 (by decide) ?_
  refine p_put C hw (ci := 13) (Cn := RX13) (T := TX13) (N := 5) tyX13 tyX13_ok nmX13 hL_mm hf_mm rfl hin_RX13 0 (by decide) (mU mw_401) rfl rfl rfl rfl rfl (by simp) dX13_start_2 rfl (fun H locs hw => ?_)
  obtain ⟨S1, hS1⟩ : ∃ z, z = pup S mm (.inr (13, [.int (nI 0), .ref me, .ref sg, .ref cn, .ref im])) := ⟨_, rfl⟩
  replace hw : pW D (pA S s.heap.size) s.heap S1 H locs := by rw [hS1]; exact hw
  have hL2 : mm ∈ S1.1 := by rw [hS1]; exact hL_mm
  have hf3 : S1.2 mm = .inr (13, [.int (nI 0), .ref me, .ref sg, .ref cn, .ref im]) := by rw [hS1]; exact pup_s
  refine lv_aload_n hx hb dX13_start_5 rfl (lv_at hl 0 rfl) ?_
  refine lv_iload_n hx hb dX13_start_6 rfl (lv_at hl 1 rfl) ?_
  refine lv_iload_n hx hb dX13_start_7 rfl (lv_at hl 2 rfl) ?_
  refine p_calli (va_runV (As := [.int (nI 0), .int (nI w)]) (rest := []) C.fix (e_X13_refuse0 l D cy S1 H.size mm me sg cn im w hL2 hf3 ) (cwV 2 C.2.2.2.2.1 (gU_V mw_402 mw_403 mw_404 mw_5 (subU mw_405)) rfl rfl rfl hde_X13_start0_V_0 ⟨Nat.le_of_ble_eq_true rfl, Nat.le_of_ble_eq_true rfl⟩) (p_preV C hw hL2 hf3 rfl) rfl rfl hl.1 rfl (lv_room (Nat.le_of_ble_eq_true rfl)) dX13_start_8 ⟨(Nat.le_of_ble_eq_true rfl), (Nat.le_of_ble_eq_true rfl)⟩) hw hA (fun r5 S4 H locs hpost hw => ?_)
  obtain ⟨hr_, hS_⟩ := hpost
  subst hr_
  subst hS_
  exact (p_zret C hw (⟨rfl, (by simp only [hS1, pup, pnew, List.append_nil, List.append_assoc, List.cons_append, List.nil_append]), (fun a_ ha_ hn_0 => (show S1.2 a_ = S.2 a_ from by rw [hS1]; exact pup_n hn_0)), hf3⟩) hr rfl hlocks dX13_start_11)

theorem hde_X13_start1_V_0 : yX13_refuse.cls = RX13 ∧ yX13_refuse.cls ≠ "java/lang/invoke/MethodHandle" ∧ yX13_refuse.cls ≠ "java/lang/invoke/VarHandle" ∧ (parseMethodDescriptor yX13_refuse.desc).map (fun d => d.parameters.length) = some 2 := by decide +kernel
set_option maxHeartbeats 4000000 in
set_option maxRecDepth 100000 in
theorem e_X13_start1 (l : Launch) (D : va_G) (cy : Nat → ClassId) (S : pS) (sz : Nat) (mm : Nat) (me : Nat) (sg : Nat) (cn : Nat) (im : Nat) (w : Nat) (t0 : Nat) (hL_mm : mm ∈ S.1) (hf_mm : S.2 mm = .inr (13, [.int (nI t0), .ref me, .ref sg, .ref cn, .ref im])) (hw0 : 0 < w) (hw9 : w < 3) : Met l yX13_start (Cond.code yX13_start cX13_start 3 (some .boolean) :: lwU) ({ frames := 1, cells := 0, slots := 0, locals := 22 }) (pPc D cy S sz [.ref mm, .int (nI 1), .int (nI w)]) (pQi D cy S sz (fun r S' => r = (nI 1) ∧ S'.1 = S.1 ++ [] ∧ (∀ a_, a_ ∈ S.1 → a_ ≠ mm → S'.2 a_ = S.2 a_) ∧ S'.2 mm = .inr (13, [.int (nI w), .ref me, .ref sg, .ref cn, .ref im]))) 0 0 (pA S sz) := by
  refine Met.ofW (cc := cX13_start) (maxL := 3) (ret := (some .boolean)) (by decide) rfl ?_
  intro p e s m args below meth c s₁ B hml hv
  obtain ⟨rfl, rfl, C, hw, hA, hr, hlocks⟩ := p_start B hml hv
  have hx := C.1
  have hb := C.2.1
  have hl := lv_entry ([.ref mm, .int (nI 1), .int (nI w)]) (n := 3) (Nat.le_of_ble_eq_true rfl)
  rw [lg_entry_eq]
  generalize (lg_sl ([.ref mm, .int (nI 1), .int (nI w)]) ++ List.replicate (3 - (lg_sl ([.ref mm, .int (nI 1), .int (nI w)])).length) Slot.unset).toArray = ls at hl ⊢
  have hl : lv_has ls 3 [(0, .ref mm), (1, .int (nI 1)), (2, .int (nI w))] := hl
  have hin_RX13 : ∀ w ∈ u_ws RX13 TX13 5, w ∈ (Cond.code yX13_start cX13_start 3 (some .boolean) :: lwU) := fun w h => mU (sub_RX13 w h)
  refine lv_aload_n hx hb dX13_start_0 rfl (lv_at hl 0 rfl) ?_
  refine lv_iconst (v := nI 0) hx hb dX13_start_1 (by decide) ?_
  refine p_put C hw (ci := 13) (Cn := RX13) (T := TX13) (N := 5) tyX13 tyX13_ok nmX13 hL_mm hf_mm rfl hin_RX13 0 (by decide) (mU mw_401) rfl rfl rfl rfl rfl (by simp) dX13_start_2 rfl (fun H locs hw => ?_)
  obtain ⟨S1, hS1⟩ : ∃ z, z = pup S mm (.inr (13, [.int (nI 0), .ref me, .ref sg, .ref cn, .ref im])) := ⟨_, rfl⟩
  replace hw : pW D (pA S s.heap.size) s.heap S1 H locs := by rw [hS1]; exact hw
  have hL2 : mm ∈ S1.1 := by rw [hS1]; exact hL_mm
  have hf3 : S1.2 mm = .inr (13, [.int (nI 0), .ref me, .ref sg, .ref cn, .ref im]) := by rw [hS1]; exact pup_s
  refine lv_aload_n hx hb dX13_start_5 rfl (lv_at hl 0 rfl) ?_
  refine lv_iload_n hx hb dX13_start_6 rfl (lv_at hl 1 rfl) ?_
  refine lv_iload_n hx hb dX13_start_7 rfl (lv_at hl 2 rfl) ?_
  refine p_calli (va_runV (As := [.int (nI 1), .int (nI w)]) (rest := []) C.fix (e_X13_refuse1 l D cy S1 H.size mm me sg cn im w hL2 hf3 (by first | assumption | decide | omega) (by first | assumption | decide | omega)) (cwV 2 C.2.2.2.2.1 (gU_V mw_402 mw_403 mw_404 mw_5 (subU mw_405)) rfl rfl rfl hde_X13_start1_V_0 ⟨Nat.le_of_ble_eq_true rfl, Nat.le_of_ble_eq_true rfl⟩) (p_preV C hw hL2 hf3 rfl) rfl rfl hl.1 rfl (lv_room (Nat.le_of_ble_eq_true rfl)) dX13_start_8 ⟨(Nat.le_of_ble_eq_true rfl), (Nat.le_of_ble_eq_true rfl)⟩) hw hA (fun r5 S4 H locs hpost hw => ?_)
  obtain ⟨hr_, hS6, hfr7, hf8⟩ := hpost
  subst hr_
  have hL9 : mm ∈ S4.1 := by rw [hS6]; exact List.mem_append_left _ hL2
  exact (p_zret C hw (⟨rfl, (by simp only [hS6, hS1, pup, pnew, List.append_nil, List.append_assoc, List.cons_append, List.nil_append]), (fun a_ ha_ hn_0 => ((hfr7 a_ (show a_ ∈ S1.1 from by rw [hS1]; exact ha_) hn_0).trans (show S1.2 a_ = S.2 a_ from by rw [hS1]; exact pup_n hn_0))), hf8⟩) hr rfl hlocks dX13_start_11)

set_option maxHeartbeats 4000000 in
set_option maxRecDepth 100000 in
theorem e_X13_plain (l : Launch) (D : va_G) (cy : Nat → ClassId) (S : pS) (sz : Nat) (mm : Nat) (me : Nat) (sg : Nat) (cn : Nat) (im : Nat) (v : Int32) (t0 : Nat) (hL_mm : mm ∈ S.1) (hf_mm : S.2 mm = .inr (13, [.int (nI t0), .ref me, .ref sg, .ref cn, .ref im]))  : Met l yX13_plain (Cond.code yX13_plain cX13_plain 2 (some .int) :: lwU) ({ frames := 0, cells := 0, slots := 0, locals := 0 }) (pPc D cy S sz [.ref mm, .int v]) (pQi D cy S sz (fun r S' => r = v ∧ S'.1 = S.1 ++ [] ∧ (∀ a_, a_ ∈ S.1 → a_ ≠ mm → S'.2 a_ = S.2 a_) ∧ S'.2 mm = .inr (13, [.int (nI 0), .ref me, .ref sg, .ref cn, .ref im]))) 0 0 (pA S sz) := by
  refine Met.ofW (cc := cX13_plain) (maxL := 2) (ret := (some .int)) (by decide) rfl ?_
  intro p e s m args below meth c s₁ B hml hv
  obtain ⟨rfl, rfl, C, hw, hA, hr, hlocks⟩ := p_start B hml hv
  have hx := C.1
  have hb := C.2.1
  have hl := lv_entry ([.ref mm, .int v]) (n := 2) (Nat.le_of_ble_eq_true rfl)
  rw [lg_entry_eq]
  generalize (lg_sl ([.ref mm, .int v]) ++ List.replicate (2 - (lg_sl ([.ref mm, .int v])).length) Slot.unset).toArray = ls at hl ⊢
  have hl : lv_has ls 2 [(0, .ref mm), (1, .int v)] := hl
  have hin_RX13 : ∀ w ∈ u_ws RX13 TX13 5, w ∈ (Cond.code yX13_plain cX13_plain 2 (some .int) :: lwU) := fun w h => mU (sub_RX13 w h)
  refine lv_aload_n hx hb dX13_plain_0 rfl (lv_at hl 0 rfl) ?_
  refine lv_iconst (v := nI 0) hx hb dX13_plain_1 (by decide) ?_
  refine p_put C hw (ci := 13) (Cn := RX13) (T := TX13) (N := 5) tyX13 tyX13_ok nmX13 hL_mm hf_mm rfl hin_RX13 0 (by decide) (mU mw_401) rfl rfl rfl rfl rfl (by simp) dX13_plain_2 rfl (fun H locs hw => ?_)
  obtain ⟨S1, hS1⟩ : ∃ z, z = pup S mm (.inr (13, [.int (nI 0), .ref me, .ref sg, .ref cn, .ref im])) := ⟨_, rfl⟩
  replace hw : pW D (pA S s.heap.size) s.heap S1 H locs := by rw [hS1]; exact hw
  have hL2 : mm ∈ S1.1 := by rw [hS1]; exact hL_mm
  have hf3 : S1.2 mm = .inr (13, [.int (nI 0), .ref me, .ref sg, .ref cn, .ref im]) := by rw [hS1]; exact pup_s
  refine lv_iload_n hx hb dX13_plain_5 rfl (lv_at hl 1 rfl) ?_
  exact (p_iret C hw (⟨rfl, (by simp only [hS1, pup, pnew, List.append_nil, List.append_assoc, List.cons_append, List.nil_append]), (fun a_ ha_ hn_0 => (show S1.2 a_ = S.2 a_ from by rw [hS1]; exact pup_n hn_0)), hf3⟩) hr hlocks dX13_plain_6)

set_option maxHeartbeats 4000000 in
set_option maxRecDepth 100000 in
theorem e_X13_thrown (l : Launch) (D : va_G) (cy : Nat → ClassId) (S : pS) (sz : Nat) (mm : Nat) (me : Nat) (sg : Nat) (cn : Nat) (im : Nat) (t0 : Nat) (hL_mm : mm ∈ S.1) (hf_mm : S.2 mm = .inr (13, [.int (nI t0), .ref me, .ref sg, .ref cn, .ref im]))  : Met l yX13_thrown (Cond.code yX13_thrown cX13_thrown 1 (some .int) :: lwU) ({ frames := 0, cells := 0, slots := 0, locals := 0 }) (pPc D cy S sz [.ref mm]) (pQi D cy S sz (fun r S' => r = (nI t0) ∧ S = S')) 0 0 (pA S sz) := by
  refine Met.ofW (cc := cX13_thrown) (maxL := 1) (ret := (some .int)) (by decide) rfl ?_
  intro p e s m args below meth c s₁ B hml hv
  obtain ⟨rfl, rfl, C, hw, hA, hr, hlocks⟩ := p_start B hml hv
  have hx := C.1
  have hb := C.2.1
  have hl := lv_entry ([.ref mm]) (n := 1) (Nat.le_of_ble_eq_true rfl)
  rw [lg_entry_eq]
  generalize (lg_sl ([.ref mm]) ++ List.replicate (1 - (lg_sl ([.ref mm])).length) Slot.unset).toArray = ls at hl ⊢
  have hl : lv_has ls 1 [(0, .ref mm)] := hl
  have hin_RX13 : ∀ w ∈ u_ws RX13 TX13 5, w ∈ (Cond.code yX13_thrown cX13_thrown 1 (some .int) :: lwU) := fun w h => mU (sub_RX13 w h)
  refine lv_aload_n hx hb dX13_thrown_0 rfl (lv_at hl 0 rfl) ?_
  refine p_get C hw (ci := 13) (Cn := RX13) (T := TX13) (N := 5) hL_mm hf_mm rfl hin_RX13 0 (by decide) (mU mw_401) rfl rfl dX13_thrown_1 ?_
  exact (p_iret C hw (⟨rfl, rfl⟩) hr hlocks dX13_thrown_4)

set_option maxHeartbeats 4000000 in
set_option maxRecDepth 100000 in
theorem e_X13_init (l : Launch) (D : va_G) (cy : Nat → ClassId) (ed : Nat) (S : pS) (sz : Nat) (mm : Nat) (hL_mm : mm ∈ S.1) (hf_mm : S.2 mm = .inr (13, [.int (nI 0), .null, .null, .null, .null]))  : Met l yX13_init (Cond.code yX13_init cX13_init 1 none :: lwU) ({ frames := 4, cells := 4, slots := 327, locals := 72 }) (ePc D cy ed S sz [.ref mm]) (pQv D cy S sz (fun S' => ∃ (me : Nat) (sg : Nat) (cn : Nat) (im : Nat), S'.1 = S.1 ++ [me, sg, cn, im] ∧ (∀ a_, a_ ∈ S.1 → a_ ≠ mm → S'.2 a_ = S.2 a_) ∧ S'.2 mm = .inr (13, [.int (nI 0), .ref me, .ref sg, .ref cn, .ref im]) ∧ S'.2 me = .inl (cy 0, 0, .inl (fun _ => 0)) ∧ S'.2 sg = .inr (0, [.int (nI 0), .ref ed, .int (nI 0)]) ∧ S'.2 cn = .inl (cy 0, 4, .inl (upd (upd (upd (upd (fun _ => 0) 0 (nI 0)) 1 (nI 0)) 2 (nI 0)) 3 (nI 1))) ∧ S'.2 im = .inl (cy 1, 320, .inl (fun _ => 0)))) 4 327 (pA S sz) := by
  refine Met.ofW (cc := cX13_init) (maxL := 1) (ret := none) (by decide) rfl ?_
  intro p e s m args below meth c s₁ B hml hv
  have hin : meth.name = "<init>" := (name_of_methodNamed B.named B.method).1
  obtain ⟨rfl, rfl, C, hw, hA, hr, hlocks, hE⟩ := e_start B hml hv
  have hx := C.1
  have hb := C.2.1
  have hl := lv_entry ([.ref mm]) (n := 1) (Nat.le_of_ble_eq_true rfl)
  rw [lg_entry_eq]
  generalize (lg_sl ([.ref mm]) ++ List.replicate (1 - (lg_sl ([.ref mm])).length) Slot.unset).toArray = ls at hl ⊢
  have hl : lv_has ls 1 [(0, .ref mm)] := hl
  have hin_RJx4a65c : ∀ w ∈ u_ws RJx4a65c TJx4a65c 3, w ∈ (Cond.code yX13_init cX13_init 1 none :: lwU) := fun w h => mU (sub_RJx4a65c w h)
  have hin_RX13 : ∀ w ∈ u_ws RX13 TX13 5, w ∈ (Cond.code yX13_init cX13_init 1 none :: lwU) := fun w h => mU (sub_RX13 w h)
  refine lv_aload_n hx hb dX13_init_0 rfl (lv_at hl 0 rfl) ?_
  refine W.objInit hx hb C.2.2.2.1 (C.2.2.2.2.1 (.methodLink RX13 1 objectInit) (mU mw_85)) (C.2.2.2.2.1 (.instanceMethod objectInit) (mU mw_12)) (C.2.2.2.2.1 _ (mU mw_13)) rfl (by rw [hml]; exact hl.1) rfl dX13_init_1 (Nat.le_of_ble_eq_true rfl) (Nat.le_of_ble_eq_true rfl) ?_
  refine W.eq (g2 := F0 m 4 ls []) rfl ?_
  refine lv_aload_n hx hb dX13_init_4 rfl (lv_at hl 0 rfl) ?_
  refine lv_iconst (v := nI 0) hx hb dX13_init_5 (by decide) ?_
  refine p_newa C hw hA (mU mw_59) 0 rfl (n := 0) (by first | decide | omega) (Nat.le_of_ble_eq_true rfl) (Nat.le_of_ble_eq_true rfl) dX13_init_6 (fun me H hq_me hw => ?_)
  obtain ⟨S1, hS1⟩ : ∃ z, z = pnew S me (.inl (cy 0, 0, .inl (fun _ => 0))) := ⟨_, rfl⟩
  replace hw : pW D (pA S s.heap.size) s.heap S1 H [] := by rw [hS1]; exact hw
  have hL2 : me ∈ S1.1 := by rw [hS1]; exact List.mem_append_right _ List.mem_cons_self
  have hf3 : S1.2 me = .inl (cy 0, 0, .inl (fun _ => 0)) := by rw [hS1]; exact pnew_s
  have hL4 : mm ∈ S1.1 := by rw [hS1]; exact List.mem_append_left _ hL_mm
  have hf5 : S1.2 mm = .inr (13, [.int (nI 0), .null, .null, .null, .null]) := by rw [hS1]; exact (pnew_n (fun z : mm = me => hq_me (by rw [← z]; exact hL_mm))).trans hf_mm
  refine p_put C hw (ci := 13) (Cn := RX13) (T := TX13) (N := 5) tyX13 tyX13_ok nmX13 hL4 hf5 rfl hin_RX13 1 (by decide) (mU mw_86) rfl rfl rfl rfl rfl (by simp) dX13_init_8 rfl (fun H locs hw => ?_)
  obtain ⟨S6, hS6⟩ : ∃ z, z = pup S1 mm (.inr (13, [.int (nI 0), .ref me, .null, .null, .null])) := ⟨_, rfl⟩
  replace hw : pW D (pA S s.heap.size) s.heap S6 H locs := by rw [hS6]; exact hw
  have hL7 : mm ∈ S6.1 := by rw [hS6]; exact hL4
  have hf8 : S6.2 mm = .inr (13, [.int (nI 0), .ref me, .null, .null, .null]) := by rw [hS6]; exact pup_s
  refine lv_aload_n hx hb dX13_init_11 rfl (lv_at hl 0 rfl) ?_
  refine p_new C hw hA (ci := 0) (Cn := RJx4a65c) (T := TJx4a65c) (N := 3) (fs := [.int (nI 0), .null, .int (nI 0)]) tyJx4a65c tyJx4a65c_ok rfl hin_RJx4a65c (mU mw_87) (mU mw_88) (mU mw_89) (fun j hj => by rcases (show j = 0 ∨ j = 1 ∨ j = 2 by omega) with rfl | rfl | rfl <;> rfl) (Nat.le_of_ble_eq_true rfl) (Nat.le_of_ble_eq_true rfl) dX13_init_12 (fun sg H hq_sg hw => ?_)
  obtain ⟨S9, hS9⟩ : ∃ z, z = pnew S6 sg (.inr (0, [.int (nI 0), .null, .int (nI 0)])) := ⟨_, rfl⟩
  replace hw : pW D (pA S s.heap.size) s.heap S9 H locs := by rw [hS9]; exact hw
  have hL10 : sg ∈ S9.1 := by rw [hS9]; exact List.mem_append_right _ List.mem_cons_self
  have hf11 : S9.2 sg = .inr (0, [.int (nI 0), .null, .int (nI 0)]) := by rw [hS9]; exact pnew_s
  refine lv_dup hx hb dX13_init_15 rfl ?_
  refine p_callv (va_runI (As := []) (rest := [.ref sg, .ref mm]) C.fix (e_Jx4a65c_init_da8c8 l D cy ed S9 H.size sg 0 0 hL10 hf11 ) (cwI 0 C.2.2.2.2.1 (gU_sub (subU mw_96)) rfl rfl rfl (C.2.2.2.2.1 (.initialized RJx4a65c) (mU mw_89)) (C.2.2.2.2.1 (.methodLink RX13 15 yJx4a65c_init_da8c8) (mU mw_94)) (C.2.2.2.2.1 (.instanceMethod yJx4a65c_init_da8c8) (mU mw_95)) rfl (by decide +kernel) ⟨Nat.le_of_ble_eq_true rfl, Nat.le_of_ble_eq_true rfl⟩) (e_preS C hw hA hE) rfl rfl hl.1 rfl (lv_room (Nat.le_of_ble_eq_true rfl)) dX13_init_16 ⟨(Nat.le_of_ble_eq_true rfl), (Nat.le_of_ble_eq_true rfl)⟩) hw hA (fun S12 H locs hpost hw => ?_)
  obtain ⟨hS14, hfr15, hf16⟩ := hpost
  have hL17 : sg ∈ S12.1 := by rw [hS14]; exact List.mem_append_left _ hL10
  have hL18 : mm ∈ S9.1 := by rw [hS9]; exact List.mem_append_left _ hL7
  have hf19 : S9.2 mm = .inr (13, [.int (nI 0), .ref me, .null, .null, .null]) := by rw [hS9]; exact (pnew_n (fun z : mm = sg => hq_sg (by rw [← z]; exact hL7))).trans hf8
  have hL20 : mm ∈ S12.1 := by rw [hS14]; exact List.mem_append_left _ hL18
  have hf21 : S12.2 mm = .inr (13, [.int (nI 0), .ref me, .null, .null, .null]) := (hfr15 mm hL18 (fun z : mm = sg => hq_sg (by rw [← z]; exact hL7))).trans hf19
  refine p_putF C hw (ci := 13) (Cn := RX13) (T := TX13) (N := 5) tyX13 tyX13_ok nmX13 hL20 hf21 rfl hin_RX13 2 (by decide) (mU mw_90) rfl rfl hin rfl rfl rfl rfl (by simp) dX13_init_19 rfl (fun H locs hw => ?_)
  obtain ⟨S22, hS22⟩ : ∃ z, z = pup S12 mm (.inr (13, [.int (nI 0), .ref me, .ref sg, .null, .null])) := ⟨_, rfl⟩
  replace hw : pW D (pA S s.heap.size) s.heap S22 H locs := by rw [hS22]; exact hw
  have hL23 : mm ∈ S22.1 := by rw [hS22]; exact hL20
  have hf24 : S22.2 mm = .inr (13, [.int (nI 0), .ref me, .ref sg, .null, .null]) := by rw [hS22]; exact pup_s
  refine lv_aload_n hx hb dX13_init_22 rfl (lv_at hl 0 rfl) ?_
  refine lv_iconst (v := nI 4) hx hb dX13_init_23 (by decide) ?_
  refine p_newa C hw hA (mU mw_59) 0 rfl (n := 4) (by first | decide | omega) (Nat.le_of_ble_eq_true rfl) (Nat.le_of_ble_eq_true rfl) dX13_init_24 (fun cn H hq_cn hw => ?_)
  obtain ⟨S25, hS25⟩ : ∃ z, z = pnew S22 cn (.inl (cy 0, 4, .inl (fun _ => 0))) := ⟨_, rfl⟩
  replace hw : pW D (pA S s.heap.size) s.heap S25 H locs := by rw [hS25]; exact hw
  have hL26 : cn ∈ S25.1 := by rw [hS25]; exact List.mem_append_right _ List.mem_cons_self
  have hf27 : S25.2 cn = .inl (cy 0, 4, .inl (fun _ => 0)) := by rw [hS25]; exact pnew_s
  refine lv_dup hx hb dX13_init_26 rfl ?_
  refine lv_iconst (v := nI 0) hx hb dX13_init_27 (by decide) ?_
  refine lv_iconst (v := nI 0) hx hb dX13_init_28 (by decide) ?_
  refine p_ast C hw 0 rfl hL26 hf27 (by first | decide | omega) (by first | decide | omega) dX13_init_29 (fun H locs hw => ?_)
  obtain ⟨S28, hS28⟩ : ∃ z, z = pup S25 cn (.inl (cy 0, 4, .inl (upd (fun _ => 0) 0 (nI 0)))) := ⟨_, rfl⟩
  replace hw : pW D (pA S s.heap.size) s.heap S28 H locs := by rw [hS28]; exact hw
  have hL29 : cn ∈ S28.1 := by rw [hS28]; exact hL26
  have hf30 : S28.2 cn = .inl (cy 0, 4, .inl (upd (fun _ => 0) 0 (nI 0))) := by rw [hS28]; exact pup_s
  refine lv_dup hx hb dX13_init_30 rfl ?_
  refine lv_iconst (v := nI 1) hx hb dX13_init_31 (by decide) ?_
  refine lv_iconst (v := nI 0) hx hb dX13_init_32 (by decide) ?_
  refine p_ast C hw 0 rfl hL29 hf30 (by first | decide | omega) (by first | decide | omega) dX13_init_33 (fun H locs hw => ?_)
  obtain ⟨S31, hS31⟩ : ∃ z, z = pup S28 cn (.inl (cy 0, 4, .inl (upd (upd (fun _ => 0) 0 (nI 0)) 1 (nI 0)))) := ⟨_, rfl⟩
  replace hw : pW D (pA S s.heap.size) s.heap S31 H locs := by rw [hS31]; exact hw
  have hL32 : cn ∈ S31.1 := by rw [hS31]; exact hL29
  have hf33 : S31.2 cn = .inl (cy 0, 4, .inl (upd (upd (fun _ => 0) 0 (nI 0)) 1 (nI 0))) := by rw [hS31]; exact pup_s
  refine lv_dup hx hb dX13_init_34 rfl ?_
  refine lv_iconst (v := nI 2) hx hb dX13_init_35 (by decide) ?_
  refine lv_iconst (v := nI 0) hx hb dX13_init_36 (by decide) ?_
  refine p_ast C hw 0 rfl hL32 hf33 (by first | decide | omega) (by first | decide | omega) dX13_init_37 (fun H locs hw => ?_)
  obtain ⟨S34, hS34⟩ : ∃ z, z = pup S31 cn (.inl (cy 0, 4, .inl (upd (upd (upd (fun _ => 0) 0 (nI 0)) 1 (nI 0)) 2 (nI 0)))) := ⟨_, rfl⟩
  replace hw : pW D (pA S s.heap.size) s.heap S34 H locs := by rw [hS34]; exact hw
  have hL35 : cn ∈ S34.1 := by rw [hS34]; exact hL32
  have hf36 : S34.2 cn = .inl (cy 0, 4, .inl (upd (upd (upd (fun _ => 0) 0 (nI 0)) 1 (nI 0)) 2 (nI 0))) := by rw [hS34]; exact pup_s
  refine lv_dup hx hb dX13_init_38 rfl ?_
  refine lv_iconst (v := nI 3) hx hb dX13_init_39 (by decide) ?_
  refine lv_iconst (v := nI 1) hx hb dX13_init_40 (by decide) ?_
  refine p_ast C hw 0 rfl hL35 hf36 (by first | decide | omega) (by first | decide | omega) dX13_init_41 (fun H locs hw => ?_)
  obtain ⟨S37, hS37⟩ : ∃ z, z = pup S34 cn (.inl (cy 0, 4, .inl (upd (upd (upd (upd (fun _ => 0) 0 (nI 0)) 1 (nI 0)) 2 (nI 0)) 3 (nI 1)))) := ⟨_, rfl⟩
  replace hw : pW D (pA S s.heap.size) s.heap S37 H locs := by rw [hS37]; exact hw
  have hL38 : cn ∈ S37.1 := by rw [hS37]; exact hL35
  have hf39 : S37.2 cn = .inl (cy 0, 4, .inl (upd (upd (upd (upd (fun _ => 0) 0 (nI 0)) 1 (nI 0)) 2 (nI 0)) 3 (nI 1))) := by rw [hS37]; exact pup_s
  have hL40 : mm ∈ S25.1 := by rw [hS25]; exact List.mem_append_left _ hL23
  have hf41 : S25.2 mm = .inr (13, [.int (nI 0), .ref me, .ref sg, .null, .null]) := by rw [hS25]; exact (pnew_n (fun z : mm = cn => hq_cn (by rw [← z]; exact hL23))).trans hf24
  have hL42 : mm ∈ S28.1 := by rw [hS28]; exact hL40
  have hf43 : S28.2 mm = .inr (13, [.int (nI 0), .ref me, .ref sg, .null, .null]) := by rw [hS28]; exact (pup_n (fun z : mm = cn => hq_cn (by rw [← z]; exact hL23))).trans hf41
  have hL44 : mm ∈ S31.1 := by rw [hS31]; exact hL42
  have hf45 : S31.2 mm = .inr (13, [.int (nI 0), .ref me, .ref sg, .null, .null]) := by rw [hS31]; exact (pup_n (fun z : mm = cn => hq_cn (by rw [← z]; exact hL23))).trans hf43
  have hL46 : mm ∈ S34.1 := by rw [hS34]; exact hL44
  have hf47 : S34.2 mm = .inr (13, [.int (nI 0), .ref me, .ref sg, .null, .null]) := by rw [hS34]; exact (pup_n (fun z : mm = cn => hq_cn (by rw [← z]; exact hL23))).trans hf45
  have hL48 : mm ∈ S37.1 := by rw [hS37]; exact hL46
  have hf49 : S37.2 mm = .inr (13, [.int (nI 0), .ref me, .ref sg, .null, .null]) := by rw [hS37]; exact (pup_n (fun z : mm = cn => hq_cn (by rw [← z]; exact hL23))).trans hf47
  refine p_put C hw (ci := 13) (Cn := RX13) (T := TX13) (N := 5) tyX13 tyX13_ok nmX13 hL48 hf49 rfl hin_RX13 3 (by decide) (mU mw_91) rfl rfl rfl rfl rfl (by simp) dX13_init_42 rfl (fun H locs hw => ?_)
  obtain ⟨S50, hS50⟩ : ∃ z, z = pup S37 mm (.inr (13, [.int (nI 0), .ref me, .ref sg, .ref cn, .null])) := ⟨_, rfl⟩
  replace hw : pW D (pA S s.heap.size) s.heap S50 H locs := by rw [hS50]; exact hw
  have hL51 : mm ∈ S50.1 := by rw [hS50]; exact hL48
  have hf52 : S50.2 mm = .inr (13, [.int (nI 0), .ref me, .ref sg, .ref cn, .null]) := by rw [hS50]; exact pup_s
  refine lv_aload_n hx hb dX13_init_45 rfl (lv_at hl 0 rfl) ?_
  refine lv_sipush (v := nI 320) hx hb dX13_init_46 (by decide) ?_
  refine p_newz C hw hA (mU mw_92) 1 rfl (n := 320) (by first | decide | omega) (Nat.le_of_ble_eq_true rfl) (Nat.le_of_ble_eq_true rfl) dX13_init_49 (fun im H hq_im hw => ?_)
  obtain ⟨S53, hS53⟩ : ∃ z, z = pnew S50 im (.inl (cy 1, 320, .inl (fun _ => 0))) := ⟨_, rfl⟩
  replace hw : pW D (pA S s.heap.size) s.heap S53 H locs := by rw [hS53]; exact hw
  have hL54 : im ∈ S53.1 := by rw [hS53]; exact List.mem_append_right _ List.mem_cons_self
  have hf55 : S53.2 im = .inl (cy 1, 320, .inl (fun _ => 0)) := by rw [hS53]; exact pnew_s
  have hL56 : mm ∈ S53.1 := by rw [hS53]; exact List.mem_append_left _ hL51
  have hf57 : S53.2 mm = .inr (13, [.int (nI 0), .ref me, .ref sg, .ref cn, .null]) := by rw [hS53]; exact (pnew_n (fun z : mm = im => hq_im (by rw [← z]; exact hL51))).trans hf52
  refine p_putF C hw (ci := 13) (Cn := RX13) (T := TX13) (N := 5) tyX13 tyX13_ok nmX13 hL56 hf57 rfl hin_RX13 4 (by decide) (mU mw_93) rfl rfl hin rfl rfl rfl rfl (by simp) dX13_init_51 rfl (fun H locs hw => ?_)
  obtain ⟨S58, hS58⟩ : ∃ z, z = pup S53 mm (.inr (13, [.int (nI 0), .ref me, .ref sg, .ref cn, .ref im])) := ⟨_, rfl⟩
  replace hw : pW D (pA S s.heap.size) s.heap S58 H locs := by rw [hS58]; exact hw
  have hL59 : mm ∈ S58.1 := by rw [hS58]; exact hL56
  have hf60 : S58.2 mm = .inr (13, [.int (nI 0), .ref me, .ref sg, .ref cn, .ref im]) := by rw [hS58]; exact pup_s
  have hL61 : me ∈ S6.1 := by rw [hS6]; exact hL2
  have hf62 : S6.2 me = .inl (cy 0, 0, .inl (fun _ => 0)) := by rw [hS6]; exact (pup_n (fun z : me = mm => hq_me (by rw [z]; exact hL_mm))).trans hf3
  have hL63 : me ∈ S9.1 := by rw [hS9]; exact List.mem_append_left _ hL61
  have hf64 : S9.2 me = .inl (cy 0, 0, .inl (fun _ => 0)) := by rw [hS9]; exact (pnew_n (fun z : me = sg => hq_sg (by rw [← z]; exact hL61))).trans hf62
  have hL65 : me ∈ S12.1 := by rw [hS14]; exact List.mem_append_left _ hL63
  have hf66 : S12.2 me = .inl (cy 0, 0, .inl (fun _ => 0)) := (hfr15 me hL63 (fun z : me = sg => hq_sg (by rw [← z]; exact hL61))).trans hf64
  have hL67 : me ∈ S22.1 := by rw [hS22]; exact hL65
  have hf68 : S22.2 me = .inl (cy 0, 0, .inl (fun _ => 0)) := by rw [hS22]; exact (pup_n (fun z : me = mm => hq_me (by rw [z]; exact hL_mm))).trans hf66
  have hL69 : me ∈ S25.1 := by rw [hS25]; exact List.mem_append_left _ hL67
  have hf70 : S25.2 me = .inl (cy 0, 0, .inl (fun _ => 0)) := by rw [hS25]; exact (pnew_n (fun z : me = cn => hq_cn (by rw [← z]; exact hL67))).trans hf68
  have hL71 : me ∈ S28.1 := by rw [hS28]; exact hL69
  have hf72 : S28.2 me = .inl (cy 0, 0, .inl (fun _ => 0)) := by rw [hS28]; exact (pup_n (fun z : me = cn => hq_cn (by rw [← z]; exact hL67))).trans hf70
  have hL73 : me ∈ S31.1 := by rw [hS31]; exact hL71
  have hf74 : S31.2 me = .inl (cy 0, 0, .inl (fun _ => 0)) := by rw [hS31]; exact (pup_n (fun z : me = cn => hq_cn (by rw [← z]; exact hL67))).trans hf72
  have hL75 : me ∈ S34.1 := by rw [hS34]; exact hL73
  have hf76 : S34.2 me = .inl (cy 0, 0, .inl (fun _ => 0)) := by rw [hS34]; exact (pup_n (fun z : me = cn => hq_cn (by rw [← z]; exact hL67))).trans hf74
  have hL77 : me ∈ S37.1 := by rw [hS37]; exact hL75
  have hf78 : S37.2 me = .inl (cy 0, 0, .inl (fun _ => 0)) := by rw [hS37]; exact (pup_n (fun z : me = cn => hq_cn (by rw [← z]; exact hL67))).trans hf76
  have hL79 : me ∈ S50.1 := by rw [hS50]; exact hL77
  have hf80 : S50.2 me = .inl (cy 0, 0, .inl (fun _ => 0)) := by rw [hS50]; exact (pup_n (fun z : me = mm => hq_me (by rw [z]; exact hL_mm))).trans hf78
  have hL81 : me ∈ S53.1 := by rw [hS53]; exact List.mem_append_left _ hL79
  have hf82 : S53.2 me = .inl (cy 0, 0, .inl (fun _ => 0)) := by rw [hS53]; exact (pnew_n (fun z : me = im => hq_im (by rw [← z]; exact hL79))).trans hf80
  have hL83 : me ∈ S58.1 := by rw [hS58]; exact hL81
  have hf84 : S58.2 me = .inl (cy 0, 0, .inl (fun _ => 0)) := by rw [hS58]; exact (pup_n (fun z : me = mm => hq_me (by rw [z]; exact hL_mm))).trans hf82
  have hL85 : sg ∈ S22.1 := by rw [hS22]; exact hL17
  have hf86 : S22.2 sg = .inr (0, [.int (nI 0), .ref ed, .int (nI 0)]) := by rw [hS22]; exact (pup_n (fun z : sg = mm => hq_sg (by rw [z]; exact hL7))).trans hf16
  have hL87 : sg ∈ S25.1 := by rw [hS25]; exact List.mem_append_left _ hL85
  have hf88 : S25.2 sg = .inr (0, [.int (nI 0), .ref ed, .int (nI 0)]) := by rw [hS25]; exact (pnew_n (fun z : sg = cn => hq_cn (by rw [← z]; exact hL85))).trans hf86
  have hL89 : sg ∈ S28.1 := by rw [hS28]; exact hL87
  have hf90 : S28.2 sg = .inr (0, [.int (nI 0), .ref ed, .int (nI 0)]) := by rw [hS28]; exact (pup_n (fun z : sg = cn => hq_cn (by rw [← z]; exact hL85))).trans hf88
  have hL91 : sg ∈ S31.1 := by rw [hS31]; exact hL89
  have hf92 : S31.2 sg = .inr (0, [.int (nI 0), .ref ed, .int (nI 0)]) := by rw [hS31]; exact (pup_n (fun z : sg = cn => hq_cn (by rw [← z]; exact hL85))).trans hf90
  have hL93 : sg ∈ S34.1 := by rw [hS34]; exact hL91
  have hf94 : S34.2 sg = .inr (0, [.int (nI 0), .ref ed, .int (nI 0)]) := by rw [hS34]; exact (pup_n (fun z : sg = cn => hq_cn (by rw [← z]; exact hL85))).trans hf92
  have hL95 : sg ∈ S37.1 := by rw [hS37]; exact hL93
  have hf96 : S37.2 sg = .inr (0, [.int (nI 0), .ref ed, .int (nI 0)]) := by rw [hS37]; exact (pup_n (fun z : sg = cn => hq_cn (by rw [← z]; exact hL85))).trans hf94
  have hL97 : sg ∈ S50.1 := by rw [hS50]; exact hL95
  have hf98 : S50.2 sg = .inr (0, [.int (nI 0), .ref ed, .int (nI 0)]) := by rw [hS50]; exact (pup_n (fun z : sg = mm => hq_sg (by rw [z]; exact hL7))).trans hf96
  have hL99 : sg ∈ S53.1 := by rw [hS53]; exact List.mem_append_left _ hL97
  have hf100 : S53.2 sg = .inr (0, [.int (nI 0), .ref ed, .int (nI 0)]) := by rw [hS53]; exact (pnew_n (fun z : sg = im => hq_im (by rw [← z]; exact hL97))).trans hf98
  have hL101 : sg ∈ S58.1 := by rw [hS58]; exact hL99
  have hf102 : S58.2 sg = .inr (0, [.int (nI 0), .ref ed, .int (nI 0)]) := by rw [hS58]; exact (pup_n (fun z : sg = mm => hq_sg (by rw [z]; exact hL7))).trans hf100
  have hL103 : cn ∈ S50.1 := by rw [hS50]; exact hL38
  have hf104 : S50.2 cn = .inl (cy 0, 4, .inl (upd (upd (upd (upd (fun _ => 0) 0 (nI 0)) 1 (nI 0)) 2 (nI 0)) 3 (nI 1))) := by rw [hS50]; exact (pup_n (fun z : cn = mm => hq_cn (by rw [z]; exact hL23))).trans hf39
  have hL105 : cn ∈ S53.1 := by rw [hS53]; exact List.mem_append_left _ hL103
  have hf106 : S53.2 cn = .inl (cy 0, 4, .inl (upd (upd (upd (upd (fun _ => 0) 0 (nI 0)) 1 (nI 0)) 2 (nI 0)) 3 (nI 1))) := by rw [hS53]; exact (pnew_n (fun z : cn = im => hq_im (by rw [← z]; exact hL103))).trans hf104
  have hL107 : cn ∈ S58.1 := by rw [hS58]; exact hL105
  have hf108 : S58.2 cn = .inl (cy 0, 4, .inl (upd (upd (upd (upd (fun _ => 0) 0 (nI 0)) 1 (nI 0)) 2 (nI 0)) 3 (nI 1))) := by rw [hS58]; exact (pup_n (fun z : cn = mm => hq_cn (by rw [z]; exact hL23))).trans hf106
  have hL109 : im ∈ S58.1 := by rw [hS58]; exact hL54
  have hf110 : S58.2 im = .inl (cy 1, 320, .inl (fun _ => 0)) := by rw [hS58]; exact (pup_n (fun z : im = mm => hq_im (by rw [z]; exact hL51))).trans hf55
  exact (p_vret C hw (⟨me, sg, cn, im, (by simp only [hS58, hS53, hS50, hS37, hS34, hS31, hS28, hS25, hS22, hS14, hS9, hS6, hS1, pup, pnew, List.append_nil, List.append_assoc, List.cons_append, List.nil_append]), (fun a_ ha_ hn_0 => ((show S58.2 a_ = S53.2 a_ from by rw [hS58]; exact pup_n hn_0).trans ((show S53.2 a_ = S50.2 a_ from by rw [hS53]; exact pnew_n (fun z : a_ = im => hq_im (by rw [← z]; exact (show a_ ∈ S50.1 from by rw [hS50]; exact (show a_ ∈ S37.1 from by rw [hS37]; exact (show a_ ∈ S34.1 from by rw [hS34]; exact (show a_ ∈ S31.1 from by rw [hS31]; exact (show a_ ∈ S28.1 from by rw [hS28]; exact (show a_ ∈ S25.1 from by rw [hS25]; exact List.mem_append_left _ (show a_ ∈ S22.1 from by rw [hS22]; exact (show a_ ∈ S12.1 from by rw [hS14]; exact List.mem_append_left _ (show a_ ∈ S9.1 from by rw [hS9]; exact List.mem_append_left _ (show a_ ∈ S6.1 from by rw [hS6]; exact (show a_ ∈ S1.1 from by rw [hS1]; exact List.mem_append_left _ ha_)))))))))))))).trans ((show S50.2 a_ = S37.2 a_ from by rw [hS50]; exact pup_n hn_0).trans ((show S37.2 a_ = S34.2 a_ from by rw [hS37]; exact pup_n (fun z : a_ = cn => hq_cn (by rw [← z]; exact (show a_ ∈ S22.1 from by rw [hS22]; exact (show a_ ∈ S12.1 from by rw [hS14]; exact List.mem_append_left _ (show a_ ∈ S9.1 from by rw [hS9]; exact List.mem_append_left _ (show a_ ∈ S6.1 from by rw [hS6]; exact (show a_ ∈ S1.1 from by rw [hS1]; exact List.mem_append_left _ ha_)))))))).trans ((show S34.2 a_ = S31.2 a_ from by rw [hS34]; exact pup_n (fun z : a_ = cn => hq_cn (by rw [← z]; exact (show a_ ∈ S22.1 from by rw [hS22]; exact (show a_ ∈ S12.1 from by rw [hS14]; exact List.mem_append_left _ (show a_ ∈ S9.1 from by rw [hS9]; exact List.mem_append_left _ (show a_ ∈ S6.1 from by rw [hS6]; exact (show a_ ∈ S1.1 from by rw [hS1]; exact List.mem_append_left _ ha_)))))))).trans ((show S31.2 a_ = S28.2 a_ from by rw [hS31]; exact pup_n (fun z : a_ = cn => hq_cn (by rw [← z]; exact (show a_ ∈ S22.1 from by rw [hS22]; exact (show a_ ∈ S12.1 from by rw [hS14]; exact List.mem_append_left _ (show a_ ∈ S9.1 from by rw [hS9]; exact List.mem_append_left _ (show a_ ∈ S6.1 from by rw [hS6]; exact (show a_ ∈ S1.1 from by rw [hS1]; exact List.mem_append_left _ ha_)))))))).trans ((show S28.2 a_ = S25.2 a_ from by rw [hS28]; exact pup_n (fun z : a_ = cn => hq_cn (by rw [← z]; exact (show a_ ∈ S22.1 from by rw [hS22]; exact (show a_ ∈ S12.1 from by rw [hS14]; exact List.mem_append_left _ (show a_ ∈ S9.1 from by rw [hS9]; exact List.mem_append_left _ (show a_ ∈ S6.1 from by rw [hS6]; exact (show a_ ∈ S1.1 from by rw [hS1]; exact List.mem_append_left _ ha_)))))))).trans ((show S25.2 a_ = S22.2 a_ from by rw [hS25]; exact pnew_n (fun z : a_ = cn => hq_cn (by rw [← z]; exact (show a_ ∈ S22.1 from by rw [hS22]; exact (show a_ ∈ S12.1 from by rw [hS14]; exact List.mem_append_left _ (show a_ ∈ S9.1 from by rw [hS9]; exact List.mem_append_left _ (show a_ ∈ S6.1 from by rw [hS6]; exact (show a_ ∈ S1.1 from by rw [hS1]; exact List.mem_append_left _ ha_)))))))).trans ((show S22.2 a_ = S12.2 a_ from by rw [hS22]; exact pup_n hn_0).trans ((hfr15 a_ (show a_ ∈ S9.1 from by rw [hS9]; exact List.mem_append_left _ (show a_ ∈ S6.1 from by rw [hS6]; exact (show a_ ∈ S1.1 from by rw [hS1]; exact List.mem_append_left _ ha_))) (fun z : a_ = sg => hq_sg (by rw [← z]; exact (show a_ ∈ S6.1 from by rw [hS6]; exact (show a_ ∈ S1.1 from by rw [hS1]; exact List.mem_append_left _ ha_))))).trans ((show S9.2 a_ = S6.2 a_ from by rw [hS9]; exact pnew_n (fun z : a_ = sg => hq_sg (by rw [← z]; exact (show a_ ∈ S6.1 from by rw [hS6]; exact (show a_ ∈ S1.1 from by rw [hS1]; exact List.mem_append_left _ ha_))))).trans ((show S6.2 a_ = S1.2 a_ from by rw [hS6]; exact pup_n hn_0).trans (show S1.2 a_ = S.2 a_ from by rw [hS1]; exact pnew_n (fun z : a_ = me => hq_me (by rw [← z]; exact ha_)))))))))))))))), hf60, hf84, hf102, hf108, hf110⟩) hr hlocks dX13_init_54)
