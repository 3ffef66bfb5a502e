theorem okF_in {x : Int32} {k P : Nat} (hP : P = 2 ^ k) : (((0 : Nat) : Int) ≤ x.toInt ∧ x.toInt ≤ ((P - 1 : Nat) : Int)) ↔ okF x k := by
  have h0 : 0 < P := by rw [hP]; exact Nat.two_pow_pos k
  have e : ((2 : Int) ^ k) = ((P : Nat) : Int) := by rw [hP]; simp
  unfold okF
  rw [e]
  constructor
  · intro h; exact ⟨by omega, by omega⟩
  · intro h; exact ⟨by omega, by omega⟩
theorem okF_in1 {x : Int32} {k P : Nat} (hP : P = 2 ^ k) : (((1 : Nat) : Int) ≤ x.toInt ∧ x.toInt ≤ ((P - 1 : Nat) : Int)) ↔ (x.toInt ≠ 0 ∧ okF x k) := by
  rw [← okF_in hP]
  constructor
  · intro h; exact ⟨by omega, by omega, by omega⟩
  · intro h; exact ⟨by omega, by omega⟩
theorem mk_t {p i : Nat} {v : Int32} (h : (upd (fun _ => (0 : Int32)) p v i).toInt ≠ 0) : i = p := by
  by_cases e : i = p
  · exact e
  · rw [pk_un e] at h; exact absurd rfl h
theorem mk_f {p i : Nat} (h : (upd (fun _ => (0 : Int32)) p (vp_nar .boolean (nI 1)) i).toInt = 0) : i ≠ p := fun e => by
  subst e; rw [pk_us] at h; revert h; decide
theorem hde_X13_length_V_0 : yX13_plain.cls = RX13 ∧ yX13_plain.cls ≠ "java/lang/invoke/MethodHandle" ∧ yX13_plain.cls ≠ "java/lang/invoke/VarHandle" ∧ (parseMethodDescriptor yX13_plain.desc).map (fun d => d.parameters.length) = some 1 := by decide +kernel
set_option maxHeartbeats 4000000 in
set_option maxRecDepth 100000 in
theorem e_X13_length (l : Launch) (D : va_G) (cy : Nat → ClassId) (ed : Nat) (S : pS) (sz : Nat) (mm : Nat) (me : Nat) (sg : Nat) (cn : Nat) (im : Nat) (hL_mm : mm ∈ S.1) (hf_mm : S.2 mm = .inr (13, [.int (nI 0), .ref me, .ref sg, .ref cn, .ref im])) (hL_me : me ∈ S.1) (hf_me : S.2 me = .inl (cy 0, 0, .inl (fun _ => 0)))  : Met l yX13_length (Cond.code yX13_length cX13_length 1 (some .int) :: lwU) ({ frames := 1, cells := 0, slots := 0, locals := 21 }) (ePc D cy ed S sz [.ref mm]) (pQi D cy S sz (fun r S' => ∃ (nl : List Nat), r = (nI 0) ∧ S'.1 = S.1 ++ nl ∧ (∀ a_, a_ ∈ S.1 → a_ ≠ mm → S'.2 a_ = S.2 a_) ∧ S'.2 mm = .inr (13, [.int (nI 0), .ref me, .ref sg, .ref cn, .ref im]))) 0 0 (pA S sz) := by
  refine Met.ofW (cc := cX13_length) (maxL := 1) (ret := (some .int)) (by decide) rfl ?_
  intro p e s m args below meth c s₁ B hml hv
  obtain ⟨rfl, rfl, C, hw, hA, hr, hlocks, hE⟩ := e_start B hml hv
  have hx := C.1
  have hb := C.2.1
  have hl := lv_entry ([.ref mm]) (n := 1) (Nat.le_of_ble_eq_true rfl)
  rw [lg_entry_eq]
  generalize (lg_sl ([.ref mm]) ++ List.replicate (1 - (lg_sl ([.ref mm])).length) Slot.unset).toArray = ls at hl ⊢
  have hl : lv_has ls 1 [(0, .ref mm)] := hl
  have hin_RX13 : ∀ w ∈ u_ws RX13 TX13 5, w ∈ (Cond.code yX13_length cX13_length 1 (some .int) :: lwU) := fun w h => mU (sub_RX13 w h)
  refine lv_aload_n hx hb dX13_length_0 rfl (lv_at hl 0 rfl) ?_
  refine lv_aload_n hx hb dX13_length_1 rfl (lv_at hl 0 rfl) ?_
  refine p_get C hw (ci := 13) (Cn := RX13) (T := TX13) (N := 5) hL_mm hf_mm rfl hin_RX13 1 (by decide) (mU mw_86) rfl rfl dX13_length_2 ?_
  refine n_len C hw 0 rfl hL_me hf_me (n := 0) rfl dX13_length_5 ?_
  refine p_calli (va_runV (As := [.int (nI 0)]) (rest := []) C.fix (e_X13_plain l D cy S s.heap.size mm me sg cn im (nI 0) 0 hL_mm hf_mm ) (cwV 1 C.2.2.2.2.1 (gU_V mw_556 mw_557 mw_558 mw_5 (subU mw_559)) rfl rfl rfl hde_X13_length_V_0 ⟨Nat.le_of_ble_eq_true rfl, Nat.le_of_ble_eq_true rfl⟩) (p_preV C hw hL_mm hf_mm rfl) rfl rfl hl.1 rfl (lv_room (Nat.le_of_ble_eq_true rfl)) dX13_length_6 ⟨(Nat.le_of_ble_eq_true rfl), (Nat.le_of_ble_eq_true rfl)⟩) hw hA (fun r2 S1 H locs hpost hw => ?_)
  obtain ⟨hr_, hS3, hfr4, hf5⟩ := hpost
  subst hr_
  have hL6 : mm ∈ S1.1 := by rw [hS3]; exact List.mem_append_left _ hL_mm
  exact (p_iret C hw (⟨[], rfl, (by simp only [hS3, pup, pnew, List.append_nil, List.append_assoc, List.cons_append, List.nil_append]), (fun a_ ha_ hn_0 => (hfr4 a_ ha_ hn_0)), hf5⟩) hr hlocks dX13_length_9)

theorem hde_X13_stages_V_0 : yJx4a65c_size_8abf5.cls = RJx4a65c ∧ yJx4a65c_size_8abf5.cls ≠ "java/lang/invoke/MethodHandle" ∧ yJx4a65c_size_8abf5.cls ≠ "java/lang/invoke/VarHandle" ∧ (parseMethodDescriptor yJx4a65c_size_8abf5.desc).map (fun d => d.parameters.length) = some 0 := by decide +kernel
theorem hde_X13_stages_V_1 : yX13_plain.cls = RX13 ∧ yX13_plain.cls ≠ "java/lang/invoke/MethodHandle" ∧ yX13_plain.cls ≠ "java/lang/invoke/VarHandle" ∧ (parseMethodDescriptor yX13_plain.desc).map (fun d => d.parameters.length) = some 1 := by decide +kernel
set_option maxHeartbeats 4000000 in
set_option maxRecDepth 100000 in
theorem e_X13_stages (l : Launch) (D : va_G) (cy : Nat → ClassId) (ed : Nat) (S : pS) (sz : Nat) (mm : Nat) (me : Nat) (sg : Nat) (cn : Nat) (im : Nat) (hL_mm : mm ∈ S.1) (hf_mm : S.2 mm = .inr (13, [.int (nI 0), .ref me, .ref sg, .ref cn, .ref im])) (hL_sg : sg ∈ S.1) (hf_sg : S.2 sg = .inr (0, [.int (nI 0), .ref ed, .int (nI 0)]))  : Met l yX13_stages (Cond.code yX13_stages cX13_stages 1 (some .int) :: lwU) ({ frames := 1, cells := 0, slots := 0, locals := 21 }) (ePc D cy ed S sz [.ref mm]) (pQi D cy S sz (fun r S' => ∃ (nl : List Nat), r = (nI 0) ∧ S'.1 = S.1 ++ nl ∧ (∀ a_, a_ ∈ S.1 → a_ ≠ mm → S'.2 a_ = S.2 a_) ∧ S'.2 mm = .inr (13, [.int (nI 0), .ref me, .ref sg, .ref cn, .ref im]))) 0 0 (pA S sz) := by
  refine Met.ofW (cc := cX13_stages) (maxL := 1) (ret := (some .int)) (by decide) rfl ?_
  intro p e s m args below meth c s₁ B hml hv
  obtain ⟨rfl, rfl, C, hw, hA, hr, hlocks, hE⟩ := e_start B hml hv
  have hx := C.1
  have hb := C.2.1
  have hl := lv_entry ([.ref mm]) (n := 1) (Nat.le_of_ble_eq_true rfl)
  rw [lg_entry_eq]
  generalize (lg_sl ([.ref mm]) ++ List.replicate (1 - (lg_sl ([.ref mm])).length) Slot.unset).toArray = ls at hl ⊢
  have hl : lv_has ls 1 [(0, .ref mm)] := hl
  have hin_RX13 : ∀ w ∈ u_ws RX13 TX13 5, w ∈ (Cond.code yX13_stages cX13_stages 1 (some .int) :: lwU) := fun w h => mU (sub_RX13 w h)
  refine lv_aload_n hx hb dX13_stages_0 rfl (lv_at hl 0 rfl) ?_
  refine lv_aload_n hx hb dX13_stages_1 rfl (lv_at hl 0 rfl) ?_
  refine p_get C hw (ci := 13) (Cn := RX13) (T := TX13) (N := 5) hL_mm hf_mm rfl hin_RX13 2 (by decide) (mU mw_90) rfl rfl dX13_stages_2 ?_
  refine p_calli (va_runV (As := []) (rest := [.ref mm]) C.fix (e_Jx4a65c_size_8abf5 l D cy S s.heap.size sg ed 0 0 hL_sg hf_sg ) (cwV 0 C.2.2.2.2.1 (gU_V mw_464 mw_465 mw_466 mw_89 (subU mw_467)) rfl rfl rfl hde_X13_stages_V_0 ⟨Nat.le_of_ble_eq_true rfl, Nat.le_of_ble_eq_true rfl⟩) (p_preV C hw hL_sg hf_sg rfl) rfl rfl hl.1 rfl (lv_room (Nat.le_of_ble_eq_true rfl)) dX13_stages_5 ⟨(Nat.le_of_ble_eq_true rfl), (Nat.le_of_ble_eq_true rfl)⟩) hw hA (fun r2 S1 H locs hpost hw => ?_)
  obtain ⟨hr_, hS_⟩ := hpost
  subst hr_
  subst hS_
  refine p_calli (va_runV (As := [.int (nI 0)]) (rest := []) C.fix (e_X13_plain l D cy S H.size mm me sg cn im (nI 0) 0 hL_mm hf_mm ) (cwV 1 C.2.2.2.2.1 (gU_V mw_556 mw_557 mw_558 mw_5 (subU mw_559)) rfl rfl rfl hde_X13_stages_V_1 ⟨Nat.le_of_ble_eq_true rfl, Nat.le_of_ble_eq_true rfl⟩) (p_preV C hw hL_mm hf_mm rfl) rfl rfl hl.1 rfl (lv_room (Nat.le_of_ble_eq_true rfl)) dX13_stages_8 ⟨(Nat.le_of_ble_eq_true rfl), (Nat.le_of_ble_eq_true rfl)⟩) hw hA (fun r4 S3 H locs hpost hw => ?_)
  obtain ⟨hr_, hS5, hfr6, hf7⟩ := hpost
  subst hr_
  have hL8 : mm ∈ S3.1 := by rw [hS5]; exact List.mem_append_left _ hL_mm
  exact (p_iret C hw (⟨[], rfl, (by simp only [hS5, pup, pnew, List.append_nil, List.append_assoc, List.cons_append, List.nil_append]), (fun a_ ha_ hn_0 => (hfr6 a_ ha_ hn_0)), hf7⟩) hr hlocks dX13_stages_11)

theorem hde_X13_sent_V_0 : yX13_sentNow.cls = RX13 ∧ yX13_sentNow.cls ≠ "java/lang/invoke/MethodHandle" ∧ yX13_sentNow.cls ≠ "java/lang/invoke/VarHandle" ∧ (parseMethodDescriptor yX13_sentNow.desc).map (fun d => d.parameters.length) = some 0 := by decide +kernel
theorem hde_X13_sent_V_1 : yX13_plain.cls = RX13 ∧ yX13_plain.cls ≠ "java/lang/invoke/MethodHandle" ∧ yX13_plain.cls ≠ "java/lang/invoke/VarHandle" ∧ (parseMethodDescriptor yX13_plain.desc).map (fun d => d.parameters.length) = some 1 := by decide +kernel
set_option maxHeartbeats 4000000 in
set_option maxRecDepth 100000 in
theorem e_X13_sent (l : Launch) (D : va_G) (cy : Nat → ClassId) (ed : Nat) (S : pS) (sz : Nat) (mm : Nat) (me : Nat) (sg : Nat) (cn : Nat) (im : Nat) (hL_mm : mm ∈ S.1) (hf_mm : S.2 mm = .inr (13, [.int (nI 0), .ref me, .ref sg, .ref cn, .ref im])) (hL_me : me ∈ S.1) (hf_me : S.2 me = .inl (cy 0, 0, .inl (fun _ => 0))) (hL_sg : sg ∈ S.1) (hf_sg : S.2 sg = .inr (0, [.int (nI 0), .ref ed, .int (nI 0)]))  : Met l yX13_sent (Cond.code yX13_sent cX13_sent 1 (some .int) :: lwU) ({ frames := 7, cells := 2, slots := 13, locals := 151 }) (ePc D cy ed S sz [.ref mm]) (pQi D cy S sz (fun r S' => ∃ (nl : List Nat), r = (nI 0) ∧ S'.1 = S.1 ++ nl ∧ (∀ a_, a_ ∈ S.1 → a_ ≠ mm → S'.2 a_ = S.2 a_) ∧ S'.2 mm = .inr (13, [.int (nI 0), .ref me, .ref sg, .ref cn, .ref im]))) 2 13 (pA S sz) := by
  refine Met.ofW (cc := cX13_sent) (maxL := 1) (ret := (some .int)) (by decide) rfl ?_
  intro p e s m args below meth c s₁ B hml hv
  obtain ⟨rfl, rfl, C, hw, hA, hr, hlocks, hE⟩ := e_start B hml hv
  have hx := C.1
  have hb := C.2.1
  have hl := lv_entry ([.ref mm]) (n := 1) (Nat.le_of_ble_eq_true rfl)
  rw [lg_entry_eq]
  generalize (lg_sl ([.ref mm]) ++ List.replicate (1 - (lg_sl ([.ref mm])).length) Slot.unset).toArray = ls at hl ⊢
  have hl : lv_has ls 1 [(0, .ref mm)] := hl
  refine lv_aload_n hx hb dX13_sent_0 rfl (lv_at hl 0 rfl) ?_
  refine lv_aload_n hx hb dX13_sent_1 rfl (lv_at hl 0 rfl) ?_
  refine p_callq (va_runV (As := []) (rest := [.ref mm]) C.fix (e_X13_sentNow0 l D cy ed S s.heap.size mm me sg cn im 0 hL_mm hf_mm hL_me hf_me hL_sg hf_sg ) (cwV 0 C.2.2.2.2.1 (gU_V mw_599 mw_600 mw_601 mw_5 (subU mw_602)) rfl rfl rfl hde_X13_sent_V_0 ⟨Nat.le_of_ble_eq_true rfl, Nat.le_of_ble_eq_true rfl⟩) (e_preV C hw hA hE hL_mm hf_mm rfl) rfl rfl hl.1 rfl (lv_room (Nat.le_of_ble_eq_true rfl)) dX13_sent_2 ⟨(Nat.le_of_ble_eq_true rfl), (Nat.le_of_ble_eq_true rfl)⟩) hw hA (fun r2 S1 H locs hpost hw => ?_)
  obtain ⟨rl3, ra4, hr_, hS5, hfr6⟩ := hpost
  subst hr_
  have hnd7 := p_apart hw hS5
  have hq8 : rl3 ∉ S.1 := p_fresh hw hS5 0 rfl
  have hq9 : ra4 ∉ S.1 := p_fresh hw hS5 1 rfl
  have hL10 : me ∈ S1.1 := by rw [hS5]; exact List.mem_append_left _ hL_me
  have hf11 : S1.2 me = .inl (cy 0, 0, .inl (fun _ => 0)) := (hfr6 me hL_me ).trans hf_me
  refine n_len C hw 0 rfl hL10 hf11 (n := 0) rfl dX13_sent_5 ?_
  have hL12 : mm ∈ S1.1 := by rw [hS5]; exact List.mem_append_left _ hL_mm
  have hf13 : S1.2 mm = .inr (13, [.int (nI 0), .ref me, .ref sg, .ref cn, .ref im]) := (hfr6 mm hL_mm ).trans hf_mm
  refine p_calli (va_runV (As := [.int (nI 0)]) (rest := []) C.fix (e_X13_plain l D cy S1 H.size mm me sg cn im (nI 0) 0 hL12 hf13 ) (cwV 1 C.2.2.2.2.1 (gU_V mw_556 mw_557 mw_558 mw_5 (subU mw_559)) rfl rfl rfl hde_X13_sent_V_1 ⟨Nat.le_of_ble_eq_true rfl, Nat.le_of_ble_eq_true rfl⟩) (p_preV C hw hL12 hf13 rfl) rfl rfl hl.1 rfl (lv_room (Nat.le_of_ble_eq_true rfl)) dX13_sent_6 ⟨(Nat.le_of_ble_eq_true rfl), (Nat.le_of_ble_eq_true rfl)⟩) hw hA (fun r15 S14 H locs hpost hw => ?_)
  obtain ⟨hr_, hS16, hfr17, hf18⟩ := hpost
  subst hr_
  have hL19 : mm ∈ S14.1 := by rw [hS16]; exact List.mem_append_left _ hL12
  exact (p_iret C hw (⟨([rl3, ra4]), rfl, (by simp only [hS16, hS5, pup, pnew, List.append_nil, List.append_assoc, List.cons_append, List.nil_append]), (fun a_ ha_ hn_0 => ((hfr17 a_ (show a_ ∈ S1.1 from by rw [hS5]; exact List.mem_append_left _ ha_) hn_0).trans (hfr6 a_ ha_ ))), hf18⟩) hr hlocks dX13_sent_9)

theorem hde_X13_hurt_V_0 : yX13_hurtNow.cls = RX13 ∧ yX13_hurtNow.cls ≠ "java/lang/invoke/MethodHandle" ∧ yX13_hurtNow.cls ≠ "java/lang/invoke/VarHandle" ∧ (parseMethodDescriptor yX13_hurtNow.desc).map (fun d => d.parameters.length) = some 0 := by decide +kernel
theorem hde_X13_hurt_V_1 : yX13_plain.cls = RX13 ∧ yX13_plain.cls ≠ "java/lang/invoke/MethodHandle" ∧ yX13_plain.cls ≠ "java/lang/invoke/VarHandle" ∧ (parseMethodDescriptor yX13_plain.desc).map (fun d => d.parameters.length) = some 1 := by decide +kernel
set_option maxHeartbeats 4000000 in
set_option maxRecDepth 100000 in
theorem e_X13_hurt (l : Launch) (D : va_G) (cy : Nat → ClassId) (ed : Nat) (S : pS) (sz : Nat) (mm : Nat) (me : Nat) (sg : Nat) (cn : Nat) (im : Nat) (hL_mm : mm ∈ S.1) (hf_mm : S.2 mm = .inr (13, [.int (nI 0), .ref me, .ref sg, .ref cn, .ref im])) (hL_me : me ∈ S.1) (hf_me : S.2 me = .inl (cy 0, 0, .inl (fun _ => 0))) (hL_sg : sg ∈ S.1) (hf_sg : S.2 sg = .inr (0, [.int (nI 0), .ref ed, .int (nI 0)])) (hL_cn : cn ∈ S.1) (hf_cn : S.2 cn = .inl (cy 0, 4, .inl (upd (upd (upd (upd (fun _ => 0) 0 (nI 0)) 1 (nI 0)) 2 (nI 0)) 3 (nI 1))))  : Met l yX13_hurt (Cond.code yX13_hurt cX13_hurt 1 (some .int) :: lwU) ({ frames := 8, cells := 5, slots := 26, locals := 171 }) (ePc D cy ed S sz [.ref mm]) (pQi D cy S sz (fun r S' => ∃ (nl : List Nat), r = (nI 0) ∧ S'.1 = S.1 ++ nl ∧ (∀ a_, a_ ∈ S.1 → a_ ≠ mm → S'.2 a_ = S.2 a_) ∧ S'.2 mm = .inr (13, [.int (nI 0), .ref me, .ref sg, .ref cn, .ref im]))) 5 26 (pA S sz) := by
  refine Met.ofW (cc := cX13_hurt) (maxL := 1) (ret := (some .int)) (by decide) rfl ?_
  intro p e s m args below meth c s₁ B hml hv
  obtain ⟨rfl, rfl, C, hw, hA, hr, hlocks, hE⟩ := e_start B hml hv
  have hx := C.1
  have hb := C.2.1
  have hl := lv_entry ([.ref mm]) (n := 1) (Nat.le_of_ble_eq_true rfl)
  rw [lg_entry_eq]
  generalize (lg_sl ([.ref mm]) ++ List.replicate (1 - (lg_sl ([.ref mm])).length) Slot.unset).toArray = ls at hl ⊢
  have hl : lv_has ls 1 [(0, .ref mm)] := hl
  refine lv_aload_n hx hb dX13_hurt_0 rfl (lv_at hl 0 rfl) ?_
  refine lv_aload_n hx hb dX13_hurt_1 rfl (lv_at hl 0 rfl) ?_
  refine p_calli (va_runV (As := []) (rest := [.ref mm]) C.fix (e_X13_hurtNow l D cy ed S s.heap.size mm me sg cn im 0 (upd (upd (upd (upd (fun _ => 0) 0 (nI 0)) 1 (nI 0)) 2 (nI 0)) 3 (nI 1)) hL_mm hf_mm hL_me hf_me hL_sg hf_sg hL_cn hf_cn ) (cwV 0 C.2.2.2.2.1 (gU_V mw_923 mw_924 mw_925 mw_5 (subU mw_926)) rfl rfl rfl hde_X13_hurt_V_0 ⟨Nat.le_of_ble_eq_true rfl, Nat.le_of_ble_eq_true rfl⟩) (e_preV C hw hA hE hL_mm hf_mm rfl) rfl rfl hl.1 rfl (lv_room (Nat.le_of_ble_eq_true rfl)) dX13_hurt_2 ⟨(Nat.le_of_ble_eq_true rfl), (Nat.le_of_ble_eq_true rfl)⟩) hw hA (fun r2 S1 H locs hpost hw => ?_)
  obtain ⟨nl3, hr_, hS4, hfr5⟩ := hpost
  subst hr_
  have hL6 : mm ∈ S1.1 := by rw [hS4]; exact List.mem_append_left _ hL_mm
  have hf7 : S1.2 mm = .inr (13, [.int (nI 0), .ref me, .ref sg, .ref cn, .ref im]) := (hfr5 mm hL_mm ).trans hf_mm
  refine p_calli (va_runV (As := [.int (nI 0)]) (rest := []) C.fix (e_X13_plain l D cy S1 H.size mm me sg cn im (nI 0) 0 hL6 hf7 ) (cwV 1 C.2.2.2.2.1 (gU_V mw_556 mw_557 mw_558 mw_5 (subU mw_559)) rfl rfl rfl hde_X13_hurt_V_1 ⟨Nat.le_of_ble_eq_true rfl, Nat.le_of_ble_eq_true rfl⟩) (p_preV C hw hL6 hf7 rfl) rfl rfl hl.1 rfl (lv_room (Nat.le_of_ble_eq_true rfl)) dX13_hurt_5 ⟨(Nat.le_of_ble_eq_true rfl), (Nat.le_of_ble_eq_true rfl)⟩) hw hA (fun r9 S8 H locs hpost hw => ?_)
  obtain ⟨hr_, hS10, hfr11, hf12⟩ := hpost
  subst hr_
  have hL13 : mm ∈ S8.1 := by rw [hS10]; exact List.mem_append_left _ hL6
  exact (p_iret C hw (⟨(nl3), rfl, (by simp only [hS10, hS4, pup, pnew, List.append_nil, List.append_assoc, List.cons_append, List.nil_append]), (fun a_ ha_ hn_0 => ((hfr11 a_ (show a_ ∈ S1.1 from by rw [hS4]; exact List.mem_append_left _ ha_) hn_0).trans (hfr5 a_ ha_ ))), hf12⟩) hr hlocks dX13_hurt_8)

theorem hde_X13_errors_V_0 : yX13_errorsNow.cls = RX13 ∧ yX13_errorsNow.cls ≠ "java/lang/invoke/MethodHandle" ∧ yX13_errorsNow.cls ≠ "java/lang/invoke/VarHandle" ∧ (parseMethodDescriptor yX13_errorsNow.desc).map (fun d => d.parameters.length) = some 0 := by decide +kernel
theorem hde_X13_errors_V_1 : yX13_plain.cls = RX13 ∧ yX13_plain.cls ≠ "java/lang/invoke/MethodHandle" ∧ yX13_plain.cls ≠ "java/lang/invoke/VarHandle" ∧ (parseMethodDescriptor yX13_plain.desc).map (fun d => d.parameters.length) = some 1 := by decide +kernel
set_option maxHeartbeats 4000000 in
set_option maxRecDepth 100000 in
theorem e_X13_errors (l : Launch) (D : va_G) (cy : Nat → ClassId) (ed : Nat) (S : pS) (sz : Nat) (mm : Nat) (me : Nat) (sg : Nat) (cn : Nat) (im : Nat) (hL_mm : mm ∈ S.1) (hf_mm : S.2 mm = .inr (13, [.int (nI 0), .ref me, .ref sg, .ref cn, .ref im])) (hL_me : me ∈ S.1) (hf_me : S.2 me = .inl (cy 0, 0, .inl (fun _ => 0))) (hL_sg : sg ∈ S.1) (hf_sg : S.2 sg = .inr (0, [.int (nI 0), .ref ed, .int (nI 0)])) (hL_cn : cn ∈ S.1) (hf_cn : S.2 cn = .inl (cy 0, 4, .inl (upd (upd (upd (upd (fun _ => 0) 0 (nI 0)) 1 (nI 0)) 2 (nI 0)) 3 (nI 1))))  : Met l yX13_errors (Cond.code yX13_errors cX13_errors 1 (some .int) :: lwU) ({ frames := 7, cells := 4, slots := 14, locals := 152 }) (ePc D cy ed S sz [.ref mm]) (pQi D cy S sz (fun r S' => ∃ (nl : List Nat), r = (nI 0) ∧ S'.1 = S.1 ++ nl ∧ (∀ a_, a_ ∈ S.1 → a_ ≠ mm → S'.2 a_ = S.2 a_) ∧ S'.2 mm = .inr (13, [.int (nI 0), .ref me, .ref sg, .ref cn, .ref im]))) 4 14 (pA S sz) := by
  refine Met.ofW (cc := cX13_errors) (maxL := 1) (ret := (some .int)) (by decide) rfl ?_
  intro p e s m args below meth c s₁ B hml hv
  obtain ⟨rfl, rfl, C, hw, hA, hr, hlocks, hE⟩ := e_start B hml hv
  have hx := C.1
  have hb := C.2.1
  have hl := lv_entry ([.ref mm]) (n := 1) (Nat.le_of_ble_eq_true rfl)
  rw [lg_entry_eq]
  generalize (lg_sl ([.ref mm]) ++ List.replicate (1 - (lg_sl ([.ref mm])).length) Slot.unset).toArray = ls at hl ⊢
  have hl : lv_has ls 1 [(0, .ref mm)] := hl
  refine lv_aload_n hx hb dX13_errors_0 rfl (lv_at hl 0 rfl) ?_
  refine lv_aload_n hx hb dX13_errors_1 rfl (lv_at hl 0 rfl) ?_
  refine p_calli (va_runV (As := []) (rest := [.ref mm]) C.fix (e_X13_errorsNow0 l D cy ed S s.heap.size mm me sg cn im 0 (upd (upd (upd (upd (fun _ => 0) 0 (nI 0)) 1 (nI 0)) 2 (nI 0)) 3 (nI 1)) hL_mm hf_mm hL_me hf_me hL_sg hf_sg hL_cn hf_cn ) (cwV 0 C.2.2.2.2.1 (gU_V mw_939 mw_940 mw_941 mw_5 (subU mw_942)) rfl rfl rfl hde_X13_errors_V_0 ⟨Nat.le_of_ble_eq_true rfl, Nat.le_of_ble_eq_true rfl⟩) (e_preV C hw hA hE hL_mm hf_mm rfl) rfl rfl hl.1 rfl (lv_room (Nat.le_of_ble_eq_true rfl)) dX13_errors_2 ⟨(Nat.le_of_ble_eq_true rfl), (Nat.le_of_ble_eq_true rfl)⟩) hw hA (fun r2 S1 H locs hpost hw => ?_)
  obtain ⟨nl3, hr_, hS4, hfr5⟩ := hpost
  subst hr_
  have hL6 : mm ∈ S1.1 := by rw [hS4]; exact List.mem_append_left _ hL_mm
  have hf7 : S1.2 mm = .inr (13, [.int (nI 0), .ref me, .ref sg, .ref cn, .ref im]) := (hfr5 mm hL_mm ).trans hf_mm
  refine p_calli (va_runV (As := [.int (nI 0)]) (rest := []) C.fix (e_X13_plain l D cy S1 H.size mm me sg cn im (nI 0) 0 hL6 hf7 ) (cwV 1 C.2.2.2.2.1 (gU_V mw_556 mw_557 mw_558 mw_5 (subU mw_559)) rfl rfl rfl hde_X13_errors_V_1 ⟨Nat.le_of_ble_eq_true rfl, Nat.le_of_ble_eq_true rfl⟩) (p_preV C hw hL6 hf7 rfl) rfl rfl hl.1 rfl (lv_room (Nat.le_of_ble_eq_true rfl)) dX13_errors_5 ⟨(Nat.le_of_ble_eq_true rfl), (Nat.le_of_ble_eq_true rfl)⟩) hw hA (fun r9 S8 H locs hpost hw => ?_)
  obtain ⟨hr_, hS10, hfr11, hf12⟩ := hpost
  subst hr_
  have hL13 : mm ∈ S8.1 := by rw [hS10]; exact List.mem_append_left _ hL6
  exact (p_iret C hw (⟨(nl3), rfl, (by simp only [hS10, hS4, pup, pnew, List.append_nil, List.append_assoc, List.cons_append, List.nil_append]), (fun a_ ha_ hn_0 => ((hfr11 a_ (show a_ ∈ S1.1 from by rw [hS4]; exact List.mem_append_left _ ha_) hn_0).trans (hfr5 a_ ha_ ))), hf12⟩) hr hlocks dX13_errors_8)

theorem hde_X13_weak_V_0 : yX13_weakNow.cls = RX13 ∧ yX13_weakNow.cls ≠ "java/lang/invoke/MethodHandle" ∧ yX13_weakNow.cls ≠ "java/lang/invoke/VarHandle" ∧ (parseMethodDescriptor yX13_weakNow.desc).map (fun d => d.parameters.length) = some 0 := by decide +kernel
theorem hde_X13_weak_V_1 : yX13_plain.cls = RX13 ∧ yX13_plain.cls ≠ "java/lang/invoke/MethodHandle" ∧ yX13_plain.cls ≠ "java/lang/invoke/VarHandle" ∧ (parseMethodDescriptor yX13_plain.desc).map (fun d => d.parameters.length) = some 1 := by decide +kernel
set_option maxHeartbeats 4000000 in
set_option maxRecDepth 100000 in
theorem e_X13_weak (l : Launch) (D : va_G) (cy : Nat → ClassId) (ed : Nat) (S : pS) (sz : Nat) (mm : Nat) (me : Nat) (sg : Nat) (cn : Nat) (im : Nat) (hL_mm : mm ∈ S.1) (hf_mm : S.2 mm = .inr (13, [.int (nI 0), .ref me, .ref sg, .ref cn, .ref im])) (hL_me : me ∈ S.1) (hf_me : S.2 me = .inl (cy 0, 0, .inl (fun _ => 0))) (hL_sg : sg ∈ S.1) (hf_sg : S.2 sg = .inr (0, [.int (nI 0), .ref ed, .int (nI 0)])) (hL_cn : cn ∈ S.1) (hf_cn : S.2 cn = .inl (cy 0, 4, .inl (upd (upd (upd (upd (fun _ => 0) 0 (nI 0)) 1 (nI 0)) 2 (nI 0)) 3 (nI 1))))  : Met l yX13_weak (Cond.code yX13_weak cX13_weak 1 (some .int) :: lwU) ({ frames := 8, cells := 6, slots := 27, locals := 175 }) (ePc D cy ed S sz [.ref mm]) (pQi D cy S sz (fun r S' => ∃ (nl : List Nat), r = (nI 0) ∧ S'.1 = S.1 ++ nl ∧ (∀ a_, a_ ∈ S.1 → a_ ≠ mm → S'.2 a_ = S.2 a_) ∧ S'.2 mm = .inr (13, [.int (nI 0), .ref me, .ref sg, .ref cn, .ref im]))) 6 27 (pA S sz) := by
  refine Met.ofW (cc := cX13_weak) (maxL := 1) (ret := (some .int)) (by decide) rfl ?_
  intro p e s m args below meth c s₁ B hml hv
  obtain ⟨rfl, rfl, C, hw, hA, hr, hlocks, hE⟩ := e_start B hml hv
  have hx := C.1
  have hb := C.2.1
  have hl := lv_entry ([.ref mm]) (n := 1) (Nat.le_of_ble_eq_true rfl)
  rw [lg_entry_eq]
  generalize (lg_sl ([.ref mm]) ++ List.replicate (1 - (lg_sl ([.ref mm])).length) Slot.unset).toArray = ls at hl ⊢
  have hl : lv_has ls 1 [(0, .ref mm)] := hl
  refine lv_aload_n hx hb dX13_weak_0 rfl (lv_at hl 0 rfl) ?_
  refine lv_aload_n hx hb dX13_weak_1 rfl (lv_at hl 0 rfl) ?_
  refine p_calli (va_runV (As := []) (rest := [.ref mm]) C.fix (e_X13_weakNow l D cy ed S s.heap.size mm me sg cn im 0 (upd (upd (upd (upd (fun _ => 0) 0 (nI 0)) 1 (nI 0)) 2 (nI 0)) 3 (nI 1)) hL_mm hf_mm hL_me hf_me hL_sg hf_sg hL_cn hf_cn ) (cwV 0 C.2.2.2.2.1 (gU_V mw_1055 mw_1056 mw_1057 mw_5 (subU mw_1058)) rfl rfl rfl hde_X13_weak_V_0 ⟨Nat.le_of_ble_eq_true rfl, Nat.le_of_ble_eq_true rfl⟩) (e_preV C hw hA hE hL_mm hf_mm rfl) rfl rfl hl.1 rfl (lv_room (Nat.le_of_ble_eq_true rfl)) dX13_weak_2 ⟨(Nat.le_of_ble_eq_true rfl), (Nat.le_of_ble_eq_true rfl)⟩) hw hA (fun r2 S1 H locs hpost hw => ?_)
  obtain ⟨nl3, hr_, hS4, hfr5⟩ := hpost
  subst hr_
  have hL6 : mm ∈ S1.1 := by rw [hS4]; exact List.mem_append_left _ hL_mm
  have hf7 : S1.2 mm = .inr (13, [.int (nI 0), .ref me, .ref sg, .ref cn, .ref im]) := (hfr5 mm hL_mm ).trans hf_mm
  refine p_calli (va_runV (As := [.int (nI 0)]) (rest := []) C.fix (e_X13_plain l D cy S1 H.size mm me sg cn im (nI 0) 0 hL6 hf7 ) (cwV 1 C.2.2.2.2.1 (gU_V mw_556 mw_557 mw_558 mw_5 (subU mw_559)) rfl rfl rfl hde_X13_weak_V_1 ⟨Nat.le_of_ble_eq_true rfl, Nat.le_of_ble_eq_true rfl⟩) (p_preV C hw hL6 hf7 rfl) rfl rfl hl.1 rfl (lv_room (Nat.le_of_ble_eq_true rfl)) dX13_weak_5 ⟨(Nat.le_of_ble_eq_true rfl), (Nat.le_of_ble_eq_true rfl)⟩) hw hA (fun r9 S8 H locs hpost hw => ?_)
  obtain ⟨hr_, hS10, hfr11, hf12⟩ := hpost
  subst hr_
  have hL13 : mm ∈ S8.1 := by rw [hS10]; exact List.mem_append_left _ hL6
  exact (p_iret C hw (⟨(nl3), rfl, (by simp only [hS10, hS4, pup, pnew, List.append_nil, List.append_assoc, List.cons_append, List.nil_append]), (fun a_ ha_ hn_0 => ((hfr11 a_ (show a_ ∈ S1.1 from by rw [hS4]; exact List.mem_append_left _ ha_) hn_0).trans (hfr5 a_ ha_ ))), hf12⟩) hr hlocks dX13_weak_8)

theorem hde_X13_rate_V_0 : yX13_sentNow.cls = RX13 ∧ yX13_sentNow.cls ≠ "java/lang/invoke/MethodHandle" ∧ yX13_sentNow.cls ≠ "java/lang/invoke/VarHandle" ∧ (parseMethodDescriptor yX13_sentNow.desc).map (fun d => d.parameters.length) = some 0 := by decide +kernel
set_option maxHeartbeats 4000000 in
set_option maxRecDepth 100000 in
theorem e_X13_rate (l : Launch) (D : va_G) (cy : Nat → ClassId) (ed : Nat) (S : pS) (sz : Nat) (mm : Nat) (me : Nat) (sg : Nat) (cn : Nat) (im : Nat) (hL_mm : mm ∈ S.1) (hf_mm : S.2 mm = .inr (13, [.int (nI 0), .ref me, .ref sg, .ref cn, .ref im])) (hL_me : me ∈ S.1) (hf_me : S.2 me = .inl (cy 0, 0, .inl (fun _ => 0))) (hL_sg : sg ∈ S.1) (hf_sg : S.2 sg = .inr (0, [.int (nI 0), .ref ed, .int (nI 0)]))  : Met l yX13_rate (Cond.code yX13_rate cX13_rate 2 (some .double) :: lwU) ({ frames := 7, cells := 2, slots := 13, locals := 151 }) (ePc D cy ed S sz [.ref mm]) (pQd D cy S sz (fun r S' => ∃ (nl : List Nat), r = FP.dconst0 ∧ S'.1 = S.1 ++ nl ∧ (∀ a_, a_ ∈ S.1 → a_ ≠ mm → S'.2 a_ = S.2 a_) ∧ S'.2 mm = .inr (13, [.int (nI 0), .ref me, .ref sg, .ref cn, .ref im]))) 2 13 (pA S sz) := by
  refine Met.ofW (cc := cX13_rate) (maxL := 2) (ret := (some .double)) (by decide) rfl ?_
  intro p e s m args below meth c s₁ B hml hv
  obtain ⟨rfl, rfl, C, hw, hA, hr, hlocks, hE⟩ := e_start B hml hv
  have hx := C.1
  have hb := C.2.1
  have hl := lv_entry ([.ref mm]) (n := 2) (Nat.le_of_ble_eq_true rfl)
  rw [lg_entry_eq]
  generalize (lg_sl ([.ref mm]) ++ List.replicate (2 - (lg_sl ([.ref mm])).length) Slot.unset).toArray = ls at hl ⊢
  have hl : lv_has ls 2 [(0, .ref mm)] := hl
  have hin_RX13 : ∀ w ∈ u_ws RX13 TX13 5, w ∈ (Cond.code yX13_rate cX13_rate 2 (some .double) :: lwU) := fun w h => mU (sub_RX13 w h)
  refine lv_aload_n hx hb dX13_rate_0 rfl (lv_at hl 0 rfl) ?_
  refine lv_iconst (v := nI 0) hx hb dX13_rate_1 (by decide) ?_
  refine p_put C hw (ci := 13) (Cn := RX13) (T := TX13) (N := 5) tyX13 tyX13_ok nmX13 hL_mm hf_mm rfl hin_RX13 0 (by decide) (mU mw_401) rfl rfl rfl rfl rfl (by simp) dX13_rate_2 rfl (fun H locs hw => ?_)
  obtain ⟨S1, hS1⟩ : ∃ z, z = pup S mm (.inr (13, [.int (nI 0), .ref me, .ref sg, .ref cn, .ref im])) := ⟨_, rfl⟩
  replace hw : pW D (pA S s.heap.size) s.heap S1 H locs := by rw [hS1]; exact hw
  have hL2 : mm ∈ S1.1 := by rw [hS1]; exact hL_mm
  have hf3 : S1.2 mm = .inr (13, [.int (nI 0), .ref me, .ref sg, .ref cn, .ref im]) := by rw [hS1]; exact pup_s
  refine lv_aload_n hx hb dX13_rate_5 rfl (lv_at hl 0 rfl) ?_
  have hL4 : me ∈ S1.1 := by rw [hS1]; exact hL_me
  have hf5 : S1.2 me = .inl (cy 0, 0, .inl (fun _ => 0)) := by rw [hS1]; exact (pup_n (ne_cells hf_me hf_mm (by nofun))).trans hf_me
  have hL6 : sg ∈ S1.1 := by rw [hS1]; exact hL_sg
  have hf7 : S1.2 sg = .inr (0, [.int (nI 0), .ref ed, .int (nI 0)]) := by rw [hS1]; exact (pup_n (ne_cells hf_sg hf_mm (by nofun))).trans hf_sg
  refine p_callq (va_runV (As := []) (rest := []) C.fix (e_X13_sentNow0 l D cy ed S1 H.size mm me sg cn im 0 hL2 hf3 hL4 hf5 hL6 hf7 ) (cwV 0 C.2.2.2.2.1 (gU_V mw_599 mw_600 mw_601 mw_5 (subU mw_602)) rfl rfl rfl hde_X13_rate_V_0 ⟨Nat.le_of_ble_eq_true rfl, Nat.le_of_ble_eq_true rfl⟩) (e_preV C hw hA hE hL2 hf3 rfl) rfl rfl hl.1 rfl (lv_room (Nat.le_of_ble_eq_true rfl)) dX13_rate_6 ⟨(Nat.le_of_ble_eq_true rfl), (Nat.le_of_ble_eq_true rfl)⟩) hw hA (fun r9 S8 H locs hpost hw => ?_)
  obtain ⟨rl10, ra11, hr_, hS12, hfr13⟩ := hpost
  subst hr_
  have hnd14 := p_apart hw hS12
  have hq15 : rl10 ∉ S1.1 := p_fresh hw hS12 0 rfl
  have hq16 : ra11 ∉ S1.1 := p_fresh hw hS12 1 rfl
  have hL17 : me ∈ S8.1 := by rw [hS12]; exact List.mem_append_left _ hL4
  have hf18 : S8.2 me = .inl (cy 0, 0, .inl (fun _ => 0)) := (hfr13 me hL4 ).trans hf5
  refine n_len C hw 0 rfl hL17 hf18 (n := 0) rfl dX13_rate_9 ?_
  refine lv_istore_n (lv' := [(1, .int (nI 0)), (0, .ref mm)]) hx hb dX13_rate_10 rfl hl (by decide) rfl (fun ls hl => ?_)
  refine lv_iload_n hx hb dX13_rate_11 rfl (lv_at hl 0 rfl) ?_
  refine n_if_ne (tgt := 19) hx hb (by first | decide | omega) dX13_rate_12 (by decide) (fun h_12 => ?_) (fun h_12 => ?_)
  · exact absurd h_12 (by first | decide | omega)
  · skip
    refine lv_dconst0 hx hb dX13_rate_15 ?_
    refine lv_goto (tgt := 28) hx hb dX13_rate_16 (by decide) ?_
    have hL19 : mm ∈ S8.1 := by rw [hS12]; exact List.mem_append_left _ hL2
    have hf20 : S8.2 mm = .inr (13, [.int (nI 0), .ref me, .ref sg, .ref cn, .ref im]) := (hfr13 mm hL2 ).trans hf3
    exact (p_dret C hw (⟨([rl10, ra11]), rfl, (by simp only [hS12, hS1, pup, pnew, List.append_nil, List.append_assoc, List.cons_append, List.nil_append]), (fun a_ ha_ hn_0 => ((hfr13 a_ (show a_ ∈ S1.1 from by rw [hS1]; exact ha_) ).trans (show S1.2 a_ = S.2 a_ from by rw [hS1]; exact pup_n hn_0))), hf20⟩) hr hlocks dX13_rate_28)

theorem hde_X13_distance_V_0 : yX13_isNoStage.cls = RX13 ∧ yX13_isNoStage.cls ≠ "java/lang/invoke/MethodHandle" ∧ yX13_isNoStage.cls ≠ "java/lang/invoke/VarHandle" ∧ (parseMethodDescriptor yX13_isNoStage.desc).map (fun d => d.parameters.length) = some 1 := by decide +kernel
set_option maxHeartbeats 4000000 in
set_option maxRecDepth 100000 in
theorem e_X13_distance (l : Launch) (D : va_G) (cy : Nat → ClassId) (ed : Nat) (S : pS) (sz : Nat) (mm : Nat) (me : Nat) (sg : Nat) (cn : Nat) (im : Nat) (j : Int32) (hL_mm : mm ∈ S.1) (hf_mm : S.2 mm = .inr (13, [.int (nI 0), .ref me, .ref sg, .ref cn, .ref im])) (hL_sg : sg ∈ S.1) (hf_sg : S.2 sg = .inr (0, [.int (nI 0), .ref ed, .int (nI 0)]))  : Met l yX13_distance (Cond.code yX13_distance cX13_distance 2 (some .int) :: lwU) ({ frames := 3, cells := 0, slots := 0, locals := 65 }) (ePc D cy ed S sz [.ref mm, .int j]) (pQi D cy S sz (fun r S' => ∃ (nl : List Nat), r = (nI 0) ∧ S'.1 = S.1 ++ nl ∧ (∀ a_, a_ ∈ S.1 → a_ ≠ mm → S'.2 a_ = S.2 a_) ∧ S'.2 mm = .inr (13, [.int (nI 1), .ref me, .ref sg, .ref cn, .ref im]))) 0 0 (pA S sz) := by
  refine Met.ofW (cc := cX13_distance) (maxL := 2) (ret := (some .int)) (by decide) rfl ?_
  intro p e s m args below meth c s₁ B hml hv
  obtain ⟨rfl, rfl, C, hw, hA, hr, hlocks, hE⟩ := e_start B hml hv
  have hx := C.1
  have hb := C.2.1
  have hl := lv_entry ([.ref mm, .int j]) (n := 2) (Nat.le_of_ble_eq_true rfl)
  rw [lg_entry_eq]
  generalize (lg_sl ([.ref mm, .int j]) ++ List.replicate (2 - (lg_sl ([.ref mm, .int j])).length) Slot.unset).toArray = ls at hl ⊢
  have hl : lv_has ls 2 [(0, .ref mm), (1, .int j)] := hl
  refine lv_aload_n hx hb dX13_distance_0 rfl (lv_at hl 0 rfl) ?_
  refine lv_iload_n hx hb dX13_distance_1 rfl (lv_at hl 1 rfl) ?_
  refine p_calli (va_runV (As := [.int j]) (rest := []) C.fix (e_X13_isNoStage0 l D cy S s.heap.size mm me sg cn im ed 0 j hL_mm hf_mm hL_sg hf_sg ) (cwV 1 C.2.2.2.2.1 (gU_V mw_814 mw_815 mw_816 mw_5 (subU mw_817)) rfl rfl rfl hde_X13_distance_V_0 ⟨Nat.le_of_ble_eq_true rfl, Nat.le_of_ble_eq_true rfl⟩) (p_preV C hw hL_mm hf_mm rfl) rfl rfl hl.1 rfl (lv_room (Nat.le_of_ble_eq_true rfl)) dX13_distance_2 ⟨(Nat.le_of_ble_eq_true rfl), (Nat.le_of_ble_eq_true rfl)⟩) hw hA (fun r2 S1 H locs hpost hw => ?_)
  obtain ⟨hr_, hS3, hfr4, hf5⟩ := hpost
  subst hr_
  have hL6 : mm ∈ S1.1 := by rw [hS3]; exact List.mem_append_left _ hL_mm
  refine n_if_eq (tgt := 12) hx hb (by first | decide | omega) dX13_distance_5 (by decide) (fun h_5 => ?_) (fun h_5 => ?_)
  · exact absurd h_5 (by first | decide | omega)
  · skip
    refine lv_iconst (v := nI 0) hx hb dX13_distance_8 (by decide) ?_
    refine lv_goto (tgt := 26) hx hb dX13_distance_9 (by decide) ?_
    exact (p_iret C hw (⟨[], rfl, (by simp only [hS3, pup, pnew, List.append_nil, List.append_assoc, List.cons_append, List.nil_append]), (fun a_ ha_ hn_0 => (hfr4 a_ ha_ hn_0)), hf5⟩) hr hlocks dX13_distance_26)

theorem hde_X13_ofStage_V_0 : yX13_isNoStage.cls = RX13 ∧ yX13_isNoStage.cls ≠ "java/lang/invoke/MethodHandle" ∧ yX13_isNoStage.cls ≠ "java/lang/invoke/VarHandle" ∧ (parseMethodDescriptor yX13_isNoStage.desc).map (fun d => d.parameters.length) = some 1 := by decide +kernel
set_option maxHeartbeats 4000000 in
set_option maxRecDepth 100000 in
theorem e_X13_ofStage (l : Launch) (D : va_G) (cy : Nat → ClassId) (ed : Nat) (S : pS) (sz : Nat) (mm : Nat) (me : Nat) (sg : Nat) (cn : Nat) (im : Nat) (j : Int32) (w : Int32) (hL_mm : mm ∈ S.1) (hf_mm : S.2 mm = .inr (13, [.int (nI 0), .ref me, .ref sg, .ref cn, .ref im])) (hL_sg : sg ∈ S.1) (hf_sg : S.2 sg = .inr (0, [.int (nI 0), .ref ed, .int (nI 0)]))  : Met l yX13_ofStage (Cond.code yX13_ofStage cX13_ofStage 4 (some .int) :: lwU) ({ frames := 3, cells := 0, slots := 0, locals := 65 }) (ePc D cy ed S sz [.ref mm, .int j, .int w]) (pQi D cy S sz (fun r S' => ∃ (nl : List Nat), r = (nI 0) ∧ S'.1 = S.1 ++ nl ∧ (∀ a_, a_ ∈ S.1 → a_ ≠ mm → S'.2 a_ = S.2 a_) ∧ S'.2 mm = .inr (13, [.int (nI 1), .ref me, .ref sg, .ref cn, .ref im]))) 0 0 (pA S sz) := by
  refine Met.ofW (cc := cX13_ofStage) (maxL := 4) (ret := (some .int)) (by decide) rfl ?_
  intro p e s m args below meth c s₁ B hml hv
  obtain ⟨rfl, rfl, C, hw, hA, hr, hlocks, hE⟩ := e_start B hml hv
  have hx := C.1
  have hb := C.2.1
  have hl := lv_entry ([.ref mm, .int j, .int w]) (n := 4) (Nat.le_of_ble_eq_true rfl)
  rw [lg_entry_eq]
  generalize (lg_sl ([.ref mm, .int j, .int w]) ++ List.replicate (4 - (lg_sl ([.ref mm, .int j, .int w])).length) Slot.unset).toArray = ls at hl ⊢
  have hl : lv_has ls 4 [(0, .ref mm), (1, .int j), (2, .int w)] := hl
  refine lv_aload_n hx hb dX13_ofStage_0 rfl (lv_at hl 0 rfl) ?_
  refine lv_iload_n hx hb dX13_ofStage_1 rfl (lv_at hl 1 rfl) ?_
  refine p_calli (va_runV (As := [.int j]) (rest := []) C.fix (e_X13_isNoStage0 l D cy S s.heap.size mm me sg cn im ed 0 j hL_mm hf_mm hL_sg hf_sg ) (cwV 1 C.2.2.2.2.1 (gU_V mw_814 mw_815 mw_816 mw_5 (subU mw_817)) rfl rfl rfl hde_X13_ofStage_V_0 ⟨Nat.le_of_ble_eq_true rfl, Nat.le_of_ble_eq_true rfl⟩) (p_preV C hw hL_mm hf_mm rfl) rfl rfl hl.1 rfl (lv_room (Nat.le_of_ble_eq_true rfl)) dX13_ofStage_2 ⟨(Nat.le_of_ble_eq_true rfl), (Nat.le_of_ble_eq_true rfl)⟩) hw hA (fun r2 S1 H locs hpost hw => ?_)
  obtain ⟨hr_, hS3, hfr4, hf5⟩ := hpost
  subst hr_
  have hL6 : mm ∈ S1.1 := by rw [hS3]; exact List.mem_append_left _ hL_mm
  refine n_if_ne (tgt := 30) hx hb (by first | decide | omega) dX13_ofStage_5 (by decide) (fun h_5 => ?_) (fun h_5 => ?_)
  · skip
    refine lv_iconst (v := nI 0) hx hb dX13_ofStage_30 (by decide) ?_
    exact (p_iret C hw (⟨[], rfl, (by simp only [hS3, pup, pnew, List.append_nil, List.append_assoc, List.cons_append, List.nil_append]), (fun a_ ha_ hn_0 => (hfr4 a_ ha_ hn_0)), hf5⟩) hr hlocks dX13_ofStage_31)
  · exact absurd h_5 (by first | decide | omega)

theorem hde_X13_words__V_0 : yX13_isNoStage.cls = RX13 ∧ yX13_isNoStage.cls ≠ "java/lang/invoke/MethodHandle" ∧ yX13_isNoStage.cls ≠ "java/lang/invoke/VarHandle" ∧ (parseMethodDescriptor yX13_isNoStage.desc).map (fun d => d.parameters.length) = some 1 := by decide +kernel
set_option maxHeartbeats 4000000 in
set_option maxRecDepth 100000 in
theorem e_X13_words_ (l : Launch) (D : va_G) (cy : Nat → ClassId) (ed : Nat) (S : pS) (sz : Nat) (mm : Nat) (me : Nat) (sg : Nat) (cn : Nat) (im : Nat) (j : Int32) (w : Int32) (hL_mm : mm ∈ S.1) (hf_mm : S.2 mm = .inr (13, [.int (nI 0), .ref me, .ref sg, .ref cn, .ref im])) (hL_sg : sg ∈ S.1) (hf_sg : S.2 sg = .inr (0, [.int (nI 0), .ref ed, .int (nI 0)]))  : Met l yX13_words_ (Cond.code yX13_words_ cX13_words_ 3 (some .int) :: lwU) ({ frames := 3, cells := 0, slots := 0, locals := 65 }) (ePc D cy ed S sz [.ref mm, .int j, .int w]) (pQi D cy S sz (fun r S' => ∃ (nl : List Nat), r = (nI 0) ∧ S'.1 = S.1 ++ nl ∧ (∀ a_, a_ ∈ S.1 → a_ ≠ mm → S'.2 a_ = S.2 a_) ∧ S'.2 mm = .inr (13, [.int (nI 1), .ref me, .ref sg, .ref cn, .ref im]))) 0 0 (pA S sz) := by
  refine Met.ofW (cc := cX13_words_) (maxL := 3) (ret := (some .int)) (by decide) rfl ?_
  intro p e s m args below meth c s₁ B hml hv
  obtain ⟨rfl, rfl, C, hw, hA, hr, hlocks, hE⟩ := e_start B hml hv
  have hx := C.1
  have hb := C.2.1
  have hl := lv_entry ([.ref mm, .int j, .int w]) (n := 3) (Nat.le_of_ble_eq_true rfl)
  rw [lg_entry_eq]
  generalize (lg_sl ([.ref mm, .int j, .int w]) ++ List.replicate (3 - (lg_sl ([.ref mm, .int j, .int w])).length) Slot.unset).toArray = ls at hl ⊢
  have hl : lv_has ls 3 [(0, .ref mm), (1, .int j), (2, .int w)] := hl
  refine lv_aload_n hx hb dX13_words__0 rfl (lv_at hl 0 rfl) ?_
  refine lv_iload_n hx hb dX13_words__1 rfl (lv_at hl 1 rfl) ?_
  refine p_calli (va_runV (As := [.int j]) (rest := []) C.fix (e_X13_isNoStage0 l D cy S s.heap.size mm me sg cn im ed 0 j hL_mm hf_mm hL_sg hf_sg ) (cwV 1 C.2.2.2.2.1 (gU_V mw_814 mw_815 mw_816 mw_5 (subU mw_817)) rfl rfl rfl hde_X13_words__V_0 ⟨Nat.le_of_ble_eq_true rfl, Nat.le_of_ble_eq_true rfl⟩) (p_preV C hw hL_mm hf_mm rfl) rfl rfl hl.1 rfl (lv_room (Nat.le_of_ble_eq_true rfl)) dX13_words__2 ⟨(Nat.le_of_ble_eq_true rfl), (Nat.le_of_ble_eq_true rfl)⟩) hw hA (fun r2 S1 H locs hpost hw => ?_)
  obtain ⟨hr_, hS3, hfr4, hf5⟩ := hpost
  subst hr_
  have hL6 : mm ∈ S1.1 := by rw [hS3]; exact List.mem_append_left _ hL_mm
  refine n_if_ne (tgt := 49) hx hb (by first | decide | omega) dX13_words__5 (by decide) (fun h_5 => ?_) (fun h_5 => ?_)
  · skip
    refine lv_iconst (v := nI 0) hx hb dX13_words__49 (by decide) ?_
    refine lv_goto (tgt := 68) hx hb dX13_words__50 (by decide) ?_
    exact (p_iret C hw (⟨[], rfl, (by simp only [hS3, pup, pnew, List.append_nil, List.append_assoc, List.cons_append, List.nil_append]), (fun a_ ha_ hn_0 => (hfr4 a_ ha_ hn_0)), hf5⟩) hr hlocks dX13_words__68)
  · exact absurd h_5 (by first | decide | omega)

theorem hde_X13_bit_V_0 : yX13_sentNow.cls = RX13 ∧ yX13_sentNow.cls ≠ "java/lang/invoke/MethodHandle" ∧ yX13_sentNow.cls ≠ "java/lang/invoke/VarHandle" ∧ (parseMethodDescriptor yX13_sentNow.desc).map (fun d => d.parameters.length) = some 0 := by decide +kernel
theorem hde_X13_bit_S_1 : yX13_isIn.cls ≠ "java/lang/invoke/MethodHandle" ∧ yX13_isIn.cls ≠ "java/lang/invoke/VarHandle" ∧ (parseMethodDescriptor yX13_isIn.desc).map (fun d => d.parameters.length) = some 3 := by decide +kernel
theorem hde_X13_bit_V_2 : yX13_start.cls = RX13 ∧ yX13_start.cls ≠ "java/lang/invoke/MethodHandle" ∧ yX13_start.cls ≠ "java/lang/invoke/VarHandle" ∧ (parseMethodDescriptor yX13_start.desc).map (fun d => d.parameters.length) = some 2 := by decide +kernel
set_option maxHeartbeats 4000000 in
set_option maxRecDepth 100000 in
theorem e_X13_bit (l : Launch) (D : va_G) (cy : Nat → ClassId) (ed : Nat) (S : pS) (sz : Nat) (mm : Nat) (me : Nat) (sg : Nat) (cn : Nat) (im : Nat) (j : Int32) (w : Int32) (hL_mm : mm ∈ S.1) (hf_mm : S.2 mm = .inr (13, [.int (nI 0), .ref me, .ref sg, .ref cn, .ref im])) (hL_me : me ∈ S.1) (hf_me : S.2 me = .inl (cy 0, 0, .inl (fun _ => 0))) (hL_sg : sg ∈ S.1) (hf_sg : S.2 sg = .inr (0, [.int (nI 0), .ref ed, .int (nI 0)]))  : Met l yX13_bit (Cond.code yX13_bit cX13_bit 4 (some .int) :: lwU) ({ frames := 7, cells := 2, slots := 13, locals := 151 }) (ePc D cy ed S sz [.ref mm, .int j, .int w]) (pQi D cy S sz (fun r S' => ∃ (nl : List Nat), r = (nI 0) ∧ S'.1 = S.1 ++ nl ∧ (∀ a_, a_ ∈ S.1 → a_ ≠ mm → S'.2 a_ = S.2 a_) ∧ S'.2 mm = .inr (13, [.int (nI 1), .ref me, .ref sg, .ref cn, .ref im]))) 2 13 (pA S sz) := by
  refine Met.ofW (cc := cX13_bit) (maxL := 4) (ret := (some .int)) (by decide) rfl ?_
  intro p e s m args below meth c s₁ B hml hv
  obtain ⟨rfl, rfl, C, hw, hA, hr, hlocks, hE⟩ := e_start B hml hv
  have hx := C.1
  have hb := C.2.1
  have hl := lv_entry ([.ref mm, .int j, .int w]) (n := 4) (Nat.le_of_ble_eq_true rfl)
  rw [lg_entry_eq]
  generalize (lg_sl ([.ref mm, .int j, .int w]) ++ List.replicate (4 - (lg_sl ([.ref mm, .int j, .int w])).length) Slot.unset).toArray = ls at hl ⊢
  have hl : lv_has ls 4 [(0, .ref mm), (1, .int j), (2, .int w)] := hl
  refine lv_aload_n hx hb dX13_bit_0 rfl (lv_at hl 0 rfl) ?_
  refine p_callq (va_runV (As := []) (rest := []) C.fix (e_X13_sentNow0 l D cy ed S s.heap.size mm me sg cn im 0 hL_mm hf_mm hL_me hf_me hL_sg hf_sg ) (cwV 0 C.2.2.2.2.1 (gU_V mw_599 mw_600 mw_601 mw_5 (subU mw_602)) rfl rfl rfl hde_X13_bit_V_0 ⟨Nat.le_of_ble_eq_true rfl, Nat.le_of_ble_eq_true rfl⟩) (e_preV C hw hA hE hL_mm hf_mm rfl) rfl rfl hl.1 rfl (lv_room (Nat.le_of_ble_eq_true rfl)) dX13_bit_1 ⟨(Nat.le_of_ble_eq_true rfl), (Nat.le_of_ble_eq_true rfl)⟩) hw hA (fun r2 S1 H locs hpost hw => ?_)
  obtain ⟨rl3, ra4, hr_, hS5, hfr6⟩ := hpost
  subst hr_
  have hnd7 := p_apart hw hS5
  have hq8 : rl3 ∉ S.1 := p_fresh hw hS5 0 rfl
  have hq9 : ra4 ∉ S.1 := p_fresh hw hS5 1 rfl
  refine lv_astore_n (lv' := [(3, .ref me), (0, .ref mm), (1, .int j), (2, .int w)]) hx hb dX13_bit_4 rfl hl (by decide) rfl (fun ls hl => ?_)
  refine lv_aload_n hx hb dX13_bit_5 rfl (lv_at hl 1 rfl) ?_
  refine lv_iload_n hx hb dX13_bit_6 rfl (lv_at hl 2 rfl) ?_
  refine lv_iconst (v := nI 0) hx hb dX13_bit_7 (by decide) ?_
  refine lv_aload_n hx hb dX13_bit_8 rfl (lv_at hl 0 rfl) ?_
  have hL10 : me ∈ S1.1 := by rw [hS5]; exact List.mem_append_left _ hL_me
  have hf11 : S1.2 me = .inl (cy 0, 0, .inl (fun _ => 0)) := (hfr6 me hL_me ).trans hf_me
  refine n_len C hw 0 rfl hL10 hf11 (n := 0) rfl dX13_bit_9 ?_
  refine lv_iconst (v := nI 1) hx hb dX13_bit_10 (by decide) ?_
  refine lv_isub hx hb dX13_bit_11 ?_
  refine x_ren (b := (-1)) (by decide) ?_
  refine p_calli (va_runS (As := [.int j, .int (nI 0), .int (-1)]) (rest := [.ref mm]) C.fix (e_X13_isIn l D cy S1 H.size j (nI 0) (-1) j.toInt ((0 : Nat) : Int) (-1)  rfl (nI_toInt (by first | decide | omega)) (show (-1 : Int32).toInt = -1 from by decide)) (va_cwS 3 C.2.2.2.2.1 (gU_S mw_394 mw_395 mw_5 (subU mw_396)) rfl rfl rfl hde_X13_bit_S_1 ⟨Nat.le_of_ble_eq_true rfl, Nat.le_of_ble_eq_true rfl⟩) (p_preS C hw) rfl rfl hl.1 rfl (lv_room (Nat.le_of_ble_eq_true rfl)) dX13_bit_12 ⟨(Nat.le_of_ble_eq_true rfl), (Nat.le_of_ble_eq_true rfl)⟩) hw hA (fun r13 S12 H locs hpost hw => ?_)
  rcases hpost with hpost | hpost
  · skip
    obtain ⟨hc14, hr_, hS_⟩ := hpost
    subst hr_
    subst hS_
    exfalso; omega
  · skip
    obtain ⟨hc15, hr_, hS_⟩ := hpost
    subst hr_
    subst hS_
    refine n_if_ne (tgt := 22) hx hb (by first | decide | omega) dX13_bit_15 (by decide) (fun h_15 => ?_) (fun h_15 => ?_)
    · exact absurd h_15 (by first | decide | omega)
    · skip
      refine lv_iconst (v := nI 1) hx hb dX13_bit_18 (by decide) ?_
      refine lv_goto (tgt := 23) hx hb dX13_bit_19 (by decide) ?_
      refine lv_iconst (v := nI 1) hx hb dX13_bit_23 (by decide) ?_
      have hL16 : mm ∈ S1.1 := by rw [hS5]; exact List.mem_append_left _ hL_mm
      have hf17 : S1.2 mm = .inr (13, [.int (nI 0), .ref me, .ref sg, .ref cn, .ref im]) := (hfr6 mm hL_mm ).trans hf_mm
      refine p_calli (va_runV (As := [.int (nI 1), .int (nI 1)]) (rest := []) C.fix (e_X13_start1 l D cy S1 H.size mm me sg cn im 1 0 hL16 hf17 (by first | assumption | decide | omega) (by first | assumption | decide | omega)) (cwV 2 C.2.2.2.2.1 (gU_V mw_397 mw_398 mw_399 mw_5 (subU mw_400)) rfl rfl rfl hde_X13_bit_V_2 ⟨Nat.le_of_ble_eq_true rfl, Nat.le_of_ble_eq_true rfl⟩) (p_preV C hw hL16 hf17 rfl) rfl rfl hl.1 rfl (lv_room (Nat.le_of_ble_eq_true rfl)) dX13_bit_24 ⟨(Nat.le_of_ble_eq_true rfl), (Nat.le_of_ble_eq_true rfl)⟩) hw hA (fun r19 S18 H locs hpost hw => ?_)
      obtain ⟨hr_, hS20, hfr21, hf22⟩ := hpost
      subst hr_
      have hL23 : mm ∈ S18.1 := by rw [hS20]; exact List.mem_append_left _ hL16
      refine n_if_ne (tgt := 52) hx hb (by first | decide | omega) dX13_bit_27 (by decide) (fun h_27 => ?_) (fun h_27 => ?_)
      · skip
        refine lv_iconst (v := nI 0) hx hb dX13_bit_52 (by decide) ?_
        refine lv_goto (tgt := 73) hx hb dX13_bit_53 (by decide) ?_
        exact (p_iret C hw (⟨([rl3, ra4]), rfl, (by simp only [hS20, hS5, pup, pnew, List.append_nil, List.append_assoc, List.cons_append, List.nil_append]), (fun a_ ha_ hn_0 => ((hfr21 a_ (show a_ ∈ S1.1 from by rw [hS5]; exact List.mem_append_left _ ha_) hn_0).trans (hfr6 a_ ha_ ))), hf22⟩) hr hlocks dX13_bit_73)
      · exact absurd h_27 (by first | decide | omega)

theorem hde_X13_told_S_0 : yX13_isIn.cls ≠ "java/lang/invoke/MethodHandle" ∧ yX13_isIn.cls ≠ "java/lang/invoke/VarHandle" ∧ (parseMethodDescriptor yX13_isIn.desc).map (fun d => d.parameters.length) = some 3 := by decide +kernel
theorem hde_X13_told_V_1 : yX13_start.cls = RX13 ∧ yX13_start.cls ≠ "java/lang/invoke/MethodHandle" ∧ yX13_start.cls ≠ "java/lang/invoke/VarHandle" ∧ (parseMethodDescriptor yX13_start.desc).map (fun d => d.parameters.length) = some 2 := by decide +kernel
set_option maxHeartbeats 4000000 in
set_option maxRecDepth 100000 in
theorem e_X13_told (l : Launch) (D : va_G) (cy : Nat → ClassId) (ed : Nat) (S : pS) (sz : Nat) (mm : Nat) (me : Nat) (sg : Nat) (cn : Nat) (im : Nat) (j : Int32) (w : Int32) (hL_mm : mm ∈ S.1) (hf_mm : S.2 mm = .inr (13, [.int (nI 0), .ref me, .ref sg, .ref cn, .ref im])) (hL_me : me ∈ S.1) (hf_me : S.2 me = .inl (cy 0, 0, .inl (fun _ => 0)))  : Met l yX13_told (Cond.code yX13_told cX13_told 3 (some .int) :: lwU) ({ frames := 2, cells := 0, slots := 0, locals := 44 }) (ePc D cy ed S sz [.ref mm, .int j, .int w]) (pQi D cy S sz (fun r S' => ∃ (nl : List Nat), r = (nI 0) ∧ S'.1 = S.1 ++ nl ∧ (∀ a_, a_ ∈ S.1 → a_ ≠ mm → S'.2 a_ = S.2 a_) ∧ S'.2 mm = .inr (13, [.int (nI 1), .ref me, .ref sg, .ref cn, .ref im]))) 0 0 (pA S sz) := by
  refine Met.ofW (cc := cX13_told) (maxL := 3) (ret := (some .int)) (by decide) rfl ?_
  intro p e s m args below meth c s₁ B hml hv
  obtain ⟨rfl, rfl, C, hw, hA, hr, hlocks, hE⟩ := e_start B hml hv
  have hx := C.1
  have hb := C.2.1
  have hl := lv_entry ([.ref mm, .int j, .int w]) (n := 3) (Nat.le_of_ble_eq_true rfl)
  rw [lg_entry_eq]
  generalize (lg_sl ([.ref mm, .int j, .int w]) ++ List.replicate (3 - (lg_sl ([.ref mm, .int j, .int w])).length) Slot.unset).toArray = ls at hl ⊢
  have hl : lv_has ls 3 [(0, .ref mm), (1, .int j), (2, .int w)] := hl
  have hin_RX13 : ∀ w ∈ u_ws RX13 TX13 5, w ∈ (Cond.code yX13_told cX13_told 3 (some .int) :: lwU) := fun w h => mU (sub_RX13 w h)
  refine lv_aload_n hx hb dX13_told_0 rfl (lv_at hl 0 rfl) ?_
  refine lv_iload_n hx hb dX13_told_1 rfl (lv_at hl 1 rfl) ?_
  refine lv_iconst (v := nI 0) hx hb dX13_told_2 (by decide) ?_
  refine lv_aload_n hx hb dX13_told_3 rfl (lv_at hl 0 rfl) ?_
  refine p_get C hw (ci := 13) (Cn := RX13) (T := TX13) (N := 5) hL_mm hf_mm rfl hin_RX13 1 (by decide) (mU mw_86) rfl rfl dX13_told_4 ?_
  refine n_len C hw 0 rfl hL_me hf_me (n := 0) rfl dX13_told_7 ?_
  refine lv_iconst (v := nI 1) hx hb dX13_told_8 (by decide) ?_
  refine lv_isub hx hb dX13_told_9 ?_
  refine x_ren (b := (-1)) (by decide) ?_
  refine p_calli (va_runS (As := [.int j, .int (nI 0), .int (-1)]) (rest := [.ref mm]) C.fix (e_X13_isIn l D cy S s.heap.size j (nI 0) (-1) j.toInt ((0 : Nat) : Int) (-1)  rfl (nI_toInt (by first | decide | omega)) (show (-1 : Int32).toInt = -1 from by decide)) (va_cwS 3 C.2.2.2.2.1 (gU_S mw_394 mw_395 mw_5 (subU mw_396)) rfl rfl rfl hde_X13_told_S_0 ⟨Nat.le_of_ble_eq_true rfl, Nat.le_of_ble_eq_true rfl⟩) (p_preS C hw) rfl rfl hl.1 rfl (lv_room (Nat.le_of_ble_eq_true rfl)) dX13_told_10 ⟨(Nat.le_of_ble_eq_true rfl), (Nat.le_of_ble_eq_true rfl)⟩) hw hA (fun r2 S1 H locs hpost hw => ?_)
  rcases hpost with hpost | hpost
  · skip
    obtain ⟨hc3, hr_, hS_⟩ := hpost
    subst hr_
    subst hS_
    exfalso; omega
  · skip
    obtain ⟨hc4, hr_, hS_⟩ := hpost
    subst hr_
    subst hS_
    refine n_if_ne (tgt := 20) hx hb (by first | decide | omega) dX13_told_13 (by decide) (fun h_13 => ?_) (fun h_13 => ?_)
    · exact absurd h_13 (by first | decide | omega)
    · skip
      refine lv_iconst (v := nI 1) hx hb dX13_told_16 (by decide) ?_
      refine lv_goto (tgt := 21) hx hb dX13_told_17 (by decide) ?_
      refine lv_iconst (v := nI 1) hx hb dX13_told_21 (by decide) ?_
      refine p_calli (va_runV (As := [.int (nI 1), .int (nI 1)]) (rest := []) C.fix (e_X13_start1 l D cy S H.size mm me sg cn im 1 0 hL_mm hf_mm (by first | assumption | decide | omega) (by first | assumption | decide | omega)) (cwV 2 C.2.2.2.2.1 (gU_V mw_397 mw_398 mw_399 mw_5 (subU mw_400)) rfl rfl rfl hde_X13_told_V_1 ⟨Nat.le_of_ble_eq_true rfl, Nat.le_of_ble_eq_true rfl⟩) (p_preV C hw hL_mm hf_mm rfl) rfl rfl hl.1 rfl (lv_room (Nat.le_of_ble_eq_true rfl)) dX13_told_22 ⟨(Nat.le_of_ble_eq_true rfl), (Nat.le_of_ble_eq_true rfl)⟩) hw hA (fun r6 S5 H locs hpost hw => ?_)
      obtain ⟨hr_, hS7, hfr8, hf9⟩ := hpost
      subst hr_
      have hL10 : mm ∈ S5.1 := by rw [hS7]; exact List.mem_append_left _ hL_mm
      refine n_if_ne (tgt := 50) hx hb (by first | decide | omega) dX13_told_25 (by decide) (fun h_25 => ?_) (fun h_25 => ?_)
      · skip
        refine lv_iconst (v := nI 0) hx hb dX13_told_50 (by decide) ?_
        refine lv_goto (tgt := 73) hx hb dX13_told_51 (by decide) ?_
        exact (p_iret C hw (⟨[], rfl, (by simp only [hS7, pup, pnew, List.append_nil, List.append_assoc, List.cons_append, List.nil_append]), (fun a_ ha_ hn_0 => (hfr8 a_ ha_ hn_0)), hf9⟩) hr hlocks dX13_told_73)
      · exact absurd h_25 (by first | decide | omega)

theorem hde_X13_errorsWith_V_0 : yX13_sentNow.cls = RX13 ∧ yX13_sentNow.cls ≠ "java/lang/invoke/MethodHandle" ∧ yX13_sentNow.cls ≠ "java/lang/invoke/VarHandle" ∧ (parseMethodDescriptor yX13_sentNow.desc).map (fun d => d.parameters.length) = some 0 := by decide +kernel
theorem hde_X13_errorsWith_S_1 : yX13_isIn.cls ≠ "java/lang/invoke/MethodHandle" ∧ yX13_isIn.cls ≠ "java/lang/invoke/VarHandle" ∧ (parseMethodDescriptor yX13_isIn.desc).map (fun d => d.parameters.length) = some 3 := by decide +kernel
theorem hde_X13_errorsWith_V_2 : yX13_start.cls = RX13 ∧ yX13_start.cls ≠ "java/lang/invoke/MethodHandle" ∧ yX13_start.cls ≠ "java/lang/invoke/VarHandle" ∧ (parseMethodDescriptor yX13_start.desc).map (fun d => d.parameters.length) = some 2 := by decide +kernel
set_option maxHeartbeats 4000000 in
set_option maxRecDepth 100000 in
theorem e_X13_errorsWith (l : Launch) (D : va_G) (cy : Nat → ClassId) (ed : Nat) (S : pS) (sz : Nat) (mm : Nat) (me : Nat) (sg : Nat) (cn : Nat) (im : Nat) (j : Int32) (hL_mm : mm ∈ S.1) (hf_mm : S.2 mm = .inr (13, [.int (nI 0), .ref me, .ref sg, .ref cn, .ref im])) (hL_me : me ∈ S.1) (hf_me : S.2 me = .inl (cy 0, 0, .inl (fun _ => 0))) (hL_sg : sg ∈ S.1) (hf_sg : S.2 sg = .inr (0, [.int (nI 0), .ref ed, .int (nI 0)]))  : Met l yX13_errorsWith (Cond.code yX13_errorsWith cX13_errorsWith 2 (some .int) :: lwU) ({ frames := 7, cells := 2, slots := 13, locals := 151 }) (ePc D cy ed S sz [.ref mm, .int j]) (pQi D cy S sz (fun r S' => ∃ (nl : List Nat), r = (nI 0) ∧ S'.1 = S.1 ++ nl ∧ (∀ a_, a_ ∈ S.1 → a_ ≠ mm → S'.2 a_ = S.2 a_) ∧ S'.2 mm = .inr (13, [.int (nI 1), .ref me, .ref sg, .ref cn, .ref im]))) 2 13 (pA S sz) := by
  refine Met.ofW (cc := cX13_errorsWith) (maxL := 2) (ret := (some .int)) (by decide) rfl ?_
  intro p e s m args below meth c s₁ B hml hv
  obtain ⟨rfl, rfl, C, hw, hA, hr, hlocks, hE⟩ := e_start B hml hv
  have hx := C.1
  have hb := C.2.1
  have hl := lv_entry ([.ref mm, .int j]) (n := 2) (Nat.le_of_ble_eq_true rfl)
  rw [lg_entry_eq]
  generalize (lg_sl ([.ref mm, .int j]) ++ List.replicate (2 - (lg_sl ([.ref mm, .int j])).length) Slot.unset).toArray = ls at hl ⊢
  have hl : lv_has ls 2 [(0, .ref mm), (1, .int j)] := hl
  refine lv_aload_n hx hb dX13_errorsWith_0 rfl (lv_at hl 0 rfl) ?_
  refine lv_iload_n hx hb dX13_errorsWith_1 rfl (lv_at hl 1 rfl) ?_
  refine lv_iconst (v := nI 0) hx hb dX13_errorsWith_2 (by decide) ?_
  refine lv_aload_n hx hb dX13_errorsWith_3 rfl (lv_at hl 0 rfl) ?_
  refine p_callq (va_runV (As := []) (rest := [.int (nI 0), .int j, .ref mm]) C.fix (e_X13_sentNow0 l D cy ed S s.heap.size mm me sg cn im 0 hL_mm hf_mm hL_me hf_me hL_sg hf_sg ) (cwV 0 C.2.2.2.2.1 (gU_V mw_599 mw_600 mw_601 mw_5 (subU mw_602)) rfl rfl rfl hde_X13_errorsWith_V_0 ⟨Nat.le_of_ble_eq_true rfl, Nat.le_of_ble_eq_true rfl⟩) (e_preV C hw hA hE hL_mm hf_mm rfl) rfl rfl hl.1 rfl (lv_room (Nat.le_of_ble_eq_true rfl)) dX13_errorsWith_4 ⟨(Nat.le_of_ble_eq_true rfl), (Nat.le_of_ble_eq_true rfl)⟩) hw hA (fun r2 S1 H locs hpost hw => ?_)
  obtain ⟨rl3, ra4, hr_, hS5, hfr6⟩ := hpost
  subst hr_
  have hnd7 := p_apart hw hS5
  have hq8 : rl3 ∉ S.1 := p_fresh hw hS5 0 rfl
  have hq9 : ra4 ∉ S.1 := p_fresh hw hS5 1 rfl
  have hL10 : me ∈ S1.1 := by rw [hS5]; exact List.mem_append_left _ hL_me
  have hf11 : S1.2 me = .inl (cy 0, 0, .inl (fun _ => 0)) := (hfr6 me hL_me ).trans hf_me
  refine n_len C hw 0 rfl hL10 hf11 (n := 0) rfl dX13_errorsWith_7 ?_
  refine lv_iconst (v := nI 1) hx hb dX13_errorsWith_8 (by decide) ?_
  refine lv_isub hx hb dX13_errorsWith_9 ?_
  refine x_ren (b := (-1)) (by decide) ?_
  refine p_calli (va_runS (As := [.int j, .int (nI 0), .int (-1)]) (rest := [.ref mm]) C.fix (e_X13_isIn l D cy S1 H.size j (nI 0) (-1) j.toInt ((0 : Nat) : Int) (-1)  rfl (nI_toInt (by first | decide | omega)) (show (-1 : Int32).toInt = -1 from by decide)) (va_cwS 3 C.2.2.2.2.1 (gU_S mw_394 mw_395 mw_5 (subU mw_396)) rfl rfl rfl hde_X13_errorsWith_S_1 ⟨Nat.le_of_ble_eq_true rfl, Nat.le_of_ble_eq_true rfl⟩) (p_preS C hw) rfl rfl hl.1 rfl (lv_room (Nat.le_of_ble_eq_true rfl)) dX13_errorsWith_10 ⟨(Nat.le_of_ble_eq_true rfl), (Nat.le_of_ble_eq_true rfl)⟩) hw hA (fun r13 S12 H locs hpost hw => ?_)
  rcases hpost with hpost | hpost
  · skip
    obtain ⟨hc14, hr_, hS_⟩ := hpost
    subst hr_
    subst hS_
    exfalso; omega
  · skip
    obtain ⟨hc15, hr_, hS_⟩ := hpost
    subst hr_
    subst hS_
    refine n_if_ne (tgt := 20) hx hb (by first | decide | omega) dX13_errorsWith_13 (by decide) (fun h_13 => ?_) (fun h_13 => ?_)
    · exact absurd h_13 (by first | decide | omega)
    · skip
      refine lv_iconst (v := nI 1) hx hb dX13_errorsWith_16 (by decide) ?_
      refine lv_goto (tgt := 21) hx hb dX13_errorsWith_17 (by decide) ?_
      refine lv_iconst (v := nI 1) hx hb dX13_errorsWith_21 (by decide) ?_
      have hL16 : mm ∈ S1.1 := by rw [hS5]; exact List.mem_append_left _ hL_mm
      have hf17 : S1.2 mm = .inr (13, [.int (nI 0), .ref me, .ref sg, .ref cn, .ref im]) := (hfr6 mm hL_mm ).trans hf_mm
      refine p_calli (va_runV (As := [.int (nI 1), .int (nI 1)]) (rest := []) C.fix (e_X13_start1 l D cy S1 H.size mm me sg cn im 1 0 hL16 hf17 (by first | assumption | decide | omega) (by first | assumption | decide | omega)) (cwV 2 C.2.2.2.2.1 (gU_V mw_397 mw_398 mw_399 mw_5 (subU mw_400)) rfl rfl rfl hde_X13_errorsWith_V_2 ⟨Nat.le_of_ble_eq_true rfl, Nat.le_of_ble_eq_true rfl⟩) (p_preV C hw hL16 hf17 rfl) rfl rfl hl.1 rfl (lv_room (Nat.le_of_ble_eq_true rfl)) dX13_errorsWith_22 ⟨(Nat.le_of_ble_eq_true rfl), (Nat.le_of_ble_eq_true rfl)⟩) hw hA (fun r19 S18 H locs hpost hw => ?_)
      obtain ⟨hr_, hS20, hfr21, hf22⟩ := hpost
      subst hr_
      have hL23 : mm ∈ S18.1 := by rw [hS20]; exact List.mem_append_left _ hL16
      refine n_if_eq (tgt := 32) hx hb (by first | decide | omega) dX13_errorsWith_25 (by decide) (fun h_25 => ?_) (fun h_25 => ?_)
      · exact absurd h_25 (by first | decide | omega)
      · skip
        refine lv_iconst (v := nI 0) hx hb dX13_errorsWith_28 (by decide) ?_
        refine lv_goto (tgt := 37) hx hb dX13_errorsWith_29 (by decide) ?_
        exact (p_iret C hw (⟨([rl3, ra4]), rfl, (by simp only [hS20, hS5, pup, pnew, List.append_nil, List.append_assoc, List.cons_append, List.nil_append]), (fun a_ ha_ hn_0 => ((hfr21 a_ (show a_ ∈ S1.1 from by rw [hS5]; exact List.mem_append_left _ ha_) hn_0).trans (hfr6 a_ ha_ ))), hf22⟩) hr hlocks dX13_errorsWith_37)

theorem hde_X13_drop_V_0 : yJx4a65c_isEmpty_aae02.cls = RJx4a65c ∧ yJx4a65c_isEmpty_aae02.cls ≠ "java/lang/invoke/MethodHandle" ∧ yJx4a65c_isEmpty_aae02.cls ≠ "java/lang/invoke/VarHandle" ∧ (parseMethodDescriptor yJx4a65c_isEmpty_aae02.desc).map (fun d => d.parameters.length) = some 0 := by decide +kernel
theorem hde_X13_drop_V_1 : yX13_start.cls = RX13 ∧ yX13_start.cls ≠ "java/lang/invoke/MethodHandle" ∧ yX13_start.cls ≠ "java/lang/invoke/VarHandle" ∧ (parseMethodDescriptor yX13_start.desc).map (fun d => d.parameters.length) = some 2 := by decide +kernel
set_option maxHeartbeats 4000000 in
set_option maxRecDepth 100000 in
theorem e_X13_drop (l : Launch) (D : va_G) (cy : Nat → ClassId) (ed : Nat) (S : pS) (sz : Nat) (mm : Nat) (me : Nat) (sg : Nat) (cn : Nat) (im : Nat) (hL_mm : mm ∈ S.1) (hf_mm : S.2 mm = .inr (13, [.int (nI 0), .ref me, .ref sg, .ref cn, .ref im])) (hL_sg : sg ∈ S.1) (hf_sg : S.2 sg = .inr (0, [.int (nI 0), .ref ed, .int (nI 0)]))  : Met l yX13_drop (Cond.code yX13_drop cX13_drop 1 (some .int) :: lwU) ({ frames := 2, cells := 0, slots := 0, locals := 44 }) (ePc D cy ed S sz [.ref mm]) (pQi D cy S sz (fun r S' => ∃ (nl : List Nat), r = (nI 0) ∧ S'.1 = S.1 ++ nl ∧ (∀ a_, a_ ∈ S.1 → a_ ≠ mm → S'.2 a_ = S.2 a_) ∧ S'.2 mm = .inr (13, [.int (nI 1), .ref me, .ref sg, .ref cn, .ref im]))) 0 0 (pA S sz) := by
  refine Met.ofW (cc := cX13_drop) (maxL := 1) (ret := (some .int)) (by decide) rfl ?_
  intro p e s m args below meth c s₁ B hml hv
  obtain ⟨rfl, rfl, C, hw, hA, hr, hlocks, hE⟩ := e_start B hml hv
  have hx := C.1
  have hb := C.2.1
  have hl := lv_entry ([.ref mm]) (n := 1) (Nat.le_of_ble_eq_true rfl)
  rw [lg_entry_eq]
  generalize (lg_sl ([.ref mm]) ++ List.replicate (1 - (lg_sl ([.ref mm])).length) Slot.unset).toArray = ls at hl ⊢
  have hl : lv_has ls 1 [(0, .ref mm)] := hl
  have hin_RX13 : ∀ w ∈ u_ws RX13 TX13 5, w ∈ (Cond.code yX13_drop cX13_drop 1 (some .int) :: lwU) := fun w h => mU (sub_RX13 w h)
  refine lv_aload_n hx hb dX13_drop_0 rfl (lv_at hl 0 rfl) ?_
  refine lv_aload_n hx hb dX13_drop_1 rfl (lv_at hl 0 rfl) ?_
  refine p_get C hw (ci := 13) (Cn := RX13) (T := TX13) (N := 5) hL_mm hf_mm rfl hin_RX13 2 (by decide) (mU mw_90) rfl rfl dX13_drop_2 ?_
  refine p_calli (va_runV (As := []) (rest := [.ref mm]) C.fix (e_Jx4a65c_isEmpty_aae020 l D cy S s.heap.size sg ed 0 hL_sg hf_sg ) (cwV 0 C.2.2.2.2.1 (gU_V mw_700 mw_701 mw_702 mw_89 (subU mw_703)) rfl rfl rfl hde_X13_drop_V_0 ⟨Nat.le_of_ble_eq_true rfl, Nat.le_of_ble_eq_true rfl⟩) (p_preV C hw hL_sg hf_sg rfl) rfl rfl hl.1 rfl (lv_room (Nat.le_of_ble_eq_true rfl)) dX13_drop_5 ⟨(Nat.le_of_ble_eq_true rfl), (Nat.le_of_ble_eq_true rfl)⟩) hw hA (fun r2 S1 H locs hpost hw => ?_)
  obtain ⟨hr_, hS_⟩ := hpost
  subst hr_
  subst hS_
  refine lv_iconst (v := nI 1) hx hb dX13_drop_8 (by decide) ?_
  refine p_calli (va_runV (As := [.int (nI 1), .int (nI 1)]) (rest := []) C.fix (e_X13_start1 l D cy S H.size mm me sg cn im 1 0 hL_mm hf_mm (by first | assumption | decide | omega) (by first | assumption | decide | omega)) (cwV 2 C.2.2.2.2.1 (gU_V mw_397 mw_398 mw_399 mw_5 (subU mw_400)) rfl rfl rfl hde_X13_drop_V_1 ⟨Nat.le_of_ble_eq_true rfl, Nat.le_of_ble_eq_true rfl⟩) (p_preV C hw hL_mm hf_mm rfl) rfl rfl hl.1 rfl (lv_room (Nat.le_of_ble_eq_true rfl)) dX13_drop_9 ⟨(Nat.le_of_ble_eq_true rfl), (Nat.le_of_ble_eq_true rfl)⟩) hw hA (fun r4 S3 H locs hpost hw => ?_)
  obtain ⟨hr_, hS5, hfr6, hf7⟩ := hpost
  subst hr_
  have hL8 : mm ∈ S3.1 := by rw [hS5]; exact List.mem_append_left _ hL_mm
  refine n_if_eq (tgt := 17) hx hb (by first | decide | omega) dX13_drop_12 (by decide) (fun h_12 => ?_) (fun h_12 => ?_)
  · exact absurd h_12 (by first | decide | omega)
  · skip
    refine lv_iconst (v := nI 0) hx hb dX13_drop_15 (by decide) ?_
    exact (p_iret C hw (⟨[], rfl, (by simp only [hS5, pup, pnew, List.append_nil, List.append_assoc, List.cons_append, List.nil_append]), (fun a_ ha_ hn_0 => (hfr6 a_ ha_ hn_0)), hf7⟩) hr hlocks dX13_drop_16)

theorem hde_X13_clear_V_0 : yX13_plain.cls = RX13 ∧ yX13_plain.cls ≠ "java/lang/invoke/MethodHandle" ∧ yX13_plain.cls ≠ "java/lang/invoke/VarHandle" ∧ (parseMethodDescriptor yX13_plain.desc).map (fun d => d.parameters.length) = some 1 := by decide +kernel
set_option maxHeartbeats 4000000 in
set_option maxRecDepth 100000 in
theorem e_X13_clear (l : Launch) (D : va_G) (cy : Nat → ClassId) (ed : Nat) (S : pS) (sz : Nat) (mm : Nat) (me : Nat) (sg : Nat) (cn : Nat) (im : Nat) (hL_mm : mm ∈ S.1) (hf_mm : S.2 mm = .inr (13, [.int (nI 0), .ref me, .ref sg, .ref cn, .ref im])) (hL_me : me ∈ S.1) (hf_me : S.2 me = .inl (cy 0, 0, .inl (fun _ => 0)))  : Met l yX13_clear (Cond.code yX13_clear cX13_clear 2 (some .int) :: lwU) ({ frames := 1, cells := 1, slots := 0, locals := 21 }) (ePc D cy ed S sz [.ref mm]) (pQi D cy S sz (fun r S' => ∃ (w9 : Nat) (nl : List Nat), r = (nI 0) ∧ S'.1 = S.1 ++ nl ∧ (∀ a_, a_ ∈ S.1 → a_ ≠ mm → S'.2 a_ = S.2 a_) ∧ S'.2 mm = .inr (13, [.int (nI 0), .ref w9, .ref sg, .ref cn, .ref im]))) 1 0 (pA S sz) := by
  refine Met.ofW (cc := cX13_clear) (maxL := 2) (ret := (some .int)) (by decide) rfl ?_
  intro p e s m args below meth c s₁ B hml hv
  obtain ⟨rfl, rfl, C, hw, hA, hr, hlocks, hE⟩ := e_start B hml hv
  have hx := C.1
  have hb := C.2.1
  have hl := lv_entry ([.ref mm]) (n := 2) (Nat.le_of_ble_eq_true rfl)
  rw [lg_entry_eq]
  generalize (lg_sl ([.ref mm]) ++ List.replicate (2 - (lg_sl ([.ref mm])).length) Slot.unset).toArray = ls at hl ⊢
  have hl : lv_has ls 2 [(0, .ref mm)] := hl
  have hin_RX13 : ∀ w ∈ u_ws RX13 TX13 5, w ∈ (Cond.code yX13_clear cX13_clear 2 (some .int) :: lwU) := fun w h => mU (sub_RX13 w h)
  refine lv_aload_n hx hb dX13_clear_0 rfl (lv_at hl 0 rfl) ?_
  refine p_get C hw (ci := 13) (Cn := RX13) (T := TX13) (N := 5) hL_mm hf_mm rfl hin_RX13 1 (by decide) (mU mw_86) rfl rfl dX13_clear_1 ?_
  refine n_len C hw 0 rfl hL_me hf_me (n := 0) rfl dX13_clear_4 ?_
  refine lv_istore_n (lv' := [(1, .int (nI 0)), (0, .ref mm)]) hx hb dX13_clear_5 rfl hl (by decide) rfl (fun ls hl => ?_)
  refine lv_aload_n hx hb dX13_clear_6 rfl (lv_at hl 1 rfl) ?_
  refine lv_iconst (v := nI 0) hx hb dX13_clear_7 (by decide) ?_
  refine p_newa C hw hA (mU mw_59) 0 rfl (n := 0) (by first | decide | omega) (Nat.le_of_ble_eq_true rfl) (Nat.le_of_ble_eq_true rfl) dX13_clear_8 (fun w9 H hq_w9 hw => ?_)
  obtain ⟨S1, hS1⟩ : ∃ z, z = pnew S w9 (.inl (cy 0, 0, .inl (fun _ => 0))) := ⟨_, rfl⟩
  replace hw : pW D (pA S s.heap.size) s.heap S1 H [] := by rw [hS1]; exact hw
  have hL2 : w9 ∈ S1.1 := by rw [hS1]; exact List.mem_append_right _ List.mem_cons_self
  have hf3 : S1.2 w9 = .inl (cy 0, 0, .inl (fun _ => 0)) := by rw [hS1]; exact pnew_s
  have hL4 : mm ∈ S1.1 := by rw [hS1]; exact List.mem_append_left _ hL_mm
  have hf5 : S1.2 mm = .inr (13, [.int (nI 0), .ref me, .ref sg, .ref cn, .ref im]) := by rw [hS1]; exact (pnew_n (fun z : mm = w9 => hq_w9 (by rw [← z]; exact hL_mm))).trans hf_mm
  refine p_put C hw (ci := 13) (Cn := RX13) (T := TX13) (N := 5) tyX13 tyX13_ok nmX13 hL4 hf5 rfl hin_RX13 1 (by decide) (mU mw_86) rfl rfl rfl rfl rfl (by simp) dX13_clear_10 rfl (fun H locs hw => ?_)
  obtain ⟨S6, hS6⟩ : ∃ z, z = pup S1 mm (.inr (13, [.int (nI 0), .ref w9, .ref sg, .ref cn, .ref im])) := ⟨_, rfl⟩
  replace hw : pW D (pA S s.heap.size) s.heap S6 H locs := by rw [hS6]; exact hw
  have hL7 : mm ∈ S6.1 := by rw [hS6]; exact hL4
  have hf8 : S6.2 mm = .inr (13, [.int (nI 0), .ref w9, .ref sg, .ref cn, .ref im]) := by rw [hS6]; exact pup_s
  refine lv_aload_n hx hb dX13_clear_13 rfl (lv_at hl 1 rfl) ?_
  refine lv_iload_n hx hb dX13_clear_14 rfl (lv_at hl 0 rfl) ?_
  refine p_calli (va_runV (As := [.int (nI 0)]) (rest := []) C.fix (e_X13_plain l D cy S6 H.size mm w9 sg cn im (nI 0) 0 hL7 hf8 ) (cwV 1 C.2.2.2.2.1 (gU_V mw_556 mw_557 mw_558 mw_5 (subU mw_559)) rfl rfl rfl hde_X13_clear_V_0 ⟨Nat.le_of_ble_eq_true rfl, Nat.le_of_ble_eq_true rfl⟩) (p_preV C hw hL7 hf8 rfl) rfl rfl hl.1 rfl (lv_room (Nat.le_of_ble_eq_true rfl)) dX13_clear_15 ⟨(Nat.le_of_ble_eq_true rfl), (Nat.le_of_ble_eq_true rfl)⟩) hw hA (fun r10 S9 H locs hpost hw => ?_)
  obtain ⟨hr_, hS11, hfr12, hf13⟩ := hpost
  subst hr_
  have hL14 : mm ∈ S9.1 := by rw [hS11]; exact List.mem_append_left _ hL7
  exact (p_iret C hw (⟨w9, ([w9]), rfl, (by simp only [hS11, hS6, hS1, pup, pnew, List.append_nil, List.append_assoc, List.cons_append, List.nil_append]), (fun a_ ha_ hn_0 => ((hfr12 a_ (show a_ ∈ S6.1 from by rw [hS6]; exact (show a_ ∈ S1.1 from by rw [hS1]; exact List.mem_append_left _ ha_)) hn_0).trans ((show S6.2 a_ = S1.2 a_ from by rw [hS6]; exact pup_n hn_0).trans (show S1.2 a_ = S.2 a_ from by rw [hS1]; exact pnew_n (fun z : a_ = w9 => hq_w9 (by rw [← z]; exact ha_)))))), hf13⟩) hr hlocks dX13_clear_18)

theorem hde_X13_breaks_S_0 : yX13_isIn.cls ≠ "java/lang/invoke/MethodHandle" ∧ yX13_isIn.cls ≠ "java/lang/invoke/VarHandle" ∧ (parseMethodDescriptor yX13_isIn.desc).map (fun d => d.parameters.length) = some 3 := by decide +kernel
theorem hde_X13_breaks_V_1 : yX13_start.cls = RX13 ∧ yX13_start.cls ≠ "java/lang/invoke/MethodHandle" ∧ yX13_start.cls ≠ "java/lang/invoke/VarHandle" ∧ (parseMethodDescriptor yX13_start.desc).map (fun d => d.parameters.length) = some 2 := by decide +kernel
theorem hde_X13_breaks_V_2 : yX13_breaksNow.cls = RX13 ∧ yX13_breaksNow.cls ≠ "java/lang/invoke/MethodHandle" ∧ yX13_breaksNow.cls ≠ "java/lang/invoke/VarHandle" ∧ (parseMethodDescriptor yX13_breaksNow.desc).map (fun d => d.parameters.length) = some 1 := by decide +kernel
set_option maxHeartbeats 4000000 in
set_option maxRecDepth 100000 in
theorem e_X13_breaks (l : Launch) (D : va_G) (cy : Nat → ClassId) (ed : Nat) (S : pS) (sz : Nat) (mm : Nat) (me : Nat) (sg : Nat) (cn : Nat) (im : Nat) (j : Int32) (hL_mm : mm ∈ S.1) (hf_mm : S.2 mm = .inr (13, [.int (nI 0), .ref me, .ref sg, .ref cn, .ref im])) (hL_me : me ∈ S.1) (hf_me : S.2 me = .inl (cy 0, 0, .inl (fun _ => 0))) (hL_sg : sg ∈ S.1) (hf_sg : S.2 sg = .inr (0, [.int (nI 0), .ref ed, .int (nI 0)]))  : Met l yX13_breaks (Cond.code yX13_breaks cX13_breaks 2 (some .int) :: lwU) ({ frames := 7, cells := 3, slots := 13, locals := 155 }) (ePc D cy ed S sz [.ref mm, .int j]) (pQi D cy S sz (fun r S' => (∃ (nl : List Nat), (okM j) ∧ r = (nI 0) ∧ S'.1 = S.1 ++ nl ∧ (∀ a_, a_ ∈ S.1 → a_ ≠ mm → S'.2 a_ = S.2 a_) ∧ S'.2 mm = .inr (13, [.int (nI 0), .ref me, .ref sg, .ref cn, .ref im])) ∨ (∃ (nl : List Nat), (¬ okM j) ∧ r = (nI 0) ∧ S'.1 = S.1 ++ nl ∧ (∀ a_, a_ ∈ S.1 → a_ ≠ mm → S'.2 a_ = S.2 a_) ∧ S'.2 mm = .inr (13, [.int (nI 1), .ref me, .ref sg, .ref cn, .ref im])))) 3 13 (pA S sz) := by
  refine Met.ofW (cc := cX13_breaks) (maxL := 2) (ret := (some .int)) (by decide) rfl ?_
  intro p e s m args below meth c s₁ B hml hv
  obtain ⟨rfl, rfl, C, hw, hA, hr, hlocks, hE⟩ := e_start B hml hv
  have hx := C.1
  have hb := C.2.1
  have hl := lv_entry ([.ref mm, .int j]) (n := 2) (Nat.le_of_ble_eq_true rfl)
  rw [lg_entry_eq]
  generalize (lg_sl ([.ref mm, .int j]) ++ List.replicate (2 - (lg_sl ([.ref mm, .int j])).length) Slot.unset).toArray = ls at hl ⊢
  have hl : lv_has ls 2 [(0, .ref mm), (1, .int j)] := hl
  refine lv_aload_n hx hb dX13_breaks_0 rfl (lv_at hl 0 rfl) ?_
  refine lv_iload_n hx hb dX13_breaks_1 rfl (lv_at hl 1 rfl) ?_
  refine lv_iconst (v := nI 0) hx hb dX13_breaks_2 (by decide) ?_
  refine lv_sipush (v := nI 319) hx hb dX13_breaks_3 (by decide) ?_
  refine p_calli (va_runS (As := [.int j, .int (nI 0), .int (nI 319)]) (rest := [.ref mm]) C.fix (e_X13_isIn l D cy S s.heap.size j (nI 0) (nI 319) j.toInt ((0 : Nat) : Int) ((319 : Nat) : Int)  rfl (nI_toInt (by first | decide | omega)) (nI_toInt (by first | decide | omega))) (va_cwS 3 C.2.2.2.2.1 (gU_S mw_394 mw_395 mw_5 (subU mw_396)) rfl rfl rfl hde_X13_breaks_S_0 ⟨Nat.le_of_ble_eq_true rfl, Nat.le_of_ble_eq_true rfl⟩) (p_preS C hw) rfl rfl hl.1 rfl (lv_room (Nat.le_of_ble_eq_true rfl)) dX13_breaks_6 ⟨(Nat.le_of_ble_eq_true rfl), (Nat.le_of_ble_eq_true rfl)⟩) hw hA (fun r2 S1 H locs hpost hw => ?_)
  rcases hpost with hpost | hpost
  · skip
    obtain ⟨hc3, hr_, hS_⟩ := hpost
    subst hr_
    subst hS_
    refine n_if_ne (tgt := 16) hx hb (by first | decide | omega) dX13_breaks_9 (by decide) (fun h_9 => ?_) (fun h_9 => ?_)
    · skip
      refine lv_iconst (v := nI 0) hx hb dX13_breaks_16 (by decide) ?_
      refine lv_iconst (v := nI 1) hx hb dX13_breaks_17 (by decide) ?_
      refine p_calli (va_runV (As := [.int (nI 0), .int (nI 1)]) (rest := []) C.fix (e_X13_start0 l D cy S H.size mm me sg cn im 1 0 hL_mm hf_mm ) (cwV 2 C.2.2.2.2.1 (gU_V mw_397 mw_398 mw_399 mw_5 (subU mw_400)) rfl rfl rfl hde_X13_breaks_V_1 ⟨Nat.le_of_ble_eq_true rfl, Nat.le_of_ble_eq_true rfl⟩) (p_preV C hw hL_mm hf_mm rfl) rfl rfl hl.1 rfl (lv_room (Nat.le_of_ble_eq_true rfl)) dX13_breaks_18 ⟨(Nat.le_of_ble_eq_true rfl), (Nat.le_of_ble_eq_true rfl)⟩) hw hA (fun r5 S4 H locs hpost hw => ?_)
      obtain ⟨hr_, hS6, hfr7, hf8⟩ := hpost
      subst hr_
      have hL9 : mm ∈ S4.1 := by rw [hS6]; exact List.mem_append_left _ hL_mm
      refine n_if_eq (tgt := 28) hx hb (by first | decide | omega) dX13_breaks_21 (by decide) (fun h_21 => ?_) (fun h_21 => ?_)
      · skip
        obtain ⟨jN, hj31, rfl, hji⟩ := z_nat (x := j) (by omega)
        refine lv_aload_n hx hb dX13_breaks_28 rfl (lv_at hl 0 rfl) ?_
        refine lv_iload_n hx hb dX13_breaks_29 rfl (lv_at hl 1 rfl) ?_
        have hL10 : me ∈ S4.1 := by rw [hS6]; exact List.mem_append_left _ hL_me
        have hf11 : S4.2 me = .inl (cy 0, 0, .inl (fun _ => 0)) := (hfr7 me hL_me (ne_cells hf_me hf_mm (by nofun))).trans hf_me
        have hL12 : sg ∈ S4.1 := by rw [hS6]; exact List.mem_append_left _ hL_sg
        have hf13 : S4.2 sg = .inr (0, [.int (nI 0), .ref ed, .int (nI 0)]) := (hfr7 sg hL_sg (ne_cells hf_sg hf_mm (by nofun))).trans hf_sg
        refine p_calli (va_runV (As := [.int (nI jN)]) (rest := []) C.fix (e_X13_breaksNow l D cy ed S4 H.size mm me sg cn im 0 jN hL9 hf8 hL10 hf11 hL12 hf13 (by first | assumption | decide | omega)) (cwV 1 C.2.2.2.2.1 (gU_V mw_1070 mw_1071 mw_1072 mw_5 (subU mw_1073)) rfl rfl rfl hde_X13_breaks_V_2 ⟨Nat.le_of_ble_eq_true rfl, Nat.le_of_ble_eq_true rfl⟩) (e_preV C hw hA hE hL9 hf8 rfl) rfl rfl hl.1 rfl (lv_room (Nat.le_of_ble_eq_true rfl)) dX13_breaks_30 ⟨(Nat.le_of_ble_eq_true rfl), (Nat.le_of_ble_eq_true rfl)⟩) hw hA (fun r15 S14 H locs hpost hw => ?_)
        obtain ⟨nl16, hr_, hS17, hfr18⟩ := hpost
        subst hr_
        have hL19 : mm ∈ S14.1 := by rw [hS17]; exact List.mem_append_left _ hL9
        have hf20 : S14.2 mm = .inr (13, [.int (nI 0), .ref me, .ref sg, .ref cn, .ref im]) := (hfr18 mm hL9 ).trans hf8
        exact (p_iret C hw (by first | exact (Or.inl ⟨(nl16), (by unfold okM; omega), rfl, (by simp only [hS17, hS6, pup, pnew, List.append_nil, List.append_assoc, List.cons_append, List.nil_append]), (fun a_ ha_ hn_0 => ((hfr18 a_ (show a_ ∈ S4.1 from by rw [hS6]; exact List.mem_append_left _ ha_) ).trans (hfr7 a_ ha_ hn_0))), hf20⟩) | exact (Or.inr ⟨(nl16), (by unfold okM; omega), rfl, (by simp only [hS17, hS6, pup, pnew, List.append_nil, List.append_assoc, List.cons_append, List.nil_append]), (fun a_ ha_ hn_0 => ((hfr18 a_ (show a_ ∈ S4.1 from by rw [hS6]; exact List.mem_append_left _ ha_) ).trans (hfr7 a_ ha_ hn_0))), hf20⟩)) hr hlocks dX13_breaks_33)
      · exact absurd h_21 (by first | decide | omega)
    · exact absurd h_9 (by first | decide | omega)
  · skip
    obtain ⟨hc21, hr_, hS_⟩ := hpost
    subst hr_
    subst hS_
    refine n_if_ne (tgt := 16) hx hb (by first | decide | omega) dX13_breaks_9 (by decide) (fun h_9 => ?_) (fun h_9 => ?_)
    · exact absurd h_9 (by first | decide | omega)
    · skip
      refine lv_iconst (v := nI 1) hx hb dX13_breaks_12 (by decide) ?_
      refine lv_goto (tgt := 17) hx hb dX13_breaks_13 (by decide) ?_
      refine lv_iconst (v := nI 1) hx hb dX13_breaks_17 (by decide) ?_
      refine p_calli (va_runV (As := [.int (nI 1), .int (nI 1)]) (rest := []) C.fix (e_X13_start1 l D cy S H.size mm me sg cn im 1 0 hL_mm hf_mm (by first | assumption | decide | omega) (by first | assumption | decide | omega)) (cwV 2 C.2.2.2.2.1 (gU_V mw_397 mw_398 mw_399 mw_5 (subU mw_400)) rfl rfl rfl hde_X13_breaks_V_1 ⟨Nat.le_of_ble_eq_true rfl, Nat.le_of_ble_eq_true rfl⟩) (p_preV C hw hL_mm hf_mm rfl) rfl rfl hl.1 rfl (lv_room (Nat.le_of_ble_eq_true rfl)) dX13_breaks_18 ⟨(Nat.le_of_ble_eq_true rfl), (Nat.le_of_ble_eq_true rfl)⟩) hw hA (fun r23 S22 H locs hpost hw => ?_)
      obtain ⟨hr_, hS24, hfr25, hf26⟩ := hpost
      subst hr_
      have hL27 : mm ∈ S22.1 := by rw [hS24]; exact List.mem_append_left _ hL_mm
      refine n_if_eq (tgt := 28) hx hb (by first | decide | omega) dX13_breaks_21 (by decide) (fun h_21 => ?_) (fun h_21 => ?_)
      · exact absurd h_21 (by first | decide | omega)
      · skip
        refine lv_iconst (v := nI 0) hx hb dX13_breaks_24 (by decide) ?_
        refine lv_goto (tgt := 33) hx hb dX13_breaks_25 (by decide) ?_
        refine W.widen (k := 3) (n := 13) (Nat.le_of_ble_eq_true rfl) (Nat.le_of_ble_eq_true rfl) ?_
        exact (p_iret C hw (by first | exact (Or.inl ⟨[], (by unfold okM; omega), rfl, (by simp only [hS24, pup, pnew, List.append_nil, List.append_assoc, List.cons_append, List.nil_append]), (fun a_ ha_ hn_0 => (hfr25 a_ ha_ hn_0)), hf26⟩) | exact (Or.inr ⟨[], (by unfold okM; omega), rfl, (by simp only [hS24, pup, pnew, List.append_nil, List.append_assoc, List.cons_append, List.nil_append]), (fun a_ ha_ hn_0 => (hfr25 a_ ha_ hn_0)), hf26⟩)) hr hlocks dX13_breaks_33)

theorem hde_X13_mark_S_0 : yX13_isIn.cls ≠ "java/lang/invoke/MethodHandle" ∧ yX13_isIn.cls ≠ "java/lang/invoke/VarHandle" ∧ (parseMethodDescriptor yX13_isIn.desc).map (fun d => d.parameters.length) = some 3 := by decide +kernel
theorem hde_X13_mark_V_1 : yX13_start.cls = RX13 ∧ yX13_start.cls ≠ "java/lang/invoke/MethodHandle" ∧ yX13_start.cls ≠ "java/lang/invoke/VarHandle" ∧ (parseMethodDescriptor yX13_start.desc).map (fun d => d.parameters.length) = some 2 := by decide +kernel
set_option maxHeartbeats 4000000 in
set_option maxRecDepth 100000 in
theorem e_X13_mark (l : Launch) (D : va_G) (cy : Nat → ClassId) (ed : Nat) (S : pS) (sz : Nat) (mm : Nat) (me : Nat) (sg : Nat) (cn : Nat) (im : Nat) (j : Int32) (hL_mm : mm ∈ S.1) (hf_mm : S.2 mm = .inr (13, [.int (nI 0), .ref me, .ref sg, .ref cn, .ref im])) (hL_im : im ∈ S.1) (hf_im : S.2 im = .inl (cy 1, 320, .inl (fun _ => 0)))  : Met l yX13_mark (Cond.code yX13_mark cX13_mark 7 (some .int) :: lwU) ({ frames := 2, cells := 0, slots := 0, locals := 44 }) (ePc D cy ed S sz [.ref mm, .int j]) (pQi D cy S sz (fun r S' => (∃ (nl : List Nat), (okM j) ∧ r = (nI 1) ∧ S'.1 = S.1 ++ nl ∧ (∀ a_, a_ ∈ S.1 → a_ ≠ mm → a_ ≠ im → S'.2 a_ = S.2 a_) ∧ S'.2 mm = .inr (13, [.int (nI 0), .ref me, .ref sg, .ref cn, .ref im])) ∨ (∃ (nl : List Nat), (¬ okM j) ∧ r = (nI 0) ∧ S'.1 = S.1 ++ nl ∧ (∀ a_, a_ ∈ S.1 → a_ ≠ mm → S'.2 a_ = S.2 a_) ∧ S'.2 mm = .inr (13, [.int (nI 1), .ref me, .ref sg, .ref cn, .ref im])))) 0 0 (pA S sz) := by
  refine Met.ofW (cc := cX13_mark) (maxL := 7) (ret := (some .int)) (by decide) rfl ?_
  intro p e s m args below meth c s₁ B hml hv
  obtain ⟨rfl, rfl, C, hw, hA, hr, hlocks, hE⟩ := e_start B hml hv
  have hx := C.1
  have hb := C.2.1
  have hl := lv_entry ([.ref mm, .int j]) (n := 7) (Nat.le_of_ble_eq_true rfl)
  rw [lg_entry_eq]
  generalize (lg_sl ([.ref mm, .int j]) ++ List.replicate (7 - (lg_sl ([.ref mm, .int j])).length) Slot.unset).toArray = ls at hl ⊢
  have hl : lv_has ls 7 [(0, .ref mm), (1, .int j)] := hl
  have hin_RX13 : ∀ w ∈ u_ws RX13 TX13 5, w ∈ (Cond.code yX13_mark cX13_mark 7 (some .int) :: lwU) := fun w h => mU (sub_RX13 w h)
  refine lv_aload_n hx hb dX13_mark_0 rfl (lv_at hl 0 rfl) ?_
  refine lv_iload_n hx hb dX13_mark_1 rfl (lv_at hl 1 rfl) ?_
  refine lv_iconst (v := nI 0) hx hb dX13_mark_2 (by decide) ?_
  refine lv_sipush (v := nI 319) hx hb dX13_mark_3 (by decide) ?_
  refine p_calli (va_runS (As := [.int j, .int (nI 0), .int (nI 319)]) (rest := [.ref mm]) C.fix (e_X13_isIn l D cy S s.heap.size j (nI 0) (nI 319) j.toInt ((0 : Nat) : Int) ((319 : Nat) : Int)  rfl (nI_toInt (by first | decide | omega)) (nI_toInt (by first | decide | omega))) (va_cwS 3 C.2.2.2.2.1 (gU_S mw_394 mw_395 mw_5 (subU mw_396)) rfl rfl rfl hde_X13_mark_S_0 ⟨Nat.le_of_ble_eq_true rfl, Nat.le_of_ble_eq_true rfl⟩) (p_preS C hw) rfl rfl hl.1 rfl (lv_room (Nat.le_of_ble_eq_true rfl)) dX13_mark_6 ⟨(Nat.le_of_ble_eq_true rfl), (Nat.le_of_ble_eq_true rfl)⟩) hw hA (fun r2 S1 H locs hpost hw => ?_)
  rcases hpost with hpost | hpost
  · skip
    obtain ⟨hc3, hr_, hS_⟩ := hpost
    subst hr_
    subst hS_
    refine n_if_ne (tgt := 16) hx hb (by first | decide | omega) dX13_mark_9 (by decide) (fun h_9 => ?_) (fun h_9 => ?_)
    · skip
      refine lv_iconst (v := nI 0) hx hb dX13_mark_16 (by decide) ?_
      refine lv_iconst (v := nI 1) hx hb dX13_mark_17 (by decide) ?_
      refine p_calli (va_runV (As := [.int (nI 0), .int (nI 1)]) (rest := []) C.fix (e_X13_start0 l D cy S H.size mm me sg cn im 1 0 hL_mm hf_mm ) (cwV 2 C.2.2.2.2.1 (gU_V mw_397 mw_398 mw_399 mw_5 (subU mw_400)) rfl rfl rfl hde_X13_mark_V_1 ⟨Nat.le_of_ble_eq_true rfl, Nat.le_of_ble_eq_true rfl⟩) (p_preV C hw hL_mm hf_mm rfl) rfl rfl hl.1 rfl (lv_room (Nat.le_of_ble_eq_true rfl)) dX13_mark_18 ⟨(Nat.le_of_ble_eq_true rfl), (Nat.le_of_ble_eq_true rfl)⟩) hw hA (fun r5 S4 H locs hpost hw => ?_)
      obtain ⟨hr_, hS6, hfr7, hf8⟩ := hpost
      subst hr_
      have hL9 : mm ∈ S4.1 := by rw [hS6]; exact List.mem_append_left _ hL_mm
      refine n_if_eq (tgt := 26) hx hb (by first | decide | omega) dX13_mark_21 (by decide) (fun h_21 => ?_) (fun h_21 => ?_)
      · skip
        obtain ⟨pN, hj31, rfl, hji⟩ := z_nat (x := j) (by omega)
        have hp : pN < 320 := by omega
        refine lv_aload_n hx hb dX13_mark_26 rfl (lv_at hl 0 rfl) ?_
        refine p_get C hw (ci := 13) (Cn := RX13) (T := TX13) (N := 5) hL9 hf8 rfl hin_RX13 4 (by decide) (mU mw_93) rfl rfl dX13_mark_27 ?_
        refine lv_iload_n hx hb dX13_mark_30 rfl (lv_at hl 1 rfl) ?_
        refine lv_aload_n hx hb dX13_mark_31 rfl (lv_at hl 0 rfl) ?_
        refine p_get C hw (ci := 13) (Cn := RX13) (T := TX13) (N := 5) hL9 hf8 rfl hin_RX13 4 (by decide) (mU mw_93) rfl rfl dX13_mark_32 ?_
        refine lv_iload_n hx hb dX13_mark_35 rfl (lv_at hl 1 rfl) ?_
        have hL10 : im ∈ S4.1 := by rw [hS6]; exact List.mem_append_left _ hL_im
        have hf11 : S4.2 im = .inl (cy 1, 320, .inl (fun _ => 0)) := (hfr7 im hL_im (ne_cells hf_im hf_mm (by nofun))).trans hf_im
        refine p_zald C hw 1 rfl hL10 hf11 (by first | decide | omega) (by first | decide | omega) dX13_mark_36 ?_
        refine z_if_ne (tgt := 44) hx hb rfl dX13_mark_37 (by decide) (fun h_37 => ?_) (fun h_37 => ?_)
        · exact absurd rfl h_37
        · skip
          refine lv_iconst (v := nI 1) hx hb dX13_mark_40 (by decide) ?_
          refine lv_goto (tgt := 45) hx hb dX13_mark_41 (by decide) ?_
          refine p_zast C hw 1 rfl hL10 hf11 (by first | decide | omega) (by first | decide | omega) dX13_mark_45 (fun H locs hw => ?_)
          obtain ⟨S12, hS12⟩ : ∃ z, z = pup S4 im (.inl (cy 1, 320, .inl (upd (fun _ => 0) pN (vp_nar .boolean (nI 1))))) := ⟨_, rfl⟩
          replace hw : pW D (pA S s.heap.size) s.heap S12 H locs := by rw [hS12]; exact hw
          have hL13 : im ∈ S12.1 := by rw [hS12]; exact hL10
          have hf14 : S12.2 im = .inl (cy 1, 320, .inl (upd (fun _ => 0) pN (vp_nar .boolean (nI 1)))) := by rw [hS12]; exact pup_s
          refine lv_iconst (v := nI 0) hx hb dX13_mark_46 (by decide) ?_
          refine lv_istore_n (lv' := [(2, .int (nI 0)), (0, .ref mm), (1, .int (nI pN))]) hx hb dX13_mark_47 rfl hl (by decide) rfl (fun ls hl => ?_)
          refine lv_aload_n hx hb dX13_mark_48 rfl (lv_at hl 1 rfl) ?_
          have hL15 : mm ∈ S12.1 := by rw [hS12]; exact hL9
          have hf16 : S12.2 mm = .inr (13, [.int (nI 0), .ref me, .ref sg, .ref cn, .ref im]) := by rw [hS12]; exact (pup_n (ne_cells hf8 hf11 (by nofun))).trans hf8
          refine p_get C hw (ci := 13) (Cn := RX13) (T := TX13) (N := 5) hL15 hf16 rfl hin_RX13 4 (by decide) (mU mw_93) rfl rfl dX13_mark_49 ?_
          refine lv_astore_n (lv' := [(3, .ref im), (2, .int (nI 0)), (0, .ref mm), (1, .int (nI pN))]) hx hb dX13_mark_52 rfl hl (by decide) rfl (fun ls hl => ?_)
          refine lv_aload_n hx hb dX13_mark_53 rfl (lv_at hl 0 rfl) ?_
          refine n_len C hw 1 rfl hL13 hf14 (n := 320) rfl dX13_mark_54 ?_
          refine lv_istore (lv' := [(4, .int (nI 320)), (3, .ref im), (2, .int (nI 0)), (0, .ref mm), (1, .int (nI pN))]) hx hb dX13_mark_55 hl (by decide) rfl (fun ls hl => ?_)
          refine lv_iconst (v := nI 0) hx hb dX13_mark_57 (by decide) ?_
          refine lv_istore (lv' := [(5, .int (nI 0)), (4, .int (nI 320)), (3, .ref im), (2, .int (nI 0)), (0, .ref mm), (1, .int (nI pN))]) hx hb dX13_mark_58 hl (by decide) rfl (fun ls hl => ?_)
          have loop60_17 : ∀ (kf : Nat) (i : Nat) (c9 : Nat), 320 - i < kf → ∀ (Sx18 : pS) (H : Heap) (locs : List Loc) (ls : Array Slot), (Sx18.1 = S.1 ++ []) → (∀ a_, a_ ∈ S.1 → a_ ≠ mm → a_ ≠ im → Sx18.2 a_ = S.2 a_) → (mm ∈ Sx18.1) → (Sx18.2 mm = .inr (13, [.int (nI 0), .ref me, .ref sg, .ref cn, .ref im])) → (im ∈ Sx18.1) → (Sx18.2 im = .inl (cy 1, 320, .inl (upd (fun _ => 0) pN (vp_nar .boolean (nI 1))))) → (i ≤ 320) → (c9 = if pN < i then 1 else 0) → pW D (pA S s.heap.size) s.heap Sx18 H locs → lv_has ls 7 [(5, .int (nI i)), (4, .int (nI 320)), (3, .ref im), (2, .int (nI c9)), (0, .ref mm), (1, .int (nI pN))] → W p l e (headSpec (Cond.code yX13_mark cX13_mark 7 (some .int) :: lwU) ({ frames := 2, cells := 0, slots := 0, locals := 44 } : Room)).room s m ([.ref mm, .int (nI pN)]).toArray below meth c H locs 0 0 (MQ below (pQi D cy S s.heap.size (fun r S' => (∃ (nl : List Nat), (okM (nI pN)) ∧ r = (nI 1) ∧ S'.1 = S.1 ++ nl ∧ (∀ a_, a_ ∈ S.1 → a_ ≠ mm → a_ ≠ im → S'.2 a_ = S.2 a_) ∧ S'.2 mm = .inr (13, [.int (nI 0), .ref me, .ref sg, .ref cn, .ref im])) ∨ (∃ (nl : List Nat), (¬ okM (nI pN)) ∧ r = (nI 0) ∧ S'.1 = S.1 ++ nl ∧ (∀ a_, a_ ∈ S.1 → a_ ≠ mm → S'.2 a_ = S.2 a_) ∧ S'.2 mm = .inr (13, [.int (nI 1), .ref me, .ref sg, .ref cn, .ref im])))) ([.ref mm, .int (nI pN)]).toArray s 0 0 (pA S s.heap.size)) (F0 m 60 ls []) := by
            intro kf
            induction kf with
            | zero => intro i c9 hm; exact absurd hm (Nat.not_lt_zero _)
            | succ kf ihloop60_17 =>
              intro i c9 hm Sx18 H locs ls hS19 hfr20 hL21 hf22 hL23 hf24 hi hc9 hw hl
              refine lv_iload hx hb dX13_mark_60 (lv_at hl 0 rfl) ?_
              refine lv_iload hx hb dX13_mark_62 (lv_at hl 1 rfl) ?_
              refine n_icmp_ge (tgt := 92) hx hb (by first | decide | omega) (by first | decide | omega) dX13_mark_64 (by decide) (fun h_64 => ?_) (fun h_64 => ?_)
              · skip
                refine lv_iload_n hx hb dX13_mark_92 rfl (lv_at hl 3 rfl) ?_
                exact (p_iret C hw (by first | exact (Or.inl ⟨[], (by unfold okM; omega), (by rw [hc9, if_pos (by omega)]), (by simp only [hS19, pup, pnew, List.append_nil, List.append_assoc, List.cons_append, List.nil_append]), (fun a_ ha_ hn_0 hn_1 => (hfr20 a_ ha_ hn_0 hn_1)), hf22⟩)) hr hlocks dX13_mark_93)
              · skip
                refine lv_aload_n hx hb dX13_mark_67 rfl (lv_at hl 2 rfl) ?_
                refine lv_iload hx hb dX13_mark_68 (lv_at hl 0 rfl) ?_
                refine p_zald C hw 1 rfl hL23 hf24 (by first | decide | omega) (by first | decide | omega) dX13_mark_70 ?_
                refine lv_istore (lv' := [(6, .int ((upd (fun _ => 0) pN (vp_nar .boolean (nI 1))) i)), (5, .int (nI i)), (4, .int (nI 320)), (3, .ref im), (2, .int (nI c9)), (0, .ref mm), (1, .int (nI pN))]) hx hb dX13_mark_71 hl (by decide) rfl (fun ls hl => ?_)
                refine lv_iload_n hx hb dX13_mark_73 rfl (lv_at hl 4 rfl) ?_
                refine lv_iload hx hb dX13_mark_74 (lv_at hl 0 rfl) ?_
                refine z_if_eq (tgt := 83) hx hb rfl dX13_mark_76 (by decide) (fun h_76 => ?_) (fun h_76 => ?_)
                · skip
                  refine lv_iconst (v := nI 0) hx hb dX13_mark_83 (by decide) ?_
                  refine n_iadd hx hb dX13_mark_84 ?_
                  refine n_ren (b := c9) (by first | rfl | omega | simp) ?_
                  refine lv_istore_n (lv' := [(2, .int (nI c9)), (6, .int ((upd (fun _ => 0) pN (vp_nar .boolean (nI 1))) i)), (5, .int (nI i)), (4, .int (nI 320)), (3, .ref im), (0, .ref mm), (1, .int (nI pN))]) hx hb dX13_mark_85 rfl hl (by decide) rfl (fun ls hl => ?_)
                  refine lv_iinc (v := (nI (i + 1))) (lv' := [(5, .int (nI (i + 1))), (2, .int (nI c9)), (6, .int ((upd (fun _ => 0) pN (vp_nar .boolean (nI 1))) i)), (4, .int (nI 320)), (3, .ref im), (0, .ref mm), (1, .int (nI pN))]) hx hb dX13_mark_86 hl (k := 2) rfl (by rw [show Int32.ofInt 1 = nI 1 from by decide, nI_add]) (by decide) rfl (fun ls hl => ?_)
                  refine lv_goto (tgt := 60) hx hb dX13_mark_89 (by decide) ?_
                  exact ihloop60_17 (i + 1) c9 (by omega) Sx18 H locs ls (by simp only [hS19, pup, pnew, List.append_nil, List.append_assoc, List.cons_append, List.nil_append]) (fun a_ ha_ hn_0 hn_1 => (hfr20 a_ ha_ hn_0 hn_1)) hL21 hf22 hL23 hf24 (by omega) (by first | (have h9 := mk_f h_76; rw [hc9]; split <;> split <;> omega) | (have h9 := mk_t h_76; rw [hc9]; split <;> split <;> omega)) hw (lv_sub hl [0, 3, 4, 1, 5, 6] rfl)
                · skip
                  refine lv_iconst (v := nI 1) hx hb dX13_mark_79 (by decide) ?_
                  refine lv_goto (tgt := 84) hx hb dX13_mark_80 (by decide) ?_
                  refine n_iadd hx hb dX13_mark_84 ?_
                  refine lv_istore_n (lv' := [(2, .int (nI (c9 + 1))), (6, .int ((upd (fun _ => 0) pN (vp_nar .boolean (nI 1))) i)), (5, .int (nI i)), (4, .int (nI 320)), (3, .ref im), (0, .ref mm), (1, .int (nI pN))]) hx hb dX13_mark_85 rfl hl (by decide) rfl (fun ls hl => ?_)
                  refine lv_iinc (v := (nI (i + 1))) (lv' := [(5, .int (nI (i + 1))), (2, .int (nI (c9 + 1))), (6, .int ((upd (fun _ => 0) pN (vp_nar .boolean (nI 1))) i)), (4, .int (nI 320)), (3, .ref im), (0, .ref mm), (1, .int (nI pN))]) hx hb dX13_mark_86 hl (k := 2) rfl (by rw [show Int32.ofInt 1 = nI 1 from by decide, nI_add]) (by decide) rfl (fun ls hl => ?_)
                  refine lv_goto (tgt := 60) hx hb dX13_mark_89 (by decide) ?_
                  exact ihloop60_17 (i + 1) (c9 + 1) (by omega) Sx18 H locs ls (by simp only [hS19, pup, pnew, List.append_nil, List.append_assoc, List.cons_append, List.nil_append]) (fun a_ ha_ hn_0 hn_1 => (hfr20 a_ ha_ hn_0 hn_1)) hL21 hf22 hL23 hf24 (by omega) (by first | (have h9 := mk_f h_76; rw [hc9]; split <;> split <;> omega) | (have h9 := mk_t h_76; rw [hc9]; split <;> split <;> omega)) hw (lv_sub hl [0, 3, 4, 1, 5, 6] rfl)
          exact loop60_17 (320 - 0 + 1) 0 0 (by omega) S12 H locs ls (by simp only [hS12, hS6, pup, pnew, List.append_nil, List.append_assoc, List.cons_append, List.nil_append]) (fun a_ ha_ hn_0 hn_1 => ((show S12.2 a_ = S4.2 a_ from by rw [hS12]; exact pup_n hn_1).trans (hfr7 a_ ha_ hn_0))) hL15 hf16 hL13 hf14 (by omega) (by simp) hw (lv_sub hl [0, 1, 2, 3, 4, 5] rfl)
      · exact absurd h_21 (by first | decide | omega)
    · exact absurd h_9 (by first | decide | omega)
  · skip
    obtain ⟨hc25, hr_, hS_⟩ := hpost
    subst hr_
    subst hS_
    refine n_if_ne (tgt := 16) hx hb (by first | decide | omega) dX13_mark_9 (by decide) (fun h_9 => ?_) (fun h_9 => ?_)
    · exact absurd h_9 (by first | decide | omega)
    · skip
      refine lv_iconst (v := nI 1) hx hb dX13_mark_12 (by decide) ?_
      refine lv_goto (tgt := 17) hx hb dX13_mark_13 (by decide) ?_
      refine lv_iconst (v := nI 1) hx hb dX13_mark_17 (by decide) ?_
      refine p_calli (va_runV (As := [.int (nI 1), .int (nI 1)]) (rest := []) C.fix (e_X13_start1 l D cy S H.size mm me sg cn im 1 0 hL_mm hf_mm (by first | assumption | decide | omega) (by first | assumption | decide | omega)) (cwV 2 C.2.2.2.2.1 (gU_V mw_397 mw_398 mw_399 mw_5 (subU mw_400)) rfl rfl rfl hde_X13_mark_V_1 ⟨Nat.le_of_ble_eq_true rfl, Nat.le_of_ble_eq_true rfl⟩) (p_preV C hw hL_mm hf_mm rfl) rfl rfl hl.1 rfl (lv_room (Nat.le_of_ble_eq_true rfl)) dX13_mark_18 ⟨(Nat.le_of_ble_eq_true rfl), (Nat.le_of_ble_eq_true rfl)⟩) hw hA (fun r27 S26 H locs hpost hw => ?_)
      obtain ⟨hr_, hS28, hfr29, hf30⟩ := hpost
      subst hr_
      have hL31 : mm ∈ S26.1 := by rw [hS28]; exact List.mem_append_left _ hL_mm
      refine n_if_eq (tgt := 26) hx hb (by first | decide | omega) dX13_mark_21 (by decide) (fun h_21 => ?_) (fun h_21 => ?_)
      · exact absurd h_21 (by first | decide | omega)
      · skip
        refine lv_iconst (v := nI 0) hx hb dX13_mark_24 (by decide) ?_
        exact (p_iret C hw (by first | exact (Or.inl ⟨[], (by first | trivial | assumption | omega), rfl, (by simp only [hS28, pup, pnew, List.append_nil, List.append_assoc, List.cons_append, List.nil_append]), (fun a_ ha_ hn_0 hn_1 => (hfr29 a_ ha_ hn_0)), hf30⟩) | exact (Or.inr ⟨[], (by first | trivial | assumption | omega), rfl, (by simp only [hS28, pup, pnew, List.append_nil, List.append_assoc, List.cons_append, List.nil_append]), (fun a_ ha_ hn_0 => (hfr29 a_ ha_ hn_0)), hf30⟩)) hr hlocks dX13_mark_25)

theorem hde_X13_channel_S_0 : yX13_isIn.cls ≠ "java/lang/invoke/MethodHandle" ∧ yX13_isIn.cls ≠ "java/lang/invoke/VarHandle" ∧ (parseMethodDescriptor yX13_isIn.desc).map (fun d => d.parameters.length) = some 3 := by decide +kernel
theorem hde_X13_channel_V_1 : yX13_start.cls = RX13 ∧ yX13_start.cls ≠ "java/lang/invoke/MethodHandle" ∧ yX13_start.cls ≠ "java/lang/invoke/VarHandle" ∧ (parseMethodDescriptor yX13_start.desc).map (fun d => d.parameters.length) = some 2 := by decide +kernel
set_option maxHeartbeats 4000000 in
set_option maxRecDepth 100000 in
theorem e_X13_channel (l : Launch) (D : va_G) (cy : Nat → ClassId) (ed : Nat) (S : pS) (sz : Nat) (mm : Nat) (me : Nat) (sg : Nat) (cn : Nat) (im : Nat) (k : Int32) (a : Int32) (b : Int32) (c9 : Int32) (hL_mm : mm ∈ S.1) (hf_mm : S.2 mm = .inr (13, [.int (nI 0), .ref me, .ref sg, .ref cn, .ref im])) (hL_cn : cn ∈ S.1) (hf_cn : S.2 cn = .inl (cy 0, 4, .inl (upd (upd (upd (upd (fun _ => 0) 0 (nI 0)) 1 (nI 0)) 2 (nI 0)) 3 (nI 1))))  : Met l yX13_channel (Cond.code yX13_channel cX13_channel 7 (some .int) :: lwU) ({ frames := 2, cells := 1, slots := 4, locals := 44 }) (ePc D cy ed S sz [.ref mm, .int k, .int a, .int b, .int c9]) (pQi D cy S sz (fun r S' => (∃ (w9 : Nat) (nl : List Nat), (okC k a b c9) ∧ r = (nI 0) ∧ S'.1 = S.1 ++ nl ∧ (∀ a_, a_ ∈ S.1 → a_ ≠ mm → S'.2 a_ = S.2 a_) ∧ S'.2 mm = .inr (13, [.int (nI 0), .ref me, .ref sg, .ref w9, .ref im])) ∨ (∃ (nl : List Nat), (¬ okC k a b c9) ∧ r = (nI 0) ∧ S'.1 = S.1 ++ nl ∧ (∀ a_, a_ ∈ S.1 → a_ ≠ mm → S'.2 a_ = S.2 a_) ∧ S'.2 mm = .inr (13, [.int (nI 1), .ref me, .ref sg, .ref cn, .ref im])))) 1 4 (pA S sz) := by
  refine Met.ofW (cc := cX13_channel) (maxL := 7) (ret := (some .int)) (by decide) rfl ?_
  intro p e s m args below meth c s₁ B hml hv
  obtain ⟨rfl, rfl, C, hw, hA, hr, hlocks, hE⟩ := e_start B hml hv
  have hx := C.1
  have hb := C.2.1
  have hl := lv_entry ([.ref mm, .int k, .int a, .int b, .int c9]) (n := 7) (Nat.le_of_ble_eq_true rfl)
  rw [lg_entry_eq]
  generalize (lg_sl ([.ref mm, .int k, .int a, .int b, .int c9]) ++ List.replicate (7 - (lg_sl ([.ref mm, .int k, .int a, .int b, .int c9])).length) Slot.unset).toArray = ls at hl ⊢
  have hl : lv_has ls 7 [(0, .ref mm), (1, .int k), (2, .int a), (3, .int b), (4, .int c9)] := hl
  have hin_RX13 : ∀ w ∈ u_ws RX13 TX13 5, w ∈ (Cond.code yX13_channel cX13_channel 7 (some .int) :: lwU) := fun w h => mU (sub_RX13 w h)
  refine lv_iload_n hx hb dX13_channel_0 rfl (lv_at hl 1 rfl) ?_
  refine lv_iconst (v := nI 1) hx hb dX13_channel_1 (by decide) ?_
  refine z_icmp_eq (tgt := 10) hx hb rfl (nI_toInt (by first | decide | omega)) dX13_channel_2 (by decide) (fun h_2 => ?_) (fun h_2 => ?_)
  · skip
    refine lv_iload_n hx hb dX13_channel_10 rfl (lv_at hl 2 rfl) ?_
    refine lv_iconst (v := nI 0) hx hb dX13_channel_11 (by decide) ?_
    refine lv_sipush (v := nI 1000) hx hb dX13_channel_12 (by decide) ?_
    refine p_calli (va_runS (As := [.int a, .int (nI 0), .int (nI 1000)]) (rest := []) C.fix (e_X13_isIn l D cy S s.heap.size a (nI 0) (nI 1000) a.toInt ((0 : Nat) : Int) ((1000 : Nat) : Int)  rfl (nI_toInt (by first | decide | omega)) (nI_toInt (by first | decide | omega))) (va_cwS 3 C.2.2.2.2.1 (gU_S mw_394 mw_395 mw_5 (subU mw_396)) rfl rfl rfl hde_X13_channel_S_0 ⟨Nat.le_of_ble_eq_true rfl, Nat.le_of_ble_eq_true rfl⟩) (p_preS C hw) rfl rfl hl.1 rfl (lv_room (Nat.le_of_ble_eq_true rfl)) dX13_channel_15 ⟨(Nat.le_of_ble_eq_true rfl), (Nat.le_of_ble_eq_true rfl)⟩) hw hA (fun r2 S1 H locs hpost hw => ?_)
    rcases hpost with hpost | hpost
    · skip
      obtain ⟨hc3, hr_, hS_⟩ := hpost
      subst hr_
      subst hS_
      refine n_if_eq (tgt := 69) hx hb (by first | decide | omega) dX13_channel_18 (by decide) (fun h_18 => ?_) (fun h_18 => ?_)
      · exact absurd h_18 (by first | decide | omega)
      · skip
        refine lv_iload_n hx hb dX13_channel_21 rfl (lv_at hl 3 rfl) ?_
        refine lv_iconst (v := nI 0) hx hb dX13_channel_22 (by decide) ?_
        refine lv_ldc (v := nI 1000000) hx hb C.2.2.2.1 (C.2.2.2.2.1 (.constant RX13 137 (1000000)) (mU mw_724)) dX13_channel_23 ?_
        refine p_calli (va_runS (As := [.int b, .int (nI 0), .int (nI 1000000)]) (rest := []) C.fix (e_X13_isIn l D cy S H.size b (nI 0) (nI 1000000) b.toInt ((0 : Nat) : Int) ((1000000 : Nat) : Int)  rfl (nI_toInt (by first | decide | omega)) (nI_toInt (by first | decide | omega))) (va_cwS 3 C.2.2.2.2.1 (gU_S mw_394 mw_395 mw_5 (subU mw_396)) rfl rfl rfl hde_X13_channel_S_0 ⟨Nat.le_of_ble_eq_true rfl, Nat.le_of_ble_eq_true rfl⟩) (p_preS C hw) rfl rfl hl.1 rfl (lv_room (Nat.le_of_ble_eq_true rfl)) dX13_channel_25 ⟨(Nat.le_of_ble_eq_true rfl), (Nat.le_of_ble_eq_true rfl)⟩) hw hA (fun r5 S4 H locs hpost hw => ?_)
        rcases hpost with hpost | hpost
        · skip
          obtain ⟨hc6, hr_, hS_⟩ := hpost
          subst hr_
          subst hS_
          refine n_if_eq (tgt := 69) hx hb (by first | decide | omega) dX13_channel_28 (by decide) (fun h_28 => ?_) (fun h_28 => ?_)
          · exact absurd h_28 (by first | decide | omega)
          · skip
            refine lv_iload_n hx hb dX13_channel_31 rfl (lv_at hl 1 rfl) ?_
            refine lv_iconst (v := nI 2) hx hb dX13_channel_32 (by decide) ?_
            refine z_icmp_ne (tgt := 73) hx hb rfl (nI_toInt (by first | decide | omega)) dX13_channel_33 (by decide) (fun h_33 => ?_) (fun h_33 => ?_)
            · skip
              refine lv_iconst (v := nI 0) hx hb dX13_channel_73 (by decide) ?_
              refine lv_istore (lv' := [(5, .int (nI 0)), (0, .ref mm), (1, .int k), (2, .int a), (3, .int b), (4, .int c9)]) hx hb dX13_channel_74 hl (by decide) rfl (fun ls hl => ?_)
              refine lv_aload_n hx hb dX13_channel_76 rfl (lv_at hl 1 rfl) ?_
              refine lv_iload_n hx hb dX13_channel_77 rfl (lv_at hl 2 rfl) ?_
              refine lv_iconst (v := nI 0) hx hb dX13_channel_78 (by decide) ?_
              refine lv_iconst (v := nI 3) hx hb dX13_channel_79 (by decide) ?_
              refine p_calli (va_runS (As := [.int k, .int (nI 0), .int (nI 3)]) (rest := [.ref mm]) C.fix (e_X13_isIn l D cy S H.size k (nI 0) (nI 3) k.toInt ((0 : Nat) : Int) ((3 : Nat) : Int)  rfl (nI_toInt (by first | decide | omega)) (nI_toInt (by first | decide | omega))) (va_cwS 3 C.2.2.2.2.1 (gU_S mw_394 mw_395 mw_5 (subU mw_396)) rfl rfl rfl hde_X13_channel_S_0 ⟨Nat.le_of_ble_eq_true rfl, Nat.le_of_ble_eq_true rfl⟩) (p_preS C hw) rfl rfl hl.1 rfl (lv_room (Nat.le_of_ble_eq_true rfl)) dX13_channel_80 ⟨(Nat.le_of_ble_eq_true rfl), (Nat.le_of_ble_eq_true rfl)⟩) hw hA (fun r8 S7 H locs hpost hw => ?_)
              rcases hpost with hpost | hpost
              · skip
                obtain ⟨hc9, hr_, hS_⟩ := hpost
                subst hr_
                subst hS_
                refine n_if_eq (tgt := 91) hx hb (by first | decide | omega) dX13_channel_83 (by decide) (fun h_83 => ?_) (fun h_83 => ?_)
                · exact absurd h_83 (by first | decide | omega)
                · skip
                  refine lv_iload hx hb dX13_channel_86 (lv_at hl 0 rfl) ?_
                  refine n_if_eq (tgt := 95) hx hb (by first | decide | omega) dX13_channel_88 (by decide) (fun h_88 => ?_) (fun h_88 => ?_)
                  · skip
                    refine lv_iconst (v := nI 0) hx hb dX13_channel_95 (by decide) ?_
                    refine lv_iconst (v := nI 1) hx hb dX13_channel_96 (by decide) ?_
                    refine p_calli (va_runV (As := [.int (nI 0), .int (nI 1)]) (rest := []) C.fix (e_X13_start0 l D cy S H.size mm me sg cn im 1 0 hL_mm hf_mm ) (cwV 2 C.2.2.2.2.1 (gU_V mw_397 mw_398 mw_399 mw_5 (subU mw_400)) rfl rfl rfl hde_X13_channel_V_1 ⟨Nat.le_of_ble_eq_true rfl, Nat.le_of_ble_eq_true rfl⟩) (p_preV C hw hL_mm hf_mm rfl) rfl rfl hl.1 rfl (lv_room (Nat.le_of_ble_eq_true rfl)) dX13_channel_97 ⟨(Nat.le_of_ble_eq_true rfl), (Nat.le_of_ble_eq_true rfl)⟩) hw hA (fun r11 S10 H locs hpost hw => ?_)
                    obtain ⟨hr_, hS12, hfr13, hf14⟩ := hpost
                    subst hr_
                    have hL15 : mm ∈ S10.1 := by rw [hS12]; exact List.mem_append_left _ hL_mm
                    refine n_if_eq (tgt := 105) hx hb (by first | decide | omega) dX13_channel_100 (by decide) (fun h_100 => ?_) (fun h_100 => ?_)
                    · skip
                      refine lv_aload_n hx hb dX13_channel_105 rfl (lv_at hl 1 rfl) ?_
                      refine p_get C hw (ci := 13) (Cn := RX13) (T := TX13) (N := 5) hL15 hf14 rfl hin_RX13 3 (by decide) (mU mw_91) rfl rfl dX13_channel_106 ?_
                      refine lv_iconst (v := nI 0) hx hb dX13_channel_109 (by decide) ?_
                      have hL16 : cn ∈ S10.1 := by rw [hS12]; exact List.mem_append_left _ hL_cn
                      have hf17 : S10.2 cn = .inl (cy 0, 4, .inl (upd (upd (upd (upd (fun _ => 0) 0 (nI 0)) 1 (nI 0)) 2 (nI 0)) 3 (nI 1))) := (hfr13 cn hL_cn (ne_cells hf_cn hf_mm (by nofun))).trans hf_cn
                      refine p_ald C hw 0 rfl hL16 hf17 (by first | decide | omega) (by first | decide | omega) dX13_channel_110 ?_
                      refine x_ren (b := nI 0) rfl ?_
                      refine lv_istore (lv' := [(6, .int (nI 0)), (5, .int (nI 0)), (0, .ref mm), (1, .int k), (2, .int a), (3, .int b), (4, .int c9)]) hx hb dX13_channel_111 hl (by decide) rfl (fun ls hl => ?_)
                      refine lv_aload_n hx hb dX13_channel_113 rfl (lv_at hl 2 rfl) ?_
                      refine lv_iconst (v := nI 4) hx hb dX13_channel_114 (by decide) ?_
                      refine p_newa C hw hA (mU mw_59) 0 rfl (n := 4) (by first | decide | omega) (Nat.le_of_ble_eq_true rfl) (Nat.le_of_ble_eq_true rfl) dX13_channel_115 (fun w9 H hq_w9 hw => ?_)
                      obtain ⟨S18, hS18⟩ : ∃ z, z = pnew S10 w9 (.inl (cy 0, 4, .inl (fun _ => 0))) := ⟨_, rfl⟩
                      replace hw : pW D (pA S s.heap.size) s.heap S18 H locs := by rw [hS18]; exact hw
                      have hL19 : w9 ∈ S18.1 := by rw [hS18]; exact List.mem_append_right _ List.mem_cons_self
                      have hf20 : S18.2 w9 = .inl (cy 0, 4, .inl (fun _ => 0)) := by rw [hS18]; exact pnew_s
                      refine lv_dup hx hb dX13_channel_117 rfl ?_
                      refine lv_iconst (v := nI 0) hx hb dX13_channel_118 (by decide) ?_
                      refine lv_iload_n hx hb dX13_channel_119 rfl (lv_at hl 3 rfl) ?_
                      refine p_ast C hw 0 rfl hL19 hf20 (by first | decide | omega) (by first | decide | omega) dX13_channel_120 (fun H locs hw => ?_)
                      obtain ⟨S21, hS21⟩ : ∃ z, z = pup S18 w9 (.inl (cy 0, 4, .inl (upd (fun _ => 0) 0 k))) := ⟨_, rfl⟩
                      replace hw : pW D (pA S s.heap.size) s.heap S21 H locs := by rw [hS21]; exact hw
                      have hL22 : w9 ∈ S21.1 := by rw [hS21]; exact hL19
                      have hf23 : S21.2 w9 = .inl (cy 0, 4, .inl (upd (fun _ => 0) 0 k)) := by rw [hS21]; exact pup_s
                      refine lv_dup hx hb dX13_channel_121 rfl ?_
                      refine lv_iconst (v := nI 1) hx hb dX13_channel_122 (by decide) ?_
                      refine lv_iload_n hx hb dX13_channel_123 rfl (lv_at hl 4 rfl) ?_
                      refine p_ast C hw 0 rfl hL22 hf23 (by first | decide | omega) (by first | decide | omega) dX13_channel_124 (fun H locs hw => ?_)
                      obtain ⟨S24, hS24⟩ : ∃ z, z = pup S21 w9 (.inl (cy 0, 4, .inl (upd (upd (fun _ => 0) 0 k) 1 a))) := ⟨_, rfl⟩
                      replace hw : pW D (pA S s.heap.size) s.heap S24 H locs := by rw [hS24]; exact hw
                      have hL25 : w9 ∈ S24.1 := by rw [hS24]; exact hL22
                      have hf26 : S24.2 w9 = .inl (cy 0, 4, .inl (upd (upd (fun _ => 0) 0 k) 1 a)) := by rw [hS24]; exact pup_s
                      refine lv_dup hx hb dX13_channel_125 rfl ?_
                      refine lv_iconst (v := nI 2) hx hb dX13_channel_126 (by decide) ?_
                      refine lv_iload_n hx hb dX13_channel_127 rfl (lv_at hl 5 rfl) ?_
                      refine p_ast C hw 0 rfl hL25 hf26 (by first | decide | omega) (by first | decide | omega) dX13_channel_128 (fun H locs hw => ?_)
                      obtain ⟨S27, hS27⟩ : ∃ z, z = pup S24 w9 (.inl (cy 0, 4, .inl (upd (upd (upd (fun _ => 0) 0 k) 1 a) 2 b))) := ⟨_, rfl⟩
                      replace hw : pW D (pA S s.heap.size) s.heap S27 H locs := by rw [hS27]; exact hw
                      have hL28 : w9 ∈ S27.1 := by rw [hS27]; exact hL25
                      have hf29 : S27.2 w9 = .inl (cy 0, 4, .inl (upd (upd (upd (fun _ => 0) 0 k) 1 a) 2 b)) := by rw [hS27]; exact pup_s
                      refine lv_dup hx hb dX13_channel_129 rfl ?_
                      refine lv_iconst (v := nI 3) hx hb dX13_channel_130 (by decide) ?_
                      refine lv_iload hx hb dX13_channel_131 (lv_at hl 6 rfl) ?_
                      refine p_ast C hw 0 rfl hL28 hf29 (by first | decide | omega) (by first | decide | omega) dX13_channel_133 (fun H locs hw => ?_)
                      obtain ⟨S30, hS30⟩ : ∃ z, z = pup S27 w9 (.inl (cy 0, 4, .inl (upd (upd (upd (upd (fun _ => 0) 0 k) 1 a) 2 b) 3 c9))) := ⟨_, rfl⟩
                      replace hw : pW D (pA S s.heap.size) s.heap S30 H locs := by rw [hS30]; exact hw
                      have hL31 : w9 ∈ S30.1 := by rw [hS30]; exact hL28
                      have hf32 : S30.2 w9 = .inl (cy 0, 4, .inl (upd (upd (upd (upd (fun _ => 0) 0 k) 1 a) 2 b) 3 c9)) := by rw [hS30]; exact pup_s
                      have hL33 : mm ∈ S18.1 := by rw [hS18]; exact List.mem_append_left _ hL15
                      have hf34 : S18.2 mm = .inr (13, [.int (nI 0), .ref me, .ref sg, .ref cn, .ref im]) := by rw [hS18]; exact (pnew_n (fun z : mm = w9 => hq_w9 (by rw [← z]; exact hL15))).trans hf14
                      have hL35 : mm ∈ S21.1 := by rw [hS21]; exact hL33
                      have hf36 : S21.2 mm = .inr (13, [.int (nI 0), .ref me, .ref sg, .ref cn, .ref im]) := by rw [hS21]; exact (pup_n (fun z : mm = w9 => hq_w9 (by rw [← z]; exact hL15))).trans hf34
                      have hL37 : mm ∈ S24.1 := by rw [hS24]; exact hL35
                      have hf38 : S24.2 mm = .inr (13, [.int (nI 0), .ref me, .ref sg, .ref cn, .ref im]) := by rw [hS24]; exact (pup_n (fun z : mm = w9 => hq_w9 (by rw [← z]; exact hL15))).trans hf36
                      have hL39 : mm ∈ S27.1 := by rw [hS27]; exact hL37
                      have hf40 : S27.2 mm = .inr (13, [.int (nI 0), .ref me, .ref sg, .ref cn, .ref im]) := by rw [hS27]; exact (pup_n (fun z : mm = w9 => hq_w9 (by rw [← z]; exact hL15))).trans hf38
                      have hL41 : mm ∈ S30.1 := by rw [hS30]; exact hL39
                      have hf42 : S30.2 mm = .inr (13, [.int (nI 0), .ref me, .ref sg, .ref cn, .ref im]) := by rw [hS30]; exact (pup_n (fun z : mm = w9 => hq_w9 (by rw [← z]; exact hL15))).trans hf40
                      refine p_put C hw (ci := 13) (Cn := RX13) (T := TX13) (N := 5) tyX13 tyX13_ok nmX13 hL41 hf42 rfl hin_RX13 3 (by decide) (mU mw_91) rfl rfl rfl rfl rfl (by simp) dX13_channel_134 rfl (fun H locs hw => ?_)
                      obtain ⟨S43, hS43⟩ : ∃ z, z = pup S30 mm (.inr (13, [.int (nI 0), .ref me, .ref sg, .ref w9, .ref im])) := ⟨_, rfl⟩
                      replace hw : pW D (pA S s.heap.size) s.heap S43 H locs := by rw [hS43]; exact hw
                      have hL44 : mm ∈ S43.1 := by rw [hS43]; exact hL41
                      have hf45 : S43.2 mm = .inr (13, [.int (nI 0), .ref me, .ref sg, .ref w9, .ref im]) := by rw [hS43]; exact pup_s
                      refine lv_iload hx hb dX13_channel_137 (lv_at hl 0 rfl) ?_
                      exact (p_iret C hw ((Or.inl ⟨w9, ([w9]), (by unfold okC; omega), rfl, (by simp only [hS43, hS30, hS27, hS24, hS21, hS18, hS12, pup, pnew, List.append_nil, List.append_assoc, List.cons_append, List.nil_append]), (fun a_ ha_ hn_0 => ((show S43.2 a_ = S30.2 a_ from by rw [hS43]; exact pup_n hn_0).trans ((show S30.2 a_ = S27.2 a_ from by rw [hS30]; exact pup_n (fun z : a_ = w9 => hq_w9 (by rw [← z]; exact (show a_ ∈ S10.1 from by rw [hS12]; exact List.mem_append_left _ ha_)))).trans ((show S27.2 a_ = S24.2 a_ from by rw [hS27]; exact pup_n (fun z : a_ = w9 => hq_w9 (by rw [← z]; exact (show a_ ∈ S10.1 from by rw [hS12]; exact List.mem_append_left _ ha_)))).trans ((show S24.2 a_ = S21.2 a_ from by rw [hS24]; exact pup_n (fun z : a_ = w9 => hq_w9 (by rw [← z]; exact (show a_ ∈ S10.1 from by rw [hS12]; exact List.mem_append_left _ ha_)))).trans ((show S21.2 a_ = S18.2 a_ from by rw [hS21]; exact pup_n (fun z : a_ = w9 => hq_w9 (by rw [← z]; exact (show a_ ∈ S10.1 from by rw [hS12]; exact List.mem_append_left _ ha_)))).trans ((show S18.2 a_ = S10.2 a_ from by rw [hS18]; exact pnew_n (fun z : a_ = w9 => hq_w9 (by rw [← z]; exact (show a_ ∈ S10.1 from by rw [hS12]; exact List.mem_append_left _ ha_)))).trans (hfr13 a_ ha_ hn_0)))))))), hf45⟩)) hr hlocks dX13_channel_139)
                    · exact absurd h_100 (by first | decide | omega)
                  · exact absurd h_88 (by first | decide | omega)
              · skip
                obtain ⟨hc46, hr_, hS_⟩ := hpost
                subst hr_
                subst hS_
                refine n_if_eq (tgt := 91) hx hb (by first | decide | omega) dX13_channel_83 (by decide) (fun h_83 => ?_) (fun h_83 => ?_)
                · skip
                  refine lv_iconst (v := nI 1) hx hb dX13_channel_91 (by decide) ?_
                  refine lv_goto (tgt := 96) hx hb dX13_channel_92 (by decide) ?_
                  refine lv_iconst (v := nI 1) hx hb dX13_channel_96 (by decide) ?_
                  refine p_calli (va_runV (As := [.int (nI 1), .int (nI 1)]) (rest := []) C.fix (e_X13_start1 l D cy S H.size mm me sg cn im 1 0 hL_mm hf_mm (by first | assumption | decide | omega) (by first | assumption | decide | omega)) (cwV 2 C.2.2.2.2.1 (gU_V mw_397 mw_398 mw_399 mw_5 (subU mw_400)) rfl rfl rfl hde_X13_channel_V_1 ⟨Nat.le_of_ble_eq_true rfl, Nat.le_of_ble_eq_true rfl⟩) (p_preV C hw hL_mm hf_mm rfl) rfl rfl hl.1 rfl (lv_room (Nat.le_of_ble_eq_true rfl)) dX13_channel_97 ⟨(Nat.le_of_ble_eq_true rfl), (Nat.le_of_ble_eq_true rfl)⟩) hw hA (fun r48 S47 H locs hpost hw => ?_)
                  obtain ⟨hr_, hS49, hfr50, hf51⟩ := hpost
                  subst hr_
                  have hL52 : mm ∈ S47.1 := by rw [hS49]; exact List.mem_append_left _ hL_mm
                  refine n_if_eq (tgt := 105) hx hb (by first | decide | omega) dX13_channel_100 (by decide) (fun h_100 => ?_) (fun h_100 => ?_)
                  · exact absurd h_100 (by first | decide | omega)
                  · skip
                    refine lv_iconst (v := nI 0) hx hb dX13_channel_103 (by decide) ?_
                    refine W.widen (k := 1) (n := 4) (Nat.le_of_ble_eq_true rfl) (Nat.le_of_ble_eq_true rfl) ?_
                    exact (p_iret C hw ((Or.inr ⟨[], (by unfold okC; omega), rfl, (by simp only [hS49, pup, pnew, List.append_nil, List.append_assoc, List.cons_append, List.nil_append]), (fun a_ ha_ hn_0 => (hfr50 a_ ha_ hn_0)), hf51⟩)) hr hlocks dX13_channel_104)
                · exact absurd h_83 (by first | decide | omega)
            · skip
              refine lv_iload_n hx hb dX13_channel_36 rfl (lv_at hl 2 rfl) ?_
              refine lv_iconst (v := nI 0) hx hb dX13_channel_37 (by decide) ?_
              refine lv_sipush (v := nI 320) hx hb dX13_channel_38 (by decide) ?_
              refine p_calli (va_runS (As := [.int a, .int (nI 0), .int (nI 320)]) (rest := []) C.fix (e_X13_isIn l D cy S H.size a (nI 0) (nI 320) a.toInt ((0 : Nat) : Int) ((320 : Nat) : Int)  rfl (nI_toInt (by first | decide | omega)) (nI_toInt (by first | decide | omega))) (va_cwS 3 C.2.2.2.2.1 (gU_S mw_394 mw_395 mw_5 (subU mw_396)) rfl rfl rfl hde_X13_channel_S_0 ⟨Nat.le_of_ble_eq_true rfl, Nat.le_of_ble_eq_true rfl⟩) (p_preS C hw) rfl rfl hl.1 rfl (lv_room (Nat.le_of_ble_eq_true rfl)) dX13_channel_41 ⟨(Nat.le_of_ble_eq_true rfl), (Nat.le_of_ble_eq_true rfl)⟩) hw hA (fun r54 S53 H locs hpost hw => ?_)
              rcases hpost with hpost | hpost
              · skip
                obtain ⟨hc55, hr_, hS_⟩ := hpost
                subst hr_
                subst hS_
                refine n_if_eq (tgt := 69) hx hb (by first | decide | omega) dX13_channel_44 (by decide) (fun h_44 => ?_) (fun h_44 => ?_)
                · exact absurd h_44 (by first | decide | omega)
                · skip
                  refine lv_iload_n hx hb dX13_channel_47 rfl (lv_at hl 3 rfl) ?_
                  refine lv_iconst (v := nI 1) hx hb dX13_channel_48 (by decide) ?_
                  refine lv_bipush (v := nI 50) hx hb dX13_channel_49 (by decide) ?_
                  refine p_calli (va_runS (As := [.int b, .int (nI 1), .int (nI 50)]) (rest := []) C.fix (e_X13_isIn l D cy S H.size b (nI 1) (nI 50) b.toInt ((1 : Nat) : Int) ((50 : Nat) : Int)  rfl (nI_toInt (by first | decide | omega)) (nI_toInt (by first | decide | omega))) (va_cwS 3 C.2.2.2.2.1 (gU_S mw_394 mw_395 mw_5 (subU mw_396)) rfl rfl rfl hde_X13_channel_S_0 ⟨Nat.le_of_ble_eq_true rfl, Nat.le_of_ble_eq_true rfl⟩) (p_preS C hw) rfl rfl hl.1 rfl (lv_room (Nat.le_of_ble_eq_true rfl)) dX13_channel_51 ⟨(Nat.le_of_ble_eq_true rfl), (Nat.le_of_ble_eq_true rfl)⟩) hw hA (fun r57 S56 H locs hpost hw => ?_)
                  rcases hpost with hpost | hpost
                  · skip
                    obtain ⟨hc58, hr_, hS_⟩ := hpost
                    subst hr_
                    subst hS_
                    refine n_if_eq (tgt := 69) hx hb (by first | decide | omega) dX13_channel_54 (by decide) (fun h_54 => ?_) (fun h_54 => ?_)
                    · exact absurd h_54 (by first | decide | omega)
                    · skip
                      refine lv_iload hx hb dX13_channel_57 (lv_at hl 4 rfl) ?_
                      refine lv_iload_n hx hb dX13_channel_59 rfl (lv_at hl 3 rfl) ?_
                      refine lv_sipush (v := nI 320) hx hb dX13_channel_60 (by decide) ?_
                      refine p_calli (va_runS (As := [.int c9, .int b, .int (nI 320)]) (rest := []) C.fix (e_X13_isIn l D cy S H.size c9 b (nI 320) c9.toInt b.toInt ((320 : Nat) : Int)  rfl rfl (nI_toInt (by first | decide | omega))) (va_cwS 3 C.2.2.2.2.1 (gU_S mw_394 mw_395 mw_5 (subU mw_396)) rfl rfl rfl hde_X13_channel_S_0 ⟨Nat.le_of_ble_eq_true rfl, Nat.le_of_ble_eq_true rfl⟩) (p_preS C hw) rfl rfl hl.1 rfl (lv_room (Nat.le_of_ble_eq_true rfl)) dX13_channel_63 ⟨(Nat.le_of_ble_eq_true rfl), (Nat.le_of_ble_eq_true rfl)⟩) hw hA (fun r60 S59 H locs hpost hw => ?_)
                      rcases hpost with hpost | hpost
                      · skip
                        obtain ⟨hc61, hr_, hS_⟩ := hpost
                        subst hr_
                        subst hS_
                        refine n_if_ne (tgt := 73) hx hb (by first | decide | omega) dX13_channel_66 (by decide) (fun h_66 => ?_) (fun h_66 => ?_)
                        · skip
                          refine lv_iconst (v := nI 0) hx hb dX13_channel_73 (by decide) ?_
                          refine lv_istore (lv' := [(5, .int (nI 0)), (0, .ref mm), (1, .int k), (2, .int a), (3, .int b), (4, .int c9)]) hx hb dX13_channel_74 hl (by decide) rfl (fun ls hl => ?_)
                          refine lv_aload_n hx hb dX13_channel_76 rfl (lv_at hl 1 rfl) ?_
                          refine lv_iload_n hx hb dX13_channel_77 rfl (lv_at hl 2 rfl) ?_
                          refine lv_iconst (v := nI 0) hx hb dX13_channel_78 (by decide) ?_
                          refine lv_iconst (v := nI 3) hx hb dX13_channel_79 (by decide) ?_
                          refine p_calli (va_runS (As := [.int k, .int (nI 0), .int (nI 3)]) (rest := [.ref mm]) C.fix (e_X13_isIn l D cy S H.size k (nI 0) (nI 3) k.toInt ((0 : Nat) : Int) ((3 : Nat) : Int)  rfl (nI_toInt (by first | decide | omega)) (nI_toInt (by first | decide | omega))) (va_cwS 3 C.2.2.2.2.1 (gU_S mw_394 mw_395 mw_5 (subU mw_396)) rfl rfl rfl hde_X13_channel_S_0 ⟨Nat.le_of_ble_eq_true rfl, Nat.le_of_ble_eq_true rfl⟩) (p_preS C hw) rfl rfl hl.1 rfl (lv_room (Nat.le_of_ble_eq_true rfl)) dX13_channel_80 ⟨(Nat.le_of_ble_eq_true rfl), (Nat.le_of_ble_eq_true rfl)⟩) hw hA (fun r63 S62 H locs hpost hw => ?_)
                          rcases hpost with hpost | hpost
                          · skip
                            obtain ⟨hc64, hr_, hS_⟩ := hpost
                            subst hr_
                            subst hS_
                            refine n_if_eq (tgt := 91) hx hb (by first | decide | omega) dX13_channel_83 (by decide) (fun h_83 => ?_) (fun h_83 => ?_)
                            · exact absurd h_83 (by first | decide | omega)
                            · skip
                              refine lv_iload hx hb dX13_channel_86 (lv_at hl 0 rfl) ?_
                              refine n_if_eq (tgt := 95) hx hb (by first | decide | omega) dX13_channel_88 (by decide) (fun h_88 => ?_) (fun h_88 => ?_)
                              · skip
                                refine lv_iconst (v := nI 0) hx hb dX13_channel_95 (by decide) ?_
                                refine lv_iconst (v := nI 1) hx hb dX13_channel_96 (by decide) ?_
                                refine p_calli (va_runV (As := [.int (nI 0), .int (nI 1)]) (rest := []) C.fix (e_X13_start0 l D cy S H.size mm me sg cn im 1 0 hL_mm hf_mm ) (cwV 2 C.2.2.2.2.1 (gU_V mw_397 mw_398 mw_399 mw_5 (subU mw_400)) rfl rfl rfl hde_X13_channel_V_1 ⟨Nat.le_of_ble_eq_true rfl, Nat.le_of_ble_eq_true rfl⟩) (p_preV C hw hL_mm hf_mm rfl) rfl rfl hl.1 rfl (lv_room (Nat.le_of_ble_eq_true rfl)) dX13_channel_97 ⟨(Nat.le_of_ble_eq_true rfl), (Nat.le_of_ble_eq_true rfl)⟩) hw hA (fun r66 S65 H locs hpost hw => ?_)
                                obtain ⟨hr_, hS67, hfr68, hf69⟩ := hpost
                                subst hr_
                                have hL70 : mm ∈ S65.1 := by rw [hS67]; exact List.mem_append_left _ hL_mm
                                refine n_if_eq (tgt := 105) hx hb (by first | decide | omega) dX13_channel_100 (by decide) (fun h_100 => ?_) (fun h_100 => ?_)
                                · skip
                                  refine lv_aload_n hx hb dX13_channel_105 rfl (lv_at hl 1 rfl) ?_
                                  refine p_get C hw (ci := 13) (Cn := RX13) (T := TX13) (N := 5) hL70 hf69 rfl hin_RX13 3 (by decide) (mU mw_91) rfl rfl dX13_channel_106 ?_
                                  refine lv_iconst (v := nI 0) hx hb dX13_channel_109 (by decide) ?_
                                  have hL71 : cn ∈ S65.1 := by rw [hS67]; exact List.mem_append_left _ hL_cn
                                  have hf72 : S65.2 cn = .inl (cy 0, 4, .inl (upd (upd (upd (upd (fun _ => 0) 0 (nI 0)) 1 (nI 0)) 2 (nI 0)) 3 (nI 1))) := (hfr68 cn hL_cn (ne_cells hf_cn hf_mm (by nofun))).trans hf_cn
                                  refine p_ald C hw 0 rfl hL71 hf72 (by first | decide | omega) (by first | decide | omega) dX13_channel_110 ?_
                                  refine x_ren (b := nI 0) rfl ?_
                                  refine lv_istore (lv' := [(6, .int (nI 0)), (5, .int (nI 0)), (0, .ref mm), (1, .int k), (2, .int a), (3, .int b), (4, .int c9)]) hx hb dX13_channel_111 hl (by decide) rfl (fun ls hl => ?_)
                                  refine lv_aload_n hx hb dX13_channel_113 rfl (lv_at hl 2 rfl) ?_
                                  refine lv_iconst (v := nI 4) hx hb dX13_channel_114 (by decide) ?_
                                  refine p_newa C hw hA (mU mw_59) 0 rfl (n := 4) (by first | decide | omega) (Nat.le_of_ble_eq_true rfl) (Nat.le_of_ble_eq_true rfl) dX13_channel_115 (fun w9 H hq_w9 hw => ?_)
                                  obtain ⟨S73, hS73⟩ : ∃ z, z = pnew S65 w9 (.inl (cy 0, 4, .inl (fun _ => 0))) := ⟨_, rfl⟩
                                  replace hw : pW D (pA S s.heap.size) s.heap S73 H locs := by rw [hS73]; exact hw
                                  have hL74 : w9 ∈ S73.1 := by rw [hS73]; exact List.mem_append_right _ List.mem_cons_self
                                  have hf75 : S73.2 w9 = .inl (cy 0, 4, .inl (fun _ => 0)) := by rw [hS73]; exact pnew_s
                                  refine lv_dup hx hb dX13_channel_117 rfl ?_
                                  refine lv_iconst (v := nI 0) hx hb dX13_channel_118 (by decide) ?_
                                  refine lv_iload_n hx hb dX13_channel_119 rfl (lv_at hl 3 rfl) ?_
                                  refine p_ast C hw 0 rfl hL74 hf75 (by first | decide | omega) (by first | decide | omega) dX13_channel_120 (fun H locs hw => ?_)
                                  obtain ⟨S76, hS76⟩ : ∃ z, z = pup S73 w9 (.inl (cy 0, 4, .inl (upd (fun _ => 0) 0 k))) := ⟨_, rfl⟩
                                  replace hw : pW D (pA S s.heap.size) s.heap S76 H locs := by rw [hS76]; exact hw
                                  have hL77 : w9 ∈ S76.1 := by rw [hS76]; exact hL74
                                  have hf78 : S76.2 w9 = .inl (cy 0, 4, .inl (upd (fun _ => 0) 0 k)) := by rw [hS76]; exact pup_s
                                  refine lv_dup hx hb dX13_channel_121 rfl ?_
                                  refine lv_iconst (v := nI 1) hx hb dX13_channel_122 (by decide) ?_
                                  refine lv_iload_n hx hb dX13_channel_123 rfl (lv_at hl 4 rfl) ?_
                                  refine p_ast C hw 0 rfl hL77 hf78 (by first | decide | omega) (by first | decide | omega) dX13_channel_124 (fun H locs hw => ?_)
                                  obtain ⟨S79, hS79⟩ : ∃ z, z = pup S76 w9 (.inl (cy 0, 4, .inl (upd (upd (fun _ => 0) 0 k) 1 a))) := ⟨_, rfl⟩
                                  replace hw : pW D (pA S s.heap.size) s.heap S79 H locs := by rw [hS79]; exact hw
                                  have hL80 : w9 ∈ S79.1 := by rw [hS79]; exact hL77
                                  have hf81 : S79.2 w9 = .inl (cy 0, 4, .inl (upd (upd (fun _ => 0) 0 k) 1 a)) := by rw [hS79]; exact pup_s
                                  refine lv_dup hx hb dX13_channel_125 rfl ?_
                                  refine lv_iconst (v := nI 2) hx hb dX13_channel_126 (by decide) ?_
                                  refine lv_iload_n hx hb dX13_channel_127 rfl (lv_at hl 5 rfl) ?_
                                  refine p_ast C hw 0 rfl hL80 hf81 (by first | decide | omega) (by first | decide | omega) dX13_channel_128 (fun H locs hw => ?_)
                                  obtain ⟨S82, hS82⟩ : ∃ z, z = pup S79 w9 (.inl (cy 0, 4, .inl (upd (upd (upd (fun _ => 0) 0 k) 1 a) 2 b))) := ⟨_, rfl⟩
                                  replace hw : pW D (pA S s.heap.size) s.heap S82 H locs := by rw [hS82]; exact hw
                                  have hL83 : w9 ∈ S82.1 := by rw [hS82]; exact hL80
                                  have hf84 : S82.2 w9 = .inl (cy 0, 4, .inl (upd (upd (upd (fun _ => 0) 0 k) 1 a) 2 b)) := by rw [hS82]; exact pup_s
                                  refine lv_dup hx hb dX13_channel_129 rfl ?_
                                  refine lv_iconst (v := nI 3) hx hb dX13_channel_130 (by decide) ?_
                                  refine lv_iload hx hb dX13_channel_131 (lv_at hl 6 rfl) ?_
                                  refine p_ast C hw 0 rfl hL83 hf84 (by first | decide | omega) (by first | decide | omega) dX13_channel_133 (fun H locs hw => ?_)
                                  obtain ⟨S85, hS85⟩ : ∃ z, z = pup S82 w9 (.inl (cy 0, 4, .inl (upd (upd (upd (upd (fun _ => 0) 0 k) 1 a) 2 b) 3 c9))) := ⟨_, rfl⟩
                                  replace hw : pW D (pA S s.heap.size) s.heap S85 H locs := by rw [hS85]; exact hw
                                  have hL86 : w9 ∈ S85.1 := by rw [hS85]; exact hL83
                                  have hf87 : S85.2 w9 = .inl (cy 0, 4, .inl (upd (upd (upd (upd (fun _ => 0) 0 k) 1 a) 2 b) 3 c9)) := by rw [hS85]; exact pup_s
                                  have hL88 : mm ∈ S73.1 := by rw [hS73]; exact List.mem_append_left _ hL70
                                  have hf89 : S73.2 mm = .inr (13, [.int (nI 0), .ref me, .ref sg, .ref cn, .ref im]) := by rw [hS73]; exact (pnew_n (fun z : mm = w9 => hq_w9 (by rw [← z]; exact hL70))).trans hf69
                                  have hL90 : mm ∈ S76.1 := by rw [hS76]; exact hL88
                                  have hf91 : S76.2 mm = .inr (13, [.int (nI 0), .ref me, .ref sg, .ref cn, .ref im]) := by rw [hS76]; exact (pup_n (fun z : mm = w9 => hq_w9 (by rw [← z]; exact hL70))).trans hf89
                                  have hL92 : mm ∈ S79.1 := by rw [hS79]; exact hL90
                                  have hf93 : S79.2 mm = .inr (13, [.int (nI 0), .ref me, .ref sg, .ref cn, .ref im]) := by rw [hS79]; exact (pup_n (fun z : mm = w9 => hq_w9 (by rw [← z]; exact hL70))).trans hf91
                                  have hL94 : mm ∈ S82.1 := by rw [hS82]; exact hL92
                                  have hf95 : S82.2 mm = .inr (13, [.int (nI 0), .ref me, .ref sg, .ref cn, .ref im]) := by rw [hS82]; exact (pup_n (fun z : mm = w9 => hq_w9 (by rw [← z]; exact hL70))).trans hf93
                                  have hL96 : mm ∈ S85.1 := by rw [hS85]; exact hL94
                                  have hf97 : S85.2 mm = .inr (13, [.int (nI 0), .ref me, .ref sg, .ref cn, .ref im]) := by rw [hS85]; exact (pup_n (fun z : mm = w9 => hq_w9 (by rw [← z]; exact hL70))).trans hf95
                                  refine p_put C hw (ci := 13) (Cn := RX13) (T := TX13) (N := 5) tyX13 tyX13_ok nmX13 hL96 hf97 rfl hin_RX13 3 (by decide) (mU mw_91) rfl rfl rfl rfl rfl (by simp) dX13_channel_134 rfl (fun H locs hw => ?_)
                                  obtain ⟨S98, hS98⟩ : ∃ z, z = pup S85 mm (.inr (13, [.int (nI 0), .ref me, .ref sg, .ref w9, .ref im])) := ⟨_, rfl⟩
                                  replace hw : pW D (pA S s.heap.size) s.heap S98 H locs := by rw [hS98]; exact hw
                                  have hL99 : mm ∈ S98.1 := by rw [hS98]; exact hL96
                                  have hf100 : S98.2 mm = .inr (13, [.int (nI 0), .ref me, .ref sg, .ref w9, .ref im]) := by rw [hS98]; exact pup_s
                                  refine lv_iload hx hb dX13_channel_137 (lv_at hl 0 rfl) ?_
                                  exact (p_iret C hw ((Or.inl ⟨w9, ([w9]), (by unfold okC; omega), rfl, (by simp only [hS98, hS85, hS82, hS79, hS76, hS73, hS67, pup, pnew, List.append_nil, List.append_assoc, List.cons_append, List.nil_append]), (fun a_ ha_ hn_0 => ((show S98.2 a_ = S85.2 a_ from by rw [hS98]; exact pup_n hn_0).trans ((show S85.2 a_ = S82.2 a_ from by rw [hS85]; exact pup_n (fun z : a_ = w9 => hq_w9 (by rw [← z]; exact (show a_ ∈ S65.1 from by rw [hS67]; exact List.mem_append_left _ ha_)))).trans ((show S82.2 a_ = S79.2 a_ from by rw [hS82]; exact pup_n (fun z : a_ = w9 => hq_w9 (by rw [← z]; exact (show a_ ∈ S65.1 from by rw [hS67]; exact List.mem_append_left _ ha_)))).trans ((show S79.2 a_ = S76.2 a_ from by rw [hS79]; exact pup_n (fun z : a_ = w9 => hq_w9 (by rw [← z]; exact (show a_ ∈ S65.1 from by rw [hS67]; exact List.mem_append_left _ ha_)))).trans ((show S76.2 a_ = S73.2 a_ from by rw [hS76]; exact pup_n (fun z : a_ = w9 => hq_w9 (by rw [← z]; exact (show a_ ∈ S65.1 from by rw [hS67]; exact List.mem_append_left _ ha_)))).trans ((show S73.2 a_ = S65.2 a_ from by rw [hS73]; exact pnew_n (fun z : a_ = w9 => hq_w9 (by rw [← z]; exact (show a_ ∈ S65.1 from by rw [hS67]; exact List.mem_append_left _ ha_)))).trans (hfr68 a_ ha_ hn_0)))))))), hf100⟩)) hr hlocks dX13_channel_139)
                                · exact absurd h_100 (by first | decide | omega)
                              · exact absurd h_88 (by first | decide | omega)
                          · skip
                            obtain ⟨hc101, hr_, hS_⟩ := hpost
                            subst hr_
                            subst hS_
                            refine n_if_eq (tgt := 91) hx hb (by first | decide | omega) dX13_channel_83 (by decide) (fun h_83 => ?_) (fun h_83 => ?_)
                            · skip
                              refine lv_iconst (v := nI 1) hx hb dX13_channel_91 (by decide) ?_
                              refine lv_goto (tgt := 96) hx hb dX13_channel_92 (by decide) ?_
                              refine lv_iconst (v := nI 1) hx hb dX13_channel_96 (by decide) ?_
                              refine p_calli (va_runV (As := [.int (nI 1), .int (nI 1)]) (rest := []) C.fix (e_X13_start1 l D cy S H.size mm me sg cn im 1 0 hL_mm hf_mm (by first | assumption | decide | omega) (by first | assumption | decide | omega)) (cwV 2 C.2.2.2.2.1 (gU_V mw_397 mw_398 mw_399 mw_5 (subU mw_400)) rfl rfl rfl hde_X13_channel_V_1 ⟨Nat.le_of_ble_eq_true rfl, Nat.le_of_ble_eq_true rfl⟩) (p_preV C hw hL_mm hf_mm rfl) rfl rfl hl.1 rfl (lv_room (Nat.le_of_ble_eq_true rfl)) dX13_channel_97 ⟨(Nat.le_of_ble_eq_true rfl), (Nat.le_of_ble_eq_true rfl)⟩) hw hA (fun r103 S102 H locs hpost hw => ?_)
                              obtain ⟨hr_, hS104, hfr105, hf106⟩ := hpost
                              subst hr_
                              have hL107 : mm ∈ S102.1 := by rw [hS104]; exact List.mem_append_left _ hL_mm
                              refine n_if_eq (tgt := 105) hx hb (by first | decide | omega) dX13_channel_100 (by decide) (fun h_100 => ?_) (fun h_100 => ?_)
                              · exact absurd h_100 (by first | decide | omega)
                              · skip
                                refine lv_iconst (v := nI 0) hx hb dX13_channel_103 (by decide) ?_
                                refine W.widen (k := 1) (n := 4) (Nat.le_of_ble_eq_true rfl) (Nat.le_of_ble_eq_true rfl) ?_
                                exact (p_iret C hw ((Or.inr ⟨[], (by unfold okC; omega), rfl, (by simp only [hS104, pup, pnew, List.append_nil, List.append_assoc, List.cons_append, List.nil_append]), (fun a_ ha_ hn_0 => (hfr105 a_ ha_ hn_0)), hf106⟩)) hr hlocks dX13_channel_104)
                            · exact absurd h_83 (by first | decide | omega)
                        · exact absurd h_66 (by first | decide | omega)
                      · skip
                        obtain ⟨hc108, hr_, hS_⟩ := hpost
                        subst hr_
                        subst hS_
                        refine n_if_ne (tgt := 73) hx hb (by first | decide | omega) dX13_channel_66 (by decide) (fun h_66 => ?_) (fun h_66 => ?_)
                        · exact absurd h_66 (by first | decide | omega)
                        · skip
                          refine lv_iconst (v := nI 1) hx hb dX13_channel_69 (by decide) ?_
                          refine lv_goto (tgt := 74) hx hb dX13_channel_70 (by decide) ?_
                          refine lv_istore (lv' := [(5, .int (nI 1)), (0, .ref mm), (1, .int k), (2, .int a), (3, .int b), (4, .int c9)]) hx hb dX13_channel_74 hl (by decide) rfl (fun ls hl => ?_)
                          refine lv_aload_n hx hb dX13_channel_76 rfl (lv_at hl 1 rfl) ?_
                          refine lv_iload_n hx hb dX13_channel_77 rfl (lv_at hl 2 rfl) ?_
                          refine lv_iconst (v := nI 0) hx hb dX13_channel_78 (by decide) ?_
                          refine lv_iconst (v := nI 3) hx hb dX13_channel_79 (by decide) ?_
                          refine p_calli (va_runS (As := [.int k, .int (nI 0), .int (nI 3)]) (rest := [.ref mm]) C.fix (e_X13_isIn l D cy S H.size k (nI 0) (nI 3) k.toInt ((0 : Nat) : Int) ((3 : Nat) : Int)  rfl (nI_toInt (by first | decide | omega)) (nI_toInt (by first | decide | omega))) (va_cwS 3 C.2.2.2.2.1 (gU_S mw_394 mw_395 mw_5 (subU mw_396)) rfl rfl rfl hde_X13_channel_S_0 ⟨Nat.le_of_ble_eq_true rfl, Nat.le_of_ble_eq_true rfl⟩) (p_preS C hw) rfl rfl hl.1 rfl (lv_room (Nat.le_of_ble_eq_true rfl)) dX13_channel_80 ⟨(Nat.le_of_ble_eq_true rfl), (Nat.le_of_ble_eq_true rfl)⟩) hw hA (fun r110 S109 H locs hpost hw => ?_)
                          rcases hpost with hpost | hpost
                          · skip
                            obtain ⟨hc111, hr_, hS_⟩ := hpost
                            subst hr_
                            subst hS_
                            refine n_if_eq (tgt := 91) hx hb (by first | decide | omega) dX13_channel_83 (by decide) (fun h_83 => ?_) (fun h_83 => ?_)
                            · exact absurd h_83 (by first | decide | omega)
                            · skip
                              refine lv_iload hx hb dX13_channel_86 (lv_at hl 0 rfl) ?_
                              refine n_if_eq (tgt := 95) hx hb (by first | decide | omega) dX13_channel_88 (by decide) (fun h_88 => ?_) (fun h_88 => ?_)
                              · exact absurd h_88 (by first | decide | omega)
                              · skip
                                refine lv_iconst (v := nI 1) hx hb dX13_channel_91 (by decide) ?_
                                refine lv_goto (tgt := 96) hx hb dX13_channel_92 (by decide) ?_
                                refine lv_iconst (v := nI 1) hx hb dX13_channel_96 (by decide) ?_
                                refine p_calli (va_runV (As := [.int (nI 1), .int (nI 1)]) (rest := []) C.fix (e_X13_start1 l D cy S H.size mm me sg cn im 1 0 hL_mm hf_mm (by first | assumption | decide | omega) (by first | assumption | decide | omega)) (cwV 2 C.2.2.2.2.1 (gU_V mw_397 mw_398 mw_399 mw_5 (subU mw_400)) rfl rfl rfl hde_X13_channel_V_1 ⟨Nat.le_of_ble_eq_true rfl, Nat.le_of_ble_eq_true rfl⟩) (p_preV C hw hL_mm hf_mm rfl) rfl rfl hl.1 rfl (lv_room (Nat.le_of_ble_eq_true rfl)) dX13_channel_97 ⟨(Nat.le_of_ble_eq_true rfl), (Nat.le_of_ble_eq_true rfl)⟩) hw hA (fun r113 S112 H locs hpost hw => ?_)
                                obtain ⟨hr_, hS114, hfr115, hf116⟩ := hpost
                                subst hr_
                                have hL117 : mm ∈ S112.1 := by rw [hS114]; exact List.mem_append_left _ hL_mm
                                refine n_if_eq (tgt := 105) hx hb (by first | decide | omega) dX13_channel_100 (by decide) (fun h_100 => ?_) (fun h_100 => ?_)
                                · exact absurd h_100 (by first | decide | omega)
                                · skip
                                  refine lv_iconst (v := nI 0) hx hb dX13_channel_103 (by decide) ?_
                                  refine W.widen (k := 1) (n := 4) (Nat.le_of_ble_eq_true rfl) (Nat.le_of_ble_eq_true rfl) ?_
                                  exact (p_iret C hw ((Or.inr ⟨[], (by unfold okC; omega), rfl, (by simp only [hS114, pup, pnew, List.append_nil, List.append_assoc, List.cons_append, List.nil_append]), (fun a_ ha_ hn_0 => (hfr115 a_ ha_ hn_0)), hf116⟩)) hr hlocks dX13_channel_104)
                          · skip
                            obtain ⟨hc118, hr_, hS_⟩ := hpost
                            subst hr_
                            subst hS_
                            refine n_if_eq (tgt := 91) hx hb (by first | decide | omega) dX13_channel_83 (by decide) (fun h_83 => ?_) (fun h_83 => ?_)
                            · skip
                              refine lv_iconst (v := nI 1) hx hb dX13_channel_91 (by decide) ?_
                              refine lv_goto (tgt := 96) hx hb dX13_channel_92 (by decide) ?_
                              refine lv_iconst (v := nI 1) hx hb dX13_channel_96 (by decide) ?_
                              refine p_calli (va_runV (As := [.int (nI 1), .int (nI 1)]) (rest := []) C.fix (e_X13_start1 l D cy S H.size mm me sg cn im 1 0 hL_mm hf_mm (by first | assumption | decide | omega) (by first | assumption | decide | omega)) (cwV 2 C.2.2.2.2.1 (gU_V mw_397 mw_398 mw_399 mw_5 (subU mw_400)) rfl rfl rfl hde_X13_channel_V_1 ⟨Nat.le_of_ble_eq_true rfl, Nat.le_of_ble_eq_true rfl⟩) (p_preV C hw hL_mm hf_mm rfl) rfl rfl hl.1 rfl (lv_room (Nat.le_of_ble_eq_true rfl)) dX13_channel_97 ⟨(Nat.le_of_ble_eq_true rfl), (Nat.le_of_ble_eq_true rfl)⟩) hw hA (fun r120 S119 H locs hpost hw => ?_)
                              obtain ⟨hr_, hS121, hfr122, hf123⟩ := hpost
                              subst hr_
                              have hL124 : mm ∈ S119.1 := by rw [hS121]; exact List.mem_append_left _ hL_mm
                              refine n_if_eq (tgt := 105) hx hb (by first | decide | omega) dX13_channel_100 (by decide) (fun h_100 => ?_) (fun h_100 => ?_)
                              · exact absurd h_100 (by first | decide | omega)
                              · skip
                                refine lv_iconst (v := nI 0) hx hb dX13_channel_103 (by decide) ?_
                                refine W.widen (k := 1) (n := 4) (Nat.le_of_ble_eq_true rfl) (Nat.le_of_ble_eq_true rfl) ?_
                                exact (p_iret C hw ((Or.inr ⟨[], (by unfold okC; omega), rfl, (by simp only [hS121, pup, pnew, List.append_nil, List.append_assoc, List.cons_append, List.nil_append]), (fun a_ ha_ hn_0 => (hfr122 a_ ha_ hn_0)), hf123⟩)) hr hlocks dX13_channel_104)
                            · exact absurd h_83 (by first | decide | omega)
                  · skip
                    obtain ⟨hc125, hr_, hS_⟩ := hpost
                    subst hr_
                    subst hS_
                    refine n_if_eq (tgt := 69) hx hb (by first | decide | omega) dX13_channel_54 (by decide) (fun h_54 => ?_) (fun h_54 => ?_)
                    · skip
                      refine lv_iconst (v := nI 1) hx hb dX13_channel_69 (by decide) ?_
                      refine lv_goto (tgt := 74) hx hb dX13_channel_70 (by decide) ?_
                      refine lv_istore (lv' := [(5, .int (nI 1)), (0, .ref mm), (1, .int k), (2, .int a), (3, .int b), (4, .int c9)]) hx hb dX13_channel_74 hl (by decide) rfl (fun ls hl => ?_)
                      refine lv_aload_n hx hb dX13_channel_76 rfl (lv_at hl 1 rfl) ?_
                      refine lv_iload_n hx hb dX13_channel_77 rfl (lv_at hl 2 rfl) ?_
                      refine lv_iconst (v := nI 0) hx hb dX13_channel_78 (by decide) ?_
                      refine lv_iconst (v := nI 3) hx hb dX13_channel_79 (by decide) ?_
                      refine p_calli (va_runS (As := [.int k, .int (nI 0), .int (nI 3)]) (rest := [.ref mm]) C.fix (e_X13_isIn l D cy S H.size k (nI 0) (nI 3) k.toInt ((0 : Nat) : Int) ((3 : Nat) : Int)  rfl (nI_toInt (by first | decide | omega)) (nI_toInt (by first | decide | omega))) (va_cwS 3 C.2.2.2.2.1 (gU_S mw_394 mw_395 mw_5 (subU mw_396)) rfl rfl rfl hde_X13_channel_S_0 ⟨Nat.le_of_ble_eq_true rfl, Nat.le_of_ble_eq_true rfl⟩) (p_preS C hw) rfl rfl hl.1 rfl (lv_room (Nat.le_of_ble_eq_true rfl)) dX13_channel_80 ⟨(Nat.le_of_ble_eq_true rfl), (Nat.le_of_ble_eq_true rfl)⟩) hw hA (fun r127 S126 H locs hpost hw => ?_)
                      rcases hpost with hpost | hpost
                      · skip
                        obtain ⟨hc128, hr_, hS_⟩ := hpost
                        subst hr_
                        subst hS_
                        refine n_if_eq (tgt := 91) hx hb (by first | decide | omega) dX13_channel_83 (by decide) (fun h_83 => ?_) (fun h_83 => ?_)
                        · exact absurd h_83 (by first | decide | omega)
                        · skip
                          refine lv_iload hx hb dX13_channel_86 (lv_at hl 0 rfl) ?_
                          refine n_if_eq (tgt := 95) hx hb (by first | decide | omega) dX13_channel_88 (by decide) (fun h_88 => ?_) (fun h_88 => ?_)
                          · exact absurd h_88 (by first | decide | omega)
                          · skip
                            refine lv_iconst (v := nI 1) hx hb dX13_channel_91 (by decide) ?_
                            refine lv_goto (tgt := 96) hx hb dX13_channel_92 (by decide) ?_
                            refine lv_iconst (v := nI 1) hx hb dX13_channel_96 (by decide) ?_
                            refine p_calli (va_runV (As := [.int (nI 1), .int (nI 1)]) (rest := []) C.fix (e_X13_start1 l D cy S H.size mm me sg cn im 1 0 hL_mm hf_mm (by first | assumption | decide | omega) (by first | assumption | decide | omega)) (cwV 2 C.2.2.2.2.1 (gU_V mw_397 mw_398 mw_399 mw_5 (subU mw_400)) rfl rfl rfl hde_X13_channel_V_1 ⟨Nat.le_of_ble_eq_true rfl, Nat.le_of_ble_eq_true rfl⟩) (p_preV C hw hL_mm hf_mm rfl) rfl rfl hl.1 rfl (lv_room (Nat.le_of_ble_eq_true rfl)) dX13_channel_97 ⟨(Nat.le_of_ble_eq_true rfl), (Nat.le_of_ble_eq_true rfl)⟩) hw hA (fun r130 S129 H locs hpost hw => ?_)
                            obtain ⟨hr_, hS131, hfr132, hf133⟩ := hpost
                            subst hr_
                            have hL134 : mm ∈ S129.1 := by rw [hS131]; exact List.mem_append_left _ hL_mm
                            refine n_if_eq (tgt := 105) hx hb (by first | decide | omega) dX13_channel_100 (by decide) (fun h_100 => ?_) (fun h_100 => ?_)
                            · exact absurd h_100 (by first | decide | omega)
                            · skip
                              refine lv_iconst (v := nI 0) hx hb dX13_channel_103 (by decide) ?_
                              refine W.widen (k := 1) (n := 4) (Nat.le_of_ble_eq_true rfl) (Nat.le_of_ble_eq_true rfl) ?_
                              exact (p_iret C hw ((Or.inr ⟨[], (by unfold okC; omega), rfl, (by simp only [hS131, pup, pnew, List.append_nil, List.append_assoc, List.cons_append, List.nil_append]), (fun a_ ha_ hn_0 => (hfr132 a_ ha_ hn_0)), hf133⟩)) hr hlocks dX13_channel_104)
                      · skip
                        obtain ⟨hc135, hr_, hS_⟩ := hpost
                        subst hr_
                        subst hS_
                        refine n_if_eq (tgt := 91) hx hb (by first | decide | omega) dX13_channel_83 (by decide) (fun h_83 => ?_) (fun h_83 => ?_)
                        · skip
                          refine lv_iconst (v := nI 1) hx hb dX13_channel_91 (by decide) ?_
                          refine lv_goto (tgt := 96) hx hb dX13_channel_92 (by decide) ?_
                          refine lv_iconst (v := nI 1) hx hb dX13_channel_96 (by decide) ?_
                          refine p_calli (va_runV (As := [.int (nI 1), .int (nI 1)]) (rest := []) C.fix (e_X13_start1 l D cy S H.size mm me sg cn im 1 0 hL_mm hf_mm (by first | assumption | decide | omega) (by first | assumption | decide | omega)) (cwV 2 C.2.2.2.2.1 (gU_V mw_397 mw_398 mw_399 mw_5 (subU mw_400)) rfl rfl rfl hde_X13_channel_V_1 ⟨Nat.le_of_ble_eq_true rfl, Nat.le_of_ble_eq_true rfl⟩) (p_preV C hw hL_mm hf_mm rfl) rfl rfl hl.1 rfl (lv_room (Nat.le_of_ble_eq_true rfl)) dX13_channel_97 ⟨(Nat.le_of_ble_eq_true rfl), (Nat.le_of_ble_eq_true rfl)⟩) hw hA (fun r137 S136 H locs hpost hw => ?_)
                          obtain ⟨hr_, hS138, hfr139, hf140⟩ := hpost
                          subst hr_
                          have hL141 : mm ∈ S136.1 := by rw [hS138]; exact List.mem_append_left _ hL_mm
                          refine n_if_eq (tgt := 105) hx hb (by first | decide | omega) dX13_channel_100 (by decide) (fun h_100 => ?_) (fun h_100 => ?_)
                          · exact absurd h_100 (by first | decide | omega)
                          · skip
                            refine lv_iconst (v := nI 0) hx hb dX13_channel_103 (by decide) ?_
                            refine W.widen (k := 1) (n := 4) (Nat.le_of_ble_eq_true rfl) (Nat.le_of_ble_eq_true rfl) ?_
                            exact (p_iret C hw ((Or.inr ⟨[], (by unfold okC; omega), rfl, (by simp only [hS138, pup, pnew, List.append_nil, List.append_assoc, List.cons_append, List.nil_append]), (fun a_ ha_ hn_0 => (hfr139 a_ ha_ hn_0)), hf140⟩)) hr hlocks dX13_channel_104)
                        · exact absurd h_83 (by first | decide | omega)
                    · exact absurd h_54 (by first | decide | omega)
              · skip
                obtain ⟨hc142, hr_, hS_⟩ := hpost
                subst hr_
                subst hS_
                refine n_if_eq (tgt := 69) hx hb (by first | decide | omega) dX13_channel_44 (by decide) (fun h_44 => ?_) (fun h_44 => ?_)
                · skip
                  refine lv_iconst (v := nI 1) hx hb dX13_channel_69 (by decide) ?_
                  refine lv_goto (tgt := 74) hx hb dX13_channel_70 (by decide) ?_
                  refine lv_istore (lv' := [(5, .int (nI 1)), (0, .ref mm), (1, .int k), (2, .int a), (3, .int b), (4, .int c9)]) hx hb dX13_channel_74 hl (by decide) rfl (fun ls hl => ?_)
                  refine lv_aload_n hx hb dX13_channel_76 rfl (lv_at hl 1 rfl) ?_
                  refine lv_iload_n hx hb dX13_channel_77 rfl (lv_at hl 2 rfl) ?_
                  refine lv_iconst (v := nI 0) hx hb dX13_channel_78 (by decide) ?_
                  refine lv_iconst (v := nI 3) hx hb dX13_channel_79 (by decide) ?_
                  refine p_calli (va_runS (As := [.int k, .int (nI 0), .int (nI 3)]) (rest := [.ref mm]) C.fix (e_X13_isIn l D cy S H.size k (nI 0) (nI 3) k.toInt ((0 : Nat) : Int) ((3 : Nat) : Int)  rfl (nI_toInt (by first | decide | omega)) (nI_toInt (by first | decide | omega))) (va_cwS 3 C.2.2.2.2.1 (gU_S mw_394 mw_395 mw_5 (subU mw_396)) rfl rfl rfl hde_X13_channel_S_0 ⟨Nat.le_of_ble_eq_true rfl, Nat.le_of_ble_eq_true rfl⟩) (p_preS C hw) rfl rfl hl.1 rfl (lv_room (Nat.le_of_ble_eq_true rfl)) dX13_channel_80 ⟨(Nat.le_of_ble_eq_true rfl), (Nat.le_of_ble_eq_true rfl)⟩) hw hA (fun r144 S143 H locs hpost hw => ?_)
                  rcases hpost with hpost | hpost
                  · skip
                    obtain ⟨hc145, hr_, hS_⟩ := hpost
                    subst hr_
                    subst hS_
                    refine n_if_eq (tgt := 91) hx hb (by first | decide | omega) dX13_channel_83 (by decide) (fun h_83 => ?_) (fun h_83 => ?_)
                    · exact absurd h_83 (by first | decide | omega)
                    · skip
                      refine lv_iload hx hb dX13_channel_86 (lv_at hl 0 rfl) ?_
                      refine n_if_eq (tgt := 95) hx hb (by first | decide | omega) dX13_channel_88 (by decide) (fun h_88 => ?_) (fun h_88 => ?_)
                      · exact absurd h_88 (by first | decide | omega)
                      · skip
                        refine lv_iconst (v := nI 1) hx hb dX13_channel_91 (by decide) ?_
                        refine lv_goto (tgt := 96) hx hb dX13_channel_92 (by decide) ?_
                        refine lv_iconst (v := nI 1) hx hb dX13_channel_96 (by decide) ?_
                        refine p_calli (va_runV (As := [.int (nI 1), .int (nI 1)]) (rest := []) C.fix (e_X13_start1 l D cy S H.size mm me sg cn im 1 0 hL_mm hf_mm (by first | assumption | decide | omega) (by first | assumption | decide | omega)) (cwV 2 C.2.2.2.2.1 (gU_V mw_397 mw_398 mw_399 mw_5 (subU mw_400)) rfl rfl rfl hde_X13_channel_V_1 ⟨Nat.le_of_ble_eq_true rfl, Nat.le_of_ble_eq_true rfl⟩) (p_preV C hw hL_mm hf_mm rfl) rfl rfl hl.1 rfl (lv_room (Nat.le_of_ble_eq_true rfl)) dX13_channel_97 ⟨(Nat.le_of_ble_eq_true rfl), (Nat.le_of_ble_eq_true rfl)⟩) hw hA (fun r147 S146 H locs hpost hw => ?_)
                        obtain ⟨hr_, hS148, hfr149, hf150⟩ := hpost
                        subst hr_
                        have hL151 : mm ∈ S146.1 := by rw [hS148]; exact List.mem_append_left _ hL_mm
                        refine n_if_eq (tgt := 105) hx hb (by first | decide | omega) dX13_channel_100 (by decide) (fun h_100 => ?_) (fun h_100 => ?_)
                        · exact absurd h_100 (by first | decide | omega)
                        · skip
                          refine lv_iconst (v := nI 0) hx hb dX13_channel_103 (by decide) ?_
                          refine W.widen (k := 1) (n := 4) (Nat.le_of_ble_eq_true rfl) (Nat.le_of_ble_eq_true rfl) ?_
                          exact (p_iret C hw ((Or.inr ⟨[], (by unfold okC; omega), rfl, (by simp only [hS148, pup, pnew, List.append_nil, List.append_assoc, List.cons_append, List.nil_append]), (fun a_ ha_ hn_0 => (hfr149 a_ ha_ hn_0)), hf150⟩)) hr hlocks dX13_channel_104)
                  · skip
                    obtain ⟨hc152, hr_, hS_⟩ := hpost
                    subst hr_
                    subst hS_
                    refine n_if_eq (tgt := 91) hx hb (by first | decide | omega) dX13_channel_83 (by decide) (fun h_83 => ?_) (fun h_83 => ?_)
                    · skip
                      refine lv_iconst (v := nI 1) hx hb dX13_channel_91 (by decide) ?_
                      refine lv_goto (tgt := 96) hx hb dX13_channel_92 (by decide) ?_
                      refine lv_iconst (v := nI 1) hx hb dX13_channel_96 (by decide) ?_
                      refine p_calli (va_runV (As := [.int (nI 1), .int (nI 1)]) (rest := []) C.fix (e_X13_start1 l D cy S H.size mm me sg cn im 1 0 hL_mm hf_mm (by first | assumption | decide | omega) (by first | assumption | decide | omega)) (cwV 2 C.2.2.2.2.1 (gU_V mw_397 mw_398 mw_399 mw_5 (subU mw_400)) rfl rfl rfl hde_X13_channel_V_1 ⟨Nat.le_of_ble_eq_true rfl, Nat.le_of_ble_eq_true rfl⟩) (p_preV C hw hL_mm hf_mm rfl) rfl rfl hl.1 rfl (lv_room (Nat.le_of_ble_eq_true rfl)) dX13_channel_97 ⟨(Nat.le_of_ble_eq_true rfl), (Nat.le_of_ble_eq_true rfl)⟩) hw hA (fun r154 S153 H locs hpost hw => ?_)
                      obtain ⟨hr_, hS155, hfr156, hf157⟩ := hpost
                      subst hr_
                      have hL158 : mm ∈ S153.1 := by rw [hS155]; exact List.mem_append_left _ hL_mm
                      refine n_if_eq (tgt := 105) hx hb (by first | decide | omega) dX13_channel_100 (by decide) (fun h_100 => ?_) (fun h_100 => ?_)
                      · exact absurd h_100 (by first | decide | omega)
                      · skip
                        refine lv_iconst (v := nI 0) hx hb dX13_channel_103 (by decide) ?_
                        refine W.widen (k := 1) (n := 4) (Nat.le_of_ble_eq_true rfl) (Nat.le_of_ble_eq_true rfl) ?_
                        exact (p_iret C hw ((Or.inr ⟨[], (by unfold okC; omega), rfl, (by simp only [hS155, pup, pnew, List.append_nil, List.append_assoc, List.cons_append, List.nil_append]), (fun a_ ha_ hn_0 => (hfr156 a_ ha_ hn_0)), hf157⟩)) hr hlocks dX13_channel_104)
                    · exact absurd h_83 (by first | decide | omega)
                · exact absurd h_44 (by first | decide | omega)
        · skip
          obtain ⟨hc159, hr_, hS_⟩ := hpost
          subst hr_
          subst hS_
          refine n_if_eq (tgt := 69) hx hb (by first | decide | omega) dX13_channel_28 (by decide) (fun h_28 => ?_) (fun h_28 => ?_)
          · skip
            refine lv_iconst (v := nI 1) hx hb dX13_channel_69 (by decide) ?_
            refine lv_goto (tgt := 74) hx hb dX13_channel_70 (by decide) ?_
            refine lv_istore (lv' := [(5, .int (nI 1)), (0, .ref mm), (1, .int k), (2, .int a), (3, .int b), (4, .int c9)]) hx hb dX13_channel_74 hl (by decide) rfl (fun ls hl => ?_)
            refine lv_aload_n hx hb dX13_channel_76 rfl (lv_at hl 1 rfl) ?_
            refine lv_iload_n hx hb dX13_channel_77 rfl (lv_at hl 2 rfl) ?_
            refine lv_iconst (v := nI 0) hx hb dX13_channel_78 (by decide) ?_
            refine lv_iconst (v := nI 3) hx hb dX13_channel_79 (by decide) ?_
            refine p_calli (va_runS (As := [.int k, .int (nI 0), .int (nI 3)]) (rest := [.ref mm]) C.fix (e_X13_isIn l D cy S H.size k (nI 0) (nI 3) k.toInt ((0 : Nat) : Int) ((3 : Nat) : Int)  rfl (nI_toInt (by first | decide | omega)) (nI_toInt (by first | decide | omega))) (va_cwS 3 C.2.2.2.2.1 (gU_S mw_394 mw_395 mw_5 (subU mw_396)) rfl rfl rfl hde_X13_channel_S_0 ⟨Nat.le_of_ble_eq_true rfl, Nat.le_of_ble_eq_true rfl⟩) (p_preS C hw) rfl rfl hl.1 rfl (lv_room (Nat.le_of_ble_eq_true rfl)) dX13_channel_80 ⟨(Nat.le_of_ble_eq_true rfl), (Nat.le_of_ble_eq_true rfl)⟩) hw hA (fun r161 S160 H locs hpost hw => ?_)
            rcases hpost with hpost | hpost
            · skip
              obtain ⟨hc162, hr_, hS_⟩ := hpost
              subst hr_
              subst hS_
              refine n_if_eq (tgt := 91) hx hb (by first | decide | omega) dX13_channel_83 (by decide) (fun h_83 => ?_) (fun h_83 => ?_)
              · exact absurd h_83 (by first | decide | omega)
              · skip
                refine lv_iload hx hb dX13_channel_86 (lv_at hl 0 rfl) ?_
                refine n_if_eq (tgt := 95) hx hb (by first | decide | omega) dX13_channel_88 (by decide) (fun h_88 => ?_) (fun h_88 => ?_)
                · exact absurd h_88 (by first | decide | omega)
                · skip
                  refine lv_iconst (v := nI 1) hx hb dX13_channel_91 (by decide) ?_
                  refine lv_goto (tgt := 96) hx hb dX13_channel_92 (by decide) ?_
                  refine lv_iconst (v := nI 1) hx hb dX13_channel_96 (by decide) ?_
                  refine p_calli (va_runV (As := [.int (nI 1), .int (nI 1)]) (rest := []) C.fix (e_X13_start1 l D cy S H.size mm me sg cn im 1 0 hL_mm hf_mm (by first | assumption | decide | omega) (by first | assumption | decide | omega)) (cwV 2 C.2.2.2.2.1 (gU_V mw_397 mw_398 mw_399 mw_5 (subU mw_400)) rfl rfl rfl hde_X13_channel_V_1 ⟨Nat.le_of_ble_eq_true rfl, Nat.le_of_ble_eq_true rfl⟩) (p_preV C hw hL_mm hf_mm rfl) rfl rfl hl.1 rfl (lv_room (Nat.le_of_ble_eq_true rfl)) dX13_channel_97 ⟨(Nat.le_of_ble_eq_true rfl), (Nat.le_of_ble_eq_true rfl)⟩) hw hA (fun r164 S163 H locs hpost hw => ?_)
                  obtain ⟨hr_, hS165, hfr166, hf167⟩ := hpost
                  subst hr_
                  have hL168 : mm ∈ S163.1 := by rw [hS165]; exact List.mem_append_left _ hL_mm
                  refine n_if_eq (tgt := 105) hx hb (by first | decide | omega) dX13_channel_100 (by decide) (fun h_100 => ?_) (fun h_100 => ?_)
                  · exact absurd h_100 (by first | decide | omega)
                  · skip
                    refine lv_iconst (v := nI 0) hx hb dX13_channel_103 (by decide) ?_
                    refine W.widen (k := 1) (n := 4) (Nat.le_of_ble_eq_true rfl) (Nat.le_of_ble_eq_true rfl) ?_
                    exact (p_iret C hw ((Or.inr ⟨[], (by unfold okC; omega), rfl, (by simp only [hS165, pup, pnew, List.append_nil, List.append_assoc, List.cons_append, List.nil_append]), (fun a_ ha_ hn_0 => (hfr166 a_ ha_ hn_0)), hf167⟩)) hr hlocks dX13_channel_104)
            · skip
              obtain ⟨hc169, hr_, hS_⟩ := hpost
              subst hr_
              subst hS_
              refine n_if_eq (tgt := 91) hx hb (by first | decide | omega) dX13_channel_83 (by decide) (fun h_83 => ?_) (fun h_83 => ?_)
              · skip
                refine lv_iconst (v := nI 1) hx hb dX13_channel_91 (by decide) ?_
                refine lv_goto (tgt := 96) hx hb dX13_channel_92 (by decide) ?_
                refine lv_iconst (v := nI 1) hx hb dX13_channel_96 (by decide) ?_
                refine p_calli (va_runV (As := [.int (nI 1), .int (nI 1)]) (rest := []) C.fix (e_X13_start1 l D cy S H.size mm me sg cn im 1 0 hL_mm hf_mm (by first | assumption | decide | omega) (by first | assumption | decide | omega)) (cwV 2 C.2.2.2.2.1 (gU_V mw_397 mw_398 mw_399 mw_5 (subU mw_400)) rfl rfl rfl hde_X13_channel_V_1 ⟨Nat.le_of_ble_eq_true rfl, Nat.le_of_ble_eq_true rfl⟩) (p_preV C hw hL_mm hf_mm rfl) rfl rfl hl.1 rfl (lv_room (Nat.le_of_ble_eq_true rfl)) dX13_channel_97 ⟨(Nat.le_of_ble_eq_true rfl), (Nat.le_of_ble_eq_true rfl)⟩) hw hA (fun r171 S170 H locs hpost hw => ?_)
                obtain ⟨hr_, hS172, hfr173, hf174⟩ := hpost
                subst hr_
                have hL175 : mm ∈ S170.1 := by rw [hS172]; exact List.mem_append_left _ hL_mm
                refine n_if_eq (tgt := 105) hx hb (by first | decide | omega) dX13_channel_100 (by decide) (fun h_100 => ?_) (fun h_100 => ?_)
                · exact absurd h_100 (by first | decide | omega)
                · skip
                  refine lv_iconst (v := nI 0) hx hb dX13_channel_103 (by decide) ?_
                  refine W.widen (k := 1) (n := 4) (Nat.le_of_ble_eq_true rfl) (Nat.le_of_ble_eq_true rfl) ?_
                  exact (p_iret C hw ((Or.inr ⟨[], (by unfold okC; omega), rfl, (by simp only [hS172, pup, pnew, List.append_nil, List.append_assoc, List.cons_append, List.nil_append]), (fun a_ ha_ hn_0 => (hfr173 a_ ha_ hn_0)), hf174⟩)) hr hlocks dX13_channel_104)
              · exact absurd h_83 (by first | decide | omega)
          · exact absurd h_28 (by first | decide | omega)
    · skip
      obtain ⟨hc176, hr_, hS_⟩ := hpost
      subst hr_
      subst hS_
      refine n_if_eq (tgt := 69) hx hb (by first | decide | omega) dX13_channel_18 (by decide) (fun h_18 => ?_) (fun h_18 => ?_)
      · skip
        refine lv_iconst (v := nI 1) hx hb dX13_channel_69 (by decide) ?_
        refine lv_goto (tgt := 74) hx hb dX13_channel_70 (by decide) ?_
        refine lv_istore (lv' := [(5, .int (nI 1)), (0, .ref mm), (1, .int k), (2, .int a), (3, .int b), (4, .int c9)]) hx hb dX13_channel_74 hl (by decide) rfl (fun ls hl => ?_)
        refine lv_aload_n hx hb dX13_channel_76 rfl (lv_at hl 1 rfl) ?_
        refine lv_iload_n hx hb dX13_channel_77 rfl (lv_at hl 2 rfl) ?_
        refine lv_iconst (v := nI 0) hx hb dX13_channel_78 (by decide) ?_
        refine lv_iconst (v := nI 3) hx hb dX13_channel_79 (by decide) ?_
        refine p_calli (va_runS (As := [.int k, .int (nI 0), .int (nI 3)]) (rest := [.ref mm]) C.fix (e_X13_isIn l D cy S H.size k (nI 0) (nI 3) k.toInt ((0 : Nat) : Int) ((3 : Nat) : Int)  rfl (nI_toInt (by first | decide | omega)) (nI_toInt (by first | decide | omega))) (va_cwS 3 C.2.2.2.2.1 (gU_S mw_394 mw_395 mw_5 (subU mw_396)) rfl rfl rfl hde_X13_channel_S_0 ⟨Nat.le_of_ble_eq_true rfl, Nat.le_of_ble_eq_true rfl⟩) (p_preS C hw) rfl rfl hl.1 rfl (lv_room (Nat.le_of_ble_eq_true rfl)) dX13_channel_80 ⟨(Nat.le_of_ble_eq_true rfl), (Nat.le_of_ble_eq_true rfl)⟩) hw hA (fun r178 S177 H locs hpost hw => ?_)
        rcases hpost with hpost | hpost
        · skip
          obtain ⟨hc179, hr_, hS_⟩ := hpost
          subst hr_
          subst hS_
          refine n_if_eq (tgt := 91) hx hb (by first | decide | omega) dX13_channel_83 (by decide) (fun h_83 => ?_) (fun h_83 => ?_)
          · exact absurd h_83 (by first | decide | omega)
          · skip
            refine lv_iload hx hb dX13_channel_86 (lv_at hl 0 rfl) ?_
            refine n_if_eq (tgt := 95) hx hb (by first | decide | omega) dX13_channel_88 (by decide) (fun h_88 => ?_) (fun h_88 => ?_)
            · exact absurd h_88 (by first | decide | omega)
            · skip
              refine lv_iconst (v := nI 1) hx hb dX13_channel_91 (by decide) ?_
              refine lv_goto (tgt := 96) hx hb dX13_channel_92 (by decide) ?_
              refine lv_iconst (v := nI 1) hx hb dX13_channel_96 (by decide) ?_
              refine p_calli (va_runV (As := [.int (nI 1), .int (nI 1)]) (rest := []) C.fix (e_X13_start1 l D cy S H.size mm me sg cn im 1 0 hL_mm hf_mm (by first | assumption | decide | omega) (by first | assumption | decide | omega)) (cwV 2 C.2.2.2.2.1 (gU_V mw_397 mw_398 mw_399 mw_5 (subU mw_400)) rfl rfl rfl hde_X13_channel_V_1 ⟨Nat.le_of_ble_eq_true rfl, Nat.le_of_ble_eq_true rfl⟩) (p_preV C hw hL_mm hf_mm rfl) rfl rfl hl.1 rfl (lv_room (Nat.le_of_ble_eq_true rfl)) dX13_channel_97 ⟨(Nat.le_of_ble_eq_true rfl), (Nat.le_of_ble_eq_true rfl)⟩) hw hA (fun r181 S180 H locs hpost hw => ?_)
              obtain ⟨hr_, hS182, hfr183, hf184⟩ := hpost
              subst hr_
              have hL185 : mm ∈ S180.1 := by rw [hS182]; exact List.mem_append_left _ hL_mm
              refine n_if_eq (tgt := 105) hx hb (by first | decide | omega) dX13_channel_100 (by decide) (fun h_100 => ?_) (fun h_100 => ?_)
              · exact absurd h_100 (by first | decide | omega)
              · skip
                refine lv_iconst (v := nI 0) hx hb dX13_channel_103 (by decide) ?_
                refine W.widen (k := 1) (n := 4) (Nat.le_of_ble_eq_true rfl) (Nat.le_of_ble_eq_true rfl) ?_
                exact (p_iret C hw ((Or.inr ⟨[], (by unfold okC; omega), rfl, (by simp only [hS182, pup, pnew, List.append_nil, List.append_assoc, List.cons_append, List.nil_append]), (fun a_ ha_ hn_0 => (hfr183 a_ ha_ hn_0)), hf184⟩)) hr hlocks dX13_channel_104)
        · skip
          obtain ⟨hc186, hr_, hS_⟩ := hpost
          subst hr_
          subst hS_
          refine n_if_eq (tgt := 91) hx hb (by first | decide | omega) dX13_channel_83 (by decide) (fun h_83 => ?_) (fun h_83 => ?_)
          · skip
            refine lv_iconst (v := nI 1) hx hb dX13_channel_91 (by decide) ?_
            refine lv_goto (tgt := 96) hx hb dX13_channel_92 (by decide) ?_
            refine lv_iconst (v := nI 1) hx hb dX13_channel_96 (by decide) ?_
            refine p_calli (va_runV (As := [.int (nI 1), .int (nI 1)]) (rest := []) C.fix (e_X13_start1 l D cy S H.size mm me sg cn im 1 0 hL_mm hf_mm (by first | assumption | decide | omega) (by first | assumption | decide | omega)) (cwV 2 C.2.2.2.2.1 (gU_V mw_397 mw_398 mw_399 mw_5 (subU mw_400)) rfl rfl rfl hde_X13_channel_V_1 ⟨Nat.le_of_ble_eq_true rfl, Nat.le_of_ble_eq_true rfl⟩) (p_preV C hw hL_mm hf_mm rfl) rfl rfl hl.1 rfl (lv_room (Nat.le_of_ble_eq_true rfl)) dX13_channel_97 ⟨(Nat.le_of_ble_eq_true rfl), (Nat.le_of_ble_eq_true rfl)⟩) hw hA (fun r188 S187 H locs hpost hw => ?_)
            obtain ⟨hr_, hS189, hfr190, hf191⟩ := hpost
            subst hr_
            have hL192 : mm ∈ S187.1 := by rw [hS189]; exact List.mem_append_left _ hL_mm
            refine n_if_eq (tgt := 105) hx hb (by first | decide | omega) dX13_channel_100 (by decide) (fun h_100 => ?_) (fun h_100 => ?_)
            · exact absurd h_100 (by first | decide | omega)
            · skip
              refine lv_iconst (v := nI 0) hx hb dX13_channel_103 (by decide) ?_
              refine W.widen (k := 1) (n := 4) (Nat.le_of_ble_eq_true rfl) (Nat.le_of_ble_eq_true rfl) ?_
              exact (p_iret C hw ((Or.inr ⟨[], (by unfold okC; omega), rfl, (by simp only [hS189, pup, pnew, List.append_nil, List.append_assoc, List.cons_append, List.nil_append]), (fun a_ ha_ hn_0 => (hfr190 a_ ha_ hn_0)), hf191⟩)) hr hlocks dX13_channel_104)
          · exact absurd h_83 (by first | decide | omega)
      · exact absurd h_18 (by first | decide | omega)
  · skip
    refine lv_iload_n hx hb dX13_channel_5 rfl (lv_at hl 1 rfl) ?_
    refine lv_iconst (v := nI 3) hx hb dX13_channel_6 (by decide) ?_
    refine z_icmp_ne (tgt := 31) hx hb rfl (nI_toInt (by first | decide | omega)) dX13_channel_7 (by decide) (fun h_7 => ?_) (fun h_7 => ?_)
    · skip
      refine lv_iload_n hx hb dX13_channel_31 rfl (lv_at hl 1 rfl) ?_
      refine lv_iconst (v := nI 2) hx hb dX13_channel_32 (by decide) ?_
      refine z_icmp_ne (tgt := 73) hx hb rfl (nI_toInt (by first | decide | omega)) dX13_channel_33 (by decide) (fun h_33 => ?_) (fun h_33 => ?_)
      · skip
        refine lv_iconst (v := nI 0) hx hb dX13_channel_73 (by decide) ?_
        refine lv_istore (lv' := [(5, .int (nI 0)), (0, .ref mm), (1, .int k), (2, .int a), (3, .int b), (4, .int c9)]) hx hb dX13_channel_74 hl (by decide) rfl (fun ls hl => ?_)
        refine lv_aload_n hx hb dX13_channel_76 rfl (lv_at hl 1 rfl) ?_
        refine lv_iload_n hx hb dX13_channel_77 rfl (lv_at hl 2 rfl) ?_
        refine lv_iconst (v := nI 0) hx hb dX13_channel_78 (by decide) ?_
        refine lv_iconst (v := nI 3) hx hb dX13_channel_79 (by decide) ?_
        refine p_calli (va_runS (As := [.int k, .int (nI 0), .int (nI 3)]) (rest := [.ref mm]) C.fix (e_X13_isIn l D cy S s.heap.size k (nI 0) (nI 3) k.toInt ((0 : Nat) : Int) ((3 : Nat) : Int)  rfl (nI_toInt (by first | decide | omega)) (nI_toInt (by first | decide | omega))) (va_cwS 3 C.2.2.2.2.1 (gU_S mw_394 mw_395 mw_5 (subU mw_396)) rfl rfl rfl hde_X13_channel_S_0 ⟨Nat.le_of_ble_eq_true rfl, Nat.le_of_ble_eq_true rfl⟩) (p_preS C hw) rfl rfl hl.1 rfl (lv_room (Nat.le_of_ble_eq_true rfl)) dX13_channel_80 ⟨(Nat.le_of_ble_eq_true rfl), (Nat.le_of_ble_eq_true rfl)⟩) hw hA (fun r194 S193 H locs hpost hw => ?_)
        rcases hpost with hpost | hpost
        · skip
          obtain ⟨hc195, hr_, hS_⟩ := hpost
          subst hr_
          subst hS_
          refine n_if_eq (tgt := 91) hx hb (by first | decide | omega) dX13_channel_83 (by decide) (fun h_83 => ?_) (fun h_83 => ?_)
          · exact absurd h_83 (by first | decide | omega)
          · skip
            refine lv_iload hx hb dX13_channel_86 (lv_at hl 0 rfl) ?_
            refine n_if_eq (tgt := 95) hx hb (by first | decide | omega) dX13_channel_88 (by decide) (fun h_88 => ?_) (fun h_88 => ?_)
            · skip
              refine lv_iconst (v := nI 0) hx hb dX13_channel_95 (by decide) ?_
              refine lv_iconst (v := nI 1) hx hb dX13_channel_96 (by decide) ?_
              refine p_calli (va_runV (As := [.int (nI 0), .int (nI 1)]) (rest := []) C.fix (e_X13_start0 l D cy S H.size mm me sg cn im 1 0 hL_mm hf_mm ) (cwV 2 C.2.2.2.2.1 (gU_V mw_397 mw_398 mw_399 mw_5 (subU mw_400)) rfl rfl rfl hde_X13_channel_V_1 ⟨Nat.le_of_ble_eq_true rfl, Nat.le_of_ble_eq_true rfl⟩) (p_preV C hw hL_mm hf_mm rfl) rfl rfl hl.1 rfl (lv_room (Nat.le_of_ble_eq_true rfl)) dX13_channel_97 ⟨(Nat.le_of_ble_eq_true rfl), (Nat.le_of_ble_eq_true rfl)⟩) hw hA (fun r197 S196 H locs hpost hw => ?_)
              obtain ⟨hr_, hS198, hfr199, hf200⟩ := hpost
              subst hr_
              have hL201 : mm ∈ S196.1 := by rw [hS198]; exact List.mem_append_left _ hL_mm
              refine n_if_eq (tgt := 105) hx hb (by first | decide | omega) dX13_channel_100 (by decide) (fun h_100 => ?_) (fun h_100 => ?_)
              · skip
                refine lv_aload_n hx hb dX13_channel_105 rfl (lv_at hl 1 rfl) ?_
                refine p_get C hw (ci := 13) (Cn := RX13) (T := TX13) (N := 5) hL201 hf200 rfl hin_RX13 3 (by decide) (mU mw_91) rfl rfl dX13_channel_106 ?_
                refine lv_iconst (v := nI 0) hx hb dX13_channel_109 (by decide) ?_
                have hL202 : cn ∈ S196.1 := by rw [hS198]; exact List.mem_append_left _ hL_cn
                have hf203 : S196.2 cn = .inl (cy 0, 4, .inl (upd (upd (upd (upd (fun _ => 0) 0 (nI 0)) 1 (nI 0)) 2 (nI 0)) 3 (nI 1))) := (hfr199 cn hL_cn (ne_cells hf_cn hf_mm (by nofun))).trans hf_cn
                refine p_ald C hw 0 rfl hL202 hf203 (by first | decide | omega) (by first | decide | omega) dX13_channel_110 ?_
                refine x_ren (b := nI 0) rfl ?_
                refine lv_istore (lv' := [(6, .int (nI 0)), (5, .int (nI 0)), (0, .ref mm), (1, .int k), (2, .int a), (3, .int b), (4, .int c9)]) hx hb dX13_channel_111 hl (by decide) rfl (fun ls hl => ?_)
                refine lv_aload_n hx hb dX13_channel_113 rfl (lv_at hl 2 rfl) ?_
                refine lv_iconst (v := nI 4) hx hb dX13_channel_114 (by decide) ?_
                refine p_newa C hw hA (mU mw_59) 0 rfl (n := 4) (by first | decide | omega) (Nat.le_of_ble_eq_true rfl) (Nat.le_of_ble_eq_true rfl) dX13_channel_115 (fun w9 H hq_w9 hw => ?_)
                obtain ⟨S204, hS204⟩ : ∃ z, z = pnew S196 w9 (.inl (cy 0, 4, .inl (fun _ => 0))) := ⟨_, rfl⟩
                replace hw : pW D (pA S s.heap.size) s.heap S204 H locs := by rw [hS204]; exact hw
                have hL205 : w9 ∈ S204.1 := by rw [hS204]; exact List.mem_append_right _ List.mem_cons_self
                have hf206 : S204.2 w9 = .inl (cy 0, 4, .inl (fun _ => 0)) := by rw [hS204]; exact pnew_s
                refine lv_dup hx hb dX13_channel_117 rfl ?_
                refine lv_iconst (v := nI 0) hx hb dX13_channel_118 (by decide) ?_
                refine lv_iload_n hx hb dX13_channel_119 rfl (lv_at hl 3 rfl) ?_
                refine p_ast C hw 0 rfl hL205 hf206 (by first | decide | omega) (by first | decide | omega) dX13_channel_120 (fun H locs hw => ?_)
                obtain ⟨S207, hS207⟩ : ∃ z, z = pup S204 w9 (.inl (cy 0, 4, .inl (upd (fun _ => 0) 0 k))) := ⟨_, rfl⟩
                replace hw : pW D (pA S s.heap.size) s.heap S207 H locs := by rw [hS207]; exact hw
                have hL208 : w9 ∈ S207.1 := by rw [hS207]; exact hL205
                have hf209 : S207.2 w9 = .inl (cy 0, 4, .inl (upd (fun _ => 0) 0 k)) := by rw [hS207]; exact pup_s
                refine lv_dup hx hb dX13_channel_121 rfl ?_
                refine lv_iconst (v := nI 1) hx hb dX13_channel_122 (by decide) ?_
                refine lv_iload_n hx hb dX13_channel_123 rfl (lv_at hl 4 rfl) ?_
                refine p_ast C hw 0 rfl hL208 hf209 (by first | decide | omega) (by first | decide | omega) dX13_channel_124 (fun H locs hw => ?_)
                obtain ⟨S210, hS210⟩ : ∃ z, z = pup S207 w9 (.inl (cy 0, 4, .inl (upd (upd (fun _ => 0) 0 k) 1 a))) := ⟨_, rfl⟩
                replace hw : pW D (pA S s.heap.size) s.heap S210 H locs := by rw [hS210]; exact hw
                have hL211 : w9 ∈ S210.1 := by rw [hS210]; exact hL208
                have hf212 : S210.2 w9 = .inl (cy 0, 4, .inl (upd (upd (fun _ => 0) 0 k) 1 a)) := by rw [hS210]; exact pup_s
                refine lv_dup hx hb dX13_channel_125 rfl ?_
                refine lv_iconst (v := nI 2) hx hb dX13_channel_126 (by decide) ?_
                refine lv_iload_n hx hb dX13_channel_127 rfl (lv_at hl 5 rfl) ?_
                refine p_ast C hw 0 rfl hL211 hf212 (by first | decide | omega) (by first | decide | omega) dX13_channel_128 (fun H locs hw => ?_)
                obtain ⟨S213, hS213⟩ : ∃ z, z = pup S210 w9 (.inl (cy 0, 4, .inl (upd (upd (upd (fun _ => 0) 0 k) 1 a) 2 b))) := ⟨_, rfl⟩
                replace hw : pW D (pA S s.heap.size) s.heap S213 H locs := by rw [hS213]; exact hw
                have hL214 : w9 ∈ S213.1 := by rw [hS213]; exact hL211
                have hf215 : S213.2 w9 = .inl (cy 0, 4, .inl (upd (upd (upd (fun _ => 0) 0 k) 1 a) 2 b)) := by rw [hS213]; exact pup_s
                refine lv_dup hx hb dX13_channel_129 rfl ?_
                refine lv_iconst (v := nI 3) hx hb dX13_channel_130 (by decide) ?_
                refine lv_iload hx hb dX13_channel_131 (lv_at hl 6 rfl) ?_
                refine p_ast C hw 0 rfl hL214 hf215 (by first | decide | omega) (by first | decide | omega) dX13_channel_133 (fun H locs hw => ?_)
                obtain ⟨S216, hS216⟩ : ∃ z, z = pup S213 w9 (.inl (cy 0, 4, .inl (upd (upd (upd (upd (fun _ => 0) 0 k) 1 a) 2 b) 3 c9))) := ⟨_, rfl⟩
                replace hw : pW D (pA S s.heap.size) s.heap S216 H locs := by rw [hS216]; exact hw
                have hL217 : w9 ∈ S216.1 := by rw [hS216]; exact hL214
                have hf218 : S216.2 w9 = .inl (cy 0, 4, .inl (upd (upd (upd (upd (fun _ => 0) 0 k) 1 a) 2 b) 3 c9)) := by rw [hS216]; exact pup_s
                have hL219 : mm ∈ S204.1 := by rw [hS204]; exact List.mem_append_left _ hL201
                have hf220 : S204.2 mm = .inr (13, [.int (nI 0), .ref me, .ref sg, .ref cn, .ref im]) := by rw [hS204]; exact (pnew_n (fun z : mm = w9 => hq_w9 (by rw [← z]; exact hL201))).trans hf200
                have hL221 : mm ∈ S207.1 := by rw [hS207]; exact hL219
                have hf222 : S207.2 mm = .inr (13, [.int (nI 0), .ref me, .ref sg, .ref cn, .ref im]) := by rw [hS207]; exact (pup_n (fun z : mm = w9 => hq_w9 (by rw [← z]; exact hL201))).trans hf220
                have hL223 : mm ∈ S210.1 := by rw [hS210]; exact hL221
                have hf224 : S210.2 mm = .inr (13, [.int (nI 0), .ref me, .ref sg, .ref cn, .ref im]) := by rw [hS210]; exact (pup_n (fun z : mm = w9 => hq_w9 (by rw [← z]; exact hL201))).trans hf222
                have hL225 : mm ∈ S213.1 := by rw [hS213]; exact hL223
                have hf226 : S213.2 mm = .inr (13, [.int (nI 0), .ref me, .ref sg, .ref cn, .ref im]) := by rw [hS213]; exact (pup_n (fun z : mm = w9 => hq_w9 (by rw [← z]; exact hL201))).trans hf224
                have hL227 : mm ∈ S216.1 := by rw [hS216]; exact hL225
                have hf228 : S216.2 mm = .inr (13, [.int (nI 0), .ref me, .ref sg, .ref cn, .ref im]) := by rw [hS216]; exact (pup_n (fun z : mm = w9 => hq_w9 (by rw [← z]; exact hL201))).trans hf226
                refine p_put C hw (ci := 13) (Cn := RX13) (T := TX13) (N := 5) tyX13 tyX13_ok nmX13 hL227 hf228 rfl hin_RX13 3 (by decide) (mU mw_91) rfl rfl rfl rfl rfl (by simp) dX13_channel_134 rfl (fun H locs hw => ?_)
                obtain ⟨S229, hS229⟩ : ∃ z, z = pup S216 mm (.inr (13, [.int (nI 0), .ref me, .ref sg, .ref w9, .ref im])) := ⟨_, rfl⟩
                replace hw : pW D (pA S s.heap.size) s.heap S229 H locs := by rw [hS229]; exact hw
                have hL230 : mm ∈ S229.1 := by rw [hS229]; exact hL227
                have hf231 : S229.2 mm = .inr (13, [.int (nI 0), .ref me, .ref sg, .ref w9, .ref im]) := by rw [hS229]; exact pup_s
                refine lv_iload hx hb dX13_channel_137 (lv_at hl 0 rfl) ?_
                exact (p_iret C hw ((Or.inl ⟨w9, ([w9]), (by unfold okC; omega), rfl, (by simp only [hS229, hS216, hS213, hS210, hS207, hS204, hS198, pup, pnew, List.append_nil, List.append_assoc, List.cons_append, List.nil_append]), (fun a_ ha_ hn_0 => ((show S229.2 a_ = S216.2 a_ from by rw [hS229]; exact pup_n hn_0).trans ((show S216.2 a_ = S213.2 a_ from by rw [hS216]; exact pup_n (fun z : a_ = w9 => hq_w9 (by rw [← z]; exact (show a_ ∈ S196.1 from by rw [hS198]; exact List.mem_append_left _ ha_)))).trans ((show S213.2 a_ = S210.2 a_ from by rw [hS213]; exact pup_n (fun z : a_ = w9 => hq_w9 (by rw [← z]; exact (show a_ ∈ S196.1 from by rw [hS198]; exact List.mem_append_left _ ha_)))).trans ((show S210.2 a_ = S207.2 a_ from by rw [hS210]; exact pup_n (fun z : a_ = w9 => hq_w9 (by rw [← z]; exact (show a_ ∈ S196.1 from by rw [hS198]; exact List.mem_append_left _ ha_)))).trans ((show S207.2 a_ = S204.2 a_ from by rw [hS207]; exact pup_n (fun z : a_ = w9 => hq_w9 (by rw [← z]; exact (show a_ ∈ S196.1 from by rw [hS198]; exact List.mem_append_left _ ha_)))).trans ((show S204.2 a_ = S196.2 a_ from by rw [hS204]; exact pnew_n (fun z : a_ = w9 => hq_w9 (by rw [← z]; exact (show a_ ∈ S196.1 from by rw [hS198]; exact List.mem_append_left _ ha_)))).trans (hfr199 a_ ha_ hn_0)))))))), hf231⟩)) hr hlocks dX13_channel_139)
              · exact absurd h_100 (by first | decide | omega)
            · exact absurd h_88 (by first | decide | omega)
        · skip
          obtain ⟨hc232, hr_, hS_⟩ := hpost
          subst hr_
          subst hS_
          refine n_if_eq (tgt := 91) hx hb (by first | decide | omega) dX13_channel_83 (by decide) (fun h_83 => ?_) (fun h_83 => ?_)
          · skip
            refine lv_iconst (v := nI 1) hx hb dX13_channel_91 (by decide) ?_
            refine lv_goto (tgt := 96) hx hb dX13_channel_92 (by decide) ?_
            refine lv_iconst (v := nI 1) hx hb dX13_channel_96 (by decide) ?_
            refine p_calli (va_runV (As := [.int (nI 1), .int (nI 1)]) (rest := []) C.fix (e_X13_start1 l D cy S H.size mm me sg cn im 1 0 hL_mm hf_mm (by first | assumption | decide | omega) (by first | assumption | decide | omega)) (cwV 2 C.2.2.2.2.1 (gU_V mw_397 mw_398 mw_399 mw_5 (subU mw_400)) rfl rfl rfl hde_X13_channel_V_1 ⟨Nat.le_of_ble_eq_true rfl, Nat.le_of_ble_eq_true rfl⟩) (p_preV C hw hL_mm hf_mm rfl) rfl rfl hl.1 rfl (lv_room (Nat.le_of_ble_eq_true rfl)) dX13_channel_97 ⟨(Nat.le_of_ble_eq_true rfl), (Nat.le_of_ble_eq_true rfl)⟩) hw hA (fun r234 S233 H locs hpost hw => ?_)
            obtain ⟨hr_, hS235, hfr236, hf237⟩ := hpost
            subst hr_
            have hL238 : mm ∈ S233.1 := by rw [hS235]; exact List.mem_append_left _ hL_mm
            refine n_if_eq (tgt := 105) hx hb (by first | decide | omega) dX13_channel_100 (by decide) (fun h_100 => ?_) (fun h_100 => ?_)
            · exact absurd h_100 (by first | decide | omega)
            · skip
              refine lv_iconst (v := nI 0) hx hb dX13_channel_103 (by decide) ?_
              refine W.widen (k := 1) (n := 4) (Nat.le_of_ble_eq_true rfl) (Nat.le_of_ble_eq_true rfl) ?_
              exact (p_iret C hw ((Or.inr ⟨[], (by unfold okC; omega), rfl, (by simp only [hS235, pup, pnew, List.append_nil, List.append_assoc, List.cons_append, List.nil_append]), (fun a_ ha_ hn_0 => (hfr236 a_ ha_ hn_0)), hf237⟩)) hr hlocks dX13_channel_104)
          · exact absurd h_83 (by first | decide | omega)
      · skip
        refine lv_iload_n hx hb dX13_channel_36 rfl (lv_at hl 2 rfl) ?_
        refine lv_iconst (v := nI 0) hx hb dX13_channel_37 (by decide) ?_
        refine lv_sipush (v := nI 320) hx hb dX13_channel_38 (by decide) ?_
        refine p_calli (va_runS (As := [.int a, .int (nI 0), .int (nI 320)]) (rest := []) C.fix (e_X13_isIn l D cy S s.heap.size a (nI 0) (nI 320) a.toInt ((0 : Nat) : Int) ((320 : Nat) : Int)  rfl (nI_toInt (by first | decide | omega)) (nI_toInt (by first | decide | omega))) (va_cwS 3 C.2.2.2.2.1 (gU_S mw_394 mw_395 mw_5 (subU mw_396)) rfl rfl rfl hde_X13_channel_S_0 ⟨Nat.le_of_ble_eq_true rfl, Nat.le_of_ble_eq_true rfl⟩) (p_preS C hw) rfl rfl hl.1 rfl (lv_room (Nat.le_of_ble_eq_true rfl)) dX13_channel_41 ⟨(Nat.le_of_ble_eq_true rfl), (Nat.le_of_ble_eq_true rfl)⟩) hw hA (fun r240 S239 H locs hpost hw => ?_)
        rcases hpost with hpost | hpost
        · skip
          obtain ⟨hc241, hr_, hS_⟩ := hpost
          subst hr_
          subst hS_
          refine n_if_eq (tgt := 69) hx hb (by first | decide | omega) dX13_channel_44 (by decide) (fun h_44 => ?_) (fun h_44 => ?_)
          · exact absurd h_44 (by first | decide | omega)
          · skip
            refine lv_iload_n hx hb dX13_channel_47 rfl (lv_at hl 3 rfl) ?_
            refine lv_iconst (v := nI 1) hx hb dX13_channel_48 (by decide) ?_
            refine lv_bipush (v := nI 50) hx hb dX13_channel_49 (by decide) ?_
            refine p_calli (va_runS (As := [.int b, .int (nI 1), .int (nI 50)]) (rest := []) C.fix (e_X13_isIn l D cy S H.size b (nI 1) (nI 50) b.toInt ((1 : Nat) : Int) ((50 : Nat) : Int)  rfl (nI_toInt (by first | decide | omega)) (nI_toInt (by first | decide | omega))) (va_cwS 3 C.2.2.2.2.1 (gU_S mw_394 mw_395 mw_5 (subU mw_396)) rfl rfl rfl hde_X13_channel_S_0 ⟨Nat.le_of_ble_eq_true rfl, Nat.le_of_ble_eq_true rfl⟩) (p_preS C hw) rfl rfl hl.1 rfl (lv_room (Nat.le_of_ble_eq_true rfl)) dX13_channel_51 ⟨(Nat.le_of_ble_eq_true rfl), (Nat.le_of_ble_eq_true rfl)⟩) hw hA (fun r243 S242 H locs hpost hw => ?_)
            rcases hpost with hpost | hpost
            · skip
              obtain ⟨hc244, hr_, hS_⟩ := hpost
              subst hr_
              subst hS_
              refine n_if_eq (tgt := 69) hx hb (by first | decide | omega) dX13_channel_54 (by decide) (fun h_54 => ?_) (fun h_54 => ?_)
              · exact absurd h_54 (by first | decide | omega)
              · skip
                refine lv_iload hx hb dX13_channel_57 (lv_at hl 4 rfl) ?_
                refine lv_iload_n hx hb dX13_channel_59 rfl (lv_at hl 3 rfl) ?_
                refine lv_sipush (v := nI 320) hx hb dX13_channel_60 (by decide) ?_
                refine p_calli (va_runS (As := [.int c9, .int b, .int (nI 320)]) (rest := []) C.fix (e_X13_isIn l D cy S H.size c9 b (nI 320) c9.toInt b.toInt ((320 : Nat) : Int)  rfl rfl (nI_toInt (by first | decide | omega))) (va_cwS 3 C.2.2.2.2.1 (gU_S mw_394 mw_395 mw_5 (subU mw_396)) rfl rfl rfl hde_X13_channel_S_0 ⟨Nat.le_of_ble_eq_true rfl, Nat.le_of_ble_eq_true rfl⟩) (p_preS C hw) rfl rfl hl.1 rfl (lv_room (Nat.le_of_ble_eq_true rfl)) dX13_channel_63 ⟨(Nat.le_of_ble_eq_true rfl), (Nat.le_of_ble_eq_true rfl)⟩) hw hA (fun r246 S245 H locs hpost hw => ?_)
                rcases hpost with hpost | hpost
                · skip
                  obtain ⟨hc247, hr_, hS_⟩ := hpost
                  subst hr_
                  subst hS_
                  refine n_if_ne (tgt := 73) hx hb (by first | decide | omega) dX13_channel_66 (by decide) (fun h_66 => ?_) (fun h_66 => ?_)
                  · skip
                    refine lv_iconst (v := nI 0) hx hb dX13_channel_73 (by decide) ?_
                    refine lv_istore (lv' := [(5, .int (nI 0)), (0, .ref mm), (1, .int k), (2, .int a), (3, .int b), (4, .int c9)]) hx hb dX13_channel_74 hl (by decide) rfl (fun ls hl => ?_)
                    refine lv_aload_n hx hb dX13_channel_76 rfl (lv_at hl 1 rfl) ?_
                    refine lv_iload_n hx hb dX13_channel_77 rfl (lv_at hl 2 rfl) ?_
                    refine lv_iconst (v := nI 0) hx hb dX13_channel_78 (by decide) ?_
                    refine lv_iconst (v := nI 3) hx hb dX13_channel_79 (by decide) ?_
                    refine p_calli (va_runS (As := [.int k, .int (nI 0), .int (nI 3)]) (rest := [.ref mm]) C.fix (e_X13_isIn l D cy S H.size k (nI 0) (nI 3) k.toInt ((0 : Nat) : Int) ((3 : Nat) : Int)  rfl (nI_toInt (by first | decide | omega)) (nI_toInt (by first | decide | omega))) (va_cwS 3 C.2.2.2.2.1 (gU_S mw_394 mw_395 mw_5 (subU mw_396)) rfl rfl rfl hde_X13_channel_S_0 ⟨Nat.le_of_ble_eq_true rfl, Nat.le_of_ble_eq_true rfl⟩) (p_preS C hw) rfl rfl hl.1 rfl (lv_room (Nat.le_of_ble_eq_true rfl)) dX13_channel_80 ⟨(Nat.le_of_ble_eq_true rfl), (Nat.le_of_ble_eq_true rfl)⟩) hw hA (fun r249 S248 H locs hpost hw => ?_)
                    rcases hpost with hpost | hpost
                    · skip
                      obtain ⟨hc250, hr_, hS_⟩ := hpost
                      subst hr_
                      subst hS_
                      refine n_if_eq (tgt := 91) hx hb (by first | decide | omega) dX13_channel_83 (by decide) (fun h_83 => ?_) (fun h_83 => ?_)
                      · exact absurd h_83 (by first | decide | omega)
                      · skip
                        refine lv_iload hx hb dX13_channel_86 (lv_at hl 0 rfl) ?_
                        refine n_if_eq (tgt := 95) hx hb (by first | decide | omega) dX13_channel_88 (by decide) (fun h_88 => ?_) (fun h_88 => ?_)
                        · skip
                          refine lv_iconst (v := nI 0) hx hb dX13_channel_95 (by decide) ?_
                          refine lv_iconst (v := nI 1) hx hb dX13_channel_96 (by decide) ?_
                          refine p_calli (va_runV (As := [.int (nI 0), .int (nI 1)]) (rest := []) C.fix (e_X13_start0 l D cy S H.size mm me sg cn im 1 0 hL_mm hf_mm ) (cwV 2 C.2.2.2.2.1 (gU_V mw_397 mw_398 mw_399 mw_5 (subU mw_400)) rfl rfl rfl hde_X13_channel_V_1 ⟨Nat.le_of_ble_eq_true rfl, Nat.le_of_ble_eq_true rfl⟩) (p_preV C hw hL_mm hf_mm rfl) rfl rfl hl.1 rfl (lv_room (Nat.le_of_ble_eq_true rfl)) dX13_channel_97 ⟨(Nat.le_of_ble_eq_true rfl), (Nat.le_of_ble_eq_true rfl)⟩) hw hA (fun r252 S251 H locs hpost hw => ?_)
                          obtain ⟨hr_, hS253, hfr254, hf255⟩ := hpost
                          subst hr_
                          have hL256 : mm ∈ S251.1 := by rw [hS253]; exact List.mem_append_left _ hL_mm
                          refine n_if_eq (tgt := 105) hx hb (by first | decide | omega) dX13_channel_100 (by decide) (fun h_100 => ?_) (fun h_100 => ?_)
                          · skip
                            refine lv_aload_n hx hb dX13_channel_105 rfl (lv_at hl 1 rfl) ?_
                            refine p_get C hw (ci := 13) (Cn := RX13) (T := TX13) (N := 5) hL256 hf255 rfl hin_RX13 3 (by decide) (mU mw_91) rfl rfl dX13_channel_106 ?_
                            refine lv_iconst (v := nI 0) hx hb dX13_channel_109 (by decide) ?_
                            have hL257 : cn ∈ S251.1 := by rw [hS253]; exact List.mem_append_left _ hL_cn
                            have hf258 : S251.2 cn = .inl (cy 0, 4, .inl (upd (upd (upd (upd (fun _ => 0) 0 (nI 0)) 1 (nI 0)) 2 (nI 0)) 3 (nI 1))) := (hfr254 cn hL_cn (ne_cells hf_cn hf_mm (by nofun))).trans hf_cn
                            refine p_ald C hw 0 rfl hL257 hf258 (by first | decide | omega) (by first | decide | omega) dX13_channel_110 ?_
                            refine x_ren (b := nI 0) rfl ?_
                            refine lv_istore (lv' := [(6, .int (nI 0)), (5, .int (nI 0)), (0, .ref mm), (1, .int k), (2, .int a), (3, .int b), (4, .int c9)]) hx hb dX13_channel_111 hl (by decide) rfl (fun ls hl => ?_)
                            refine lv_aload_n hx hb dX13_channel_113 rfl (lv_at hl 2 rfl) ?_
                            refine lv_iconst (v := nI 4) hx hb dX13_channel_114 (by decide) ?_
                            refine p_newa C hw hA (mU mw_59) 0 rfl (n := 4) (by first | decide | omega) (Nat.le_of_ble_eq_true rfl) (Nat.le_of_ble_eq_true rfl) dX13_channel_115 (fun w9 H hq_w9 hw => ?_)
                            obtain ⟨S259, hS259⟩ : ∃ z, z = pnew S251 w9 (.inl (cy 0, 4, .inl (fun _ => 0))) := ⟨_, rfl⟩
                            replace hw : pW D (pA S s.heap.size) s.heap S259 H locs := by rw [hS259]; exact hw
                            have hL260 : w9 ∈ S259.1 := by rw [hS259]; exact List.mem_append_right _ List.mem_cons_self
                            have hf261 : S259.2 w9 = .inl (cy 0, 4, .inl (fun _ => 0)) := by rw [hS259]; exact pnew_s
                            refine lv_dup hx hb dX13_channel_117 rfl ?_
                            refine lv_iconst (v := nI 0) hx hb dX13_channel_118 (by decide) ?_
                            refine lv_iload_n hx hb dX13_channel_119 rfl (lv_at hl 3 rfl) ?_
                            refine p_ast C hw 0 rfl hL260 hf261 (by first | decide | omega) (by first | decide | omega) dX13_channel_120 (fun H locs hw => ?_)
                            obtain ⟨S262, hS262⟩ : ∃ z, z = pup S259 w9 (.inl (cy 0, 4, .inl (upd (fun _ => 0) 0 k))) := ⟨_, rfl⟩
                            replace hw : pW D (pA S s.heap.size) s.heap S262 H locs := by rw [hS262]; exact hw
                            have hL263 : w9 ∈ S262.1 := by rw [hS262]; exact hL260
                            have hf264 : S262.2 w9 = .inl (cy 0, 4, .inl (upd (fun _ => 0) 0 k)) := by rw [hS262]; exact pup_s
                            refine lv_dup hx hb dX13_channel_121 rfl ?_
                            refine lv_iconst (v := nI 1) hx hb dX13_channel_122 (by decide) ?_
                            refine lv_iload_n hx hb dX13_channel_123 rfl (lv_at hl 4 rfl) ?_
                            refine p_ast C hw 0 rfl hL263 hf264 (by first | decide | omega) (by first | decide | omega) dX13_channel_124 (fun H locs hw => ?_)
                            obtain ⟨S265, hS265⟩ : ∃ z, z = pup S262 w9 (.inl (cy 0, 4, .inl (upd (upd (fun _ => 0) 0 k) 1 a))) := ⟨_, rfl⟩
                            replace hw : pW D (pA S s.heap.size) s.heap S265 H locs := by rw [hS265]; exact hw
                            have hL266 : w9 ∈ S265.1 := by rw [hS265]; exact hL263
                            have hf267 : S265.2 w9 = .inl (cy 0, 4, .inl (upd (upd (fun _ => 0) 0 k) 1 a)) := by rw [hS265]; exact pup_s
                            refine lv_dup hx hb dX13_channel_125 rfl ?_
                            refine lv_iconst (v := nI 2) hx hb dX13_channel_126 (by decide) ?_
                            refine lv_iload_n hx hb dX13_channel_127 rfl (lv_at hl 5 rfl) ?_
                            refine p_ast C hw 0 rfl hL266 hf267 (by first | decide | omega) (by first | decide | omega) dX13_channel_128 (fun H locs hw => ?_)
                            obtain ⟨S268, hS268⟩ : ∃ z, z = pup S265 w9 (.inl (cy 0, 4, .inl (upd (upd (upd (fun _ => 0) 0 k) 1 a) 2 b))) := ⟨_, rfl⟩
                            replace hw : pW D (pA S s.heap.size) s.heap S268 H locs := by rw [hS268]; exact hw
                            have hL269 : w9 ∈ S268.1 := by rw [hS268]; exact hL266
                            have hf270 : S268.2 w9 = .inl (cy 0, 4, .inl (upd (upd (upd (fun _ => 0) 0 k) 1 a) 2 b)) := by rw [hS268]; exact pup_s
                            refine lv_dup hx hb dX13_channel_129 rfl ?_
                            refine lv_iconst (v := nI 3) hx hb dX13_channel_130 (by decide) ?_
                            refine lv_iload hx hb dX13_channel_131 (lv_at hl 6 rfl) ?_
                            refine p_ast C hw 0 rfl hL269 hf270 (by first | decide | omega) (by first | decide | omega) dX13_channel_133 (fun H locs hw => ?_)
                            obtain ⟨S271, hS271⟩ : ∃ z, z = pup S268 w9 (.inl (cy 0, 4, .inl (upd (upd (upd (upd (fun _ => 0) 0 k) 1 a) 2 b) 3 c9))) := ⟨_, rfl⟩
                            replace hw : pW D (pA S s.heap.size) s.heap S271 H locs := by rw [hS271]; exact hw
                            have hL272 : w9 ∈ S271.1 := by rw [hS271]; exact hL269
                            have hf273 : S271.2 w9 = .inl (cy 0, 4, .inl (upd (upd (upd (upd (fun _ => 0) 0 k) 1 a) 2 b) 3 c9)) := by rw [hS271]; exact pup_s
                            have hL274 : mm ∈ S259.1 := by rw [hS259]; exact List.mem_append_left _ hL256
                            have hf275 : S259.2 mm = .inr (13, [.int (nI 0), .ref me, .ref sg, .ref cn, .ref im]) := by rw [hS259]; exact (pnew_n (fun z : mm = w9 => hq_w9 (by rw [← z]; exact hL256))).trans hf255
                            have hL276 : mm ∈ S262.1 := by rw [hS262]; exact hL274
                            have hf277 : S262.2 mm = .inr (13, [.int (nI 0), .ref me, .ref sg, .ref cn, .ref im]) := by rw [hS262]; exact (pup_n (fun z : mm = w9 => hq_w9 (by rw [← z]; exact hL256))).trans hf275
                            have hL278 : mm ∈ S265.1 := by rw [hS265]; exact hL276
                            have hf279 : S265.2 mm = .inr (13, [.int (nI 0), .ref me, .ref sg, .ref cn, .ref im]) := by rw [hS265]; exact (pup_n (fun z : mm = w9 => hq_w9 (by rw [← z]; exact hL256))).trans hf277
                            have hL280 : mm ∈ S268.1 := by rw [hS268]; exact hL278
                            have hf281 : S268.2 mm = .inr (13, [.int (nI 0), .ref me, .ref sg, .ref cn, .ref im]) := by rw [hS268]; exact (pup_n (fun z : mm = w9 => hq_w9 (by rw [← z]; exact hL256))).trans hf279
                            have hL282 : mm ∈ S271.1 := by rw [hS271]; exact hL280
                            have hf283 : S271.2 mm = .inr (13, [.int (nI 0), .ref me, .ref sg, .ref cn, .ref im]) := by rw [hS271]; exact (pup_n (fun z : mm = w9 => hq_w9 (by rw [← z]; exact hL256))).trans hf281
                            refine p_put C hw (ci := 13) (Cn := RX13) (T := TX13) (N := 5) tyX13 tyX13_ok nmX13 hL282 hf283 rfl hin_RX13 3 (by decide) (mU mw_91) rfl rfl rfl rfl rfl (by simp) dX13_channel_134 rfl (fun H locs hw => ?_)
                            obtain ⟨S284, hS284⟩ : ∃ z, z = pup S271 mm (.inr (13, [.int (nI 0), .ref me, .ref sg, .ref w9, .ref im])) := ⟨_, rfl⟩
                            replace hw : pW D (pA S s.heap.size) s.heap S284 H locs := by rw [hS284]; exact hw
                            have hL285 : mm ∈ S284.1 := by rw [hS284]; exact hL282
                            have hf286 : S284.2 mm = .inr (13, [.int (nI 0), .ref me, .ref sg, .ref w9, .ref im]) := by rw [hS284]; exact pup_s
                            refine lv_iload hx hb dX13_channel_137 (lv_at hl 0 rfl) ?_
                            exact (p_iret C hw ((Or.inl ⟨w9, ([w9]), (by unfold okC; omega), rfl, (by simp only [hS284, hS271, hS268, hS265, hS262, hS259, hS253, pup, pnew, List.append_nil, List.append_assoc, List.cons_append, List.nil_append]), (fun a_ ha_ hn_0 => ((show S284.2 a_ = S271.2 a_ from by rw [hS284]; exact pup_n hn_0).trans ((show S271.2 a_ = S268.2 a_ from by rw [hS271]; exact pup_n (fun z : a_ = w9 => hq_w9 (by rw [← z]; exact (show a_ ∈ S251.1 from by rw [hS253]; exact List.mem_append_left _ ha_)))).trans ((show S268.2 a_ = S265.2 a_ from by rw [hS268]; exact pup_n (fun z : a_ = w9 => hq_w9 (by rw [← z]; exact (show a_ ∈ S251.1 from by rw [hS253]; exact List.mem_append_left _ ha_)))).trans ((show S265.2 a_ = S262.2 a_ from by rw [hS265]; exact pup_n (fun z : a_ = w9 => hq_w9 (by rw [← z]; exact (show a_ ∈ S251.1 from by rw [hS253]; exact List.mem_append_left _ ha_)))).trans ((show S262.2 a_ = S259.2 a_ from by rw [hS262]; exact pup_n (fun z : a_ = w9 => hq_w9 (by rw [← z]; exact (show a_ ∈ S251.1 from by rw [hS253]; exact List.mem_append_left _ ha_)))).trans ((show S259.2 a_ = S251.2 a_ from by rw [hS259]; exact pnew_n (fun z : a_ = w9 => hq_w9 (by rw [← z]; exact (show a_ ∈ S251.1 from by rw [hS253]; exact List.mem_append_left _ ha_)))).trans (hfr254 a_ ha_ hn_0)))))))), hf286⟩)) hr hlocks dX13_channel_139)
                          · exact absurd h_100 (by first | decide | omega)
                        · exact absurd h_88 (by first | decide | omega)
                    · skip
                      obtain ⟨hc287, hr_, hS_⟩ := hpost
                      subst hr_
                      subst hS_
                      refine n_if_eq (tgt := 91) hx hb (by first | decide | omega) dX13_channel_83 (by decide) (fun h_83 => ?_) (fun h_83 => ?_)
                      · skip
                        refine lv_iconst (v := nI 1) hx hb dX13_channel_91 (by decide) ?_
                        refine lv_goto (tgt := 96) hx hb dX13_channel_92 (by decide) ?_
                        refine lv_iconst (v := nI 1) hx hb dX13_channel_96 (by decide) ?_
                        refine p_calli (va_runV (As := [.int (nI 1), .int (nI 1)]) (rest := []) C.fix (e_X13_start1 l D cy S H.size mm me sg cn im 1 0 hL_mm hf_mm (by first | assumption | decide | omega) (by first | assumption | decide | omega)) (cwV 2 C.2.2.2.2.1 (gU_V mw_397 mw_398 mw_399 mw_5 (subU mw_400)) rfl rfl rfl hde_X13_channel_V_1 ⟨Nat.le_of_ble_eq_true rfl, Nat.le_of_ble_eq_true rfl⟩) (p_preV C hw hL_mm hf_mm rfl) rfl rfl hl.1 rfl (lv_room (Nat.le_of_ble_eq_true rfl)) dX13_channel_97 ⟨(Nat.le_of_ble_eq_true rfl), (Nat.le_of_ble_eq_true rfl)⟩) hw hA (fun r289 S288 H locs hpost hw => ?_)
                        obtain ⟨hr_, hS290, hfr291, hf292⟩ := hpost
                        subst hr_
                        have hL293 : mm ∈ S288.1 := by rw [hS290]; exact List.mem_append_left _ hL_mm
                        refine n_if_eq (tgt := 105) hx hb (by first | decide | omega) dX13_channel_100 (by decide) (fun h_100 => ?_) (fun h_100 => ?_)
                        · exact absurd h_100 (by first | decide | omega)
                        · skip
                          refine lv_iconst (v := nI 0) hx hb dX13_channel_103 (by decide) ?_
                          refine W.widen (k := 1) (n := 4) (Nat.le_of_ble_eq_true rfl) (Nat.le_of_ble_eq_true rfl) ?_
                          exact (p_iret C hw ((Or.inr ⟨[], (by unfold okC; omega), rfl, (by simp only [hS290, pup, pnew, List.append_nil, List.append_assoc, List.cons_append, List.nil_append]), (fun a_ ha_ hn_0 => (hfr291 a_ ha_ hn_0)), hf292⟩)) hr hlocks dX13_channel_104)
                      · exact absurd h_83 (by first | decide | omega)
                  · exact absurd h_66 (by first | decide | omega)
                · skip
                  obtain ⟨hc294, hr_, hS_⟩ := hpost
                  subst hr_
                  subst hS_
                  refine n_if_ne (tgt := 73) hx hb (by first | decide | omega) dX13_channel_66 (by decide) (fun h_66 => ?_) (fun h_66 => ?_)
                  · exact absurd h_66 (by first | decide | omega)
                  · skip
                    refine lv_iconst (v := nI 1) hx hb dX13_channel_69 (by decide) ?_
                    refine lv_goto (tgt := 74) hx hb dX13_channel_70 (by decide) ?_
                    refine lv_istore (lv' := [(5, .int (nI 1)), (0, .ref mm), (1, .int k), (2, .int a), (3, .int b), (4, .int c9)]) hx hb dX13_channel_74 hl (by decide) rfl (fun ls hl => ?_)
                    refine lv_aload_n hx hb dX13_channel_76 rfl (lv_at hl 1 rfl) ?_
                    refine lv_iload_n hx hb dX13_channel_77 rfl (lv_at hl 2 rfl) ?_
                    refine lv_iconst (v := nI 0) hx hb dX13_channel_78 (by decide) ?_
                    refine lv_iconst (v := nI 3) hx hb dX13_channel_79 (by decide) ?_
                    refine p_calli (va_runS (As := [.int k, .int (nI 0), .int (nI 3)]) (rest := [.ref mm]) C.fix (e_X13_isIn l D cy S H.size k (nI 0) (nI 3) k.toInt ((0 : Nat) : Int) ((3 : Nat) : Int)  rfl (nI_toInt (by first | decide | omega)) (nI_toInt (by first | decide | omega))) (va_cwS 3 C.2.2.2.2.1 (gU_S mw_394 mw_395 mw_5 (subU mw_396)) rfl rfl rfl hde_X13_channel_S_0 ⟨Nat.le_of_ble_eq_true rfl, Nat.le_of_ble_eq_true rfl⟩) (p_preS C hw) rfl rfl hl.1 rfl (lv_room (Nat.le_of_ble_eq_true rfl)) dX13_channel_80 ⟨(Nat.le_of_ble_eq_true rfl), (Nat.le_of_ble_eq_true rfl)⟩) hw hA (fun r296 S295 H locs hpost hw => ?_)
                    rcases hpost with hpost | hpost
                    · skip
                      obtain ⟨hc297, hr_, hS_⟩ := hpost
                      subst hr_
                      subst hS_
                      refine n_if_eq (tgt := 91) hx hb (by first | decide | omega) dX13_channel_83 (by decide) (fun h_83 => ?_) (fun h_83 => ?_)
                      · exact absurd h_83 (by first | decide | omega)
                      · skip
                        refine lv_iload hx hb dX13_channel_86 (lv_at hl 0 rfl) ?_
                        refine n_if_eq (tgt := 95) hx hb (by first | decide | omega) dX13_channel_88 (by decide) (fun h_88 => ?_) (fun h_88 => ?_)
                        · exact absurd h_88 (by first | decide | omega)
                        · skip
                          refine lv_iconst (v := nI 1) hx hb dX13_channel_91 (by decide) ?_
                          refine lv_goto (tgt := 96) hx hb dX13_channel_92 (by decide) ?_
                          refine lv_iconst (v := nI 1) hx hb dX13_channel_96 (by decide) ?_
                          refine p_calli (va_runV (As := [.int (nI 1), .int (nI 1)]) (rest := []) C.fix (e_X13_start1 l D cy S H.size mm me sg cn im 1 0 hL_mm hf_mm (by first | assumption | decide | omega) (by first | assumption | decide | omega)) (cwV 2 C.2.2.2.2.1 (gU_V mw_397 mw_398 mw_399 mw_5 (subU mw_400)) rfl rfl rfl hde_X13_channel_V_1 ⟨Nat.le_of_ble_eq_true rfl, Nat.le_of_ble_eq_true rfl⟩) (p_preV C hw hL_mm hf_mm rfl) rfl rfl hl.1 rfl (lv_room (Nat.le_of_ble_eq_true rfl)) dX13_channel_97 ⟨(Nat.le_of_ble_eq_true rfl), (Nat.le_of_ble_eq_true rfl)⟩) hw hA (fun r299 S298 H locs hpost hw => ?_)
                          obtain ⟨hr_, hS300, hfr301, hf302⟩ := hpost
                          subst hr_
                          have hL303 : mm ∈ S298.1 := by rw [hS300]; exact List.mem_append_left _ hL_mm
                          refine n_if_eq (tgt := 105) hx hb (by first | decide | omega) dX13_channel_100 (by decide) (fun h_100 => ?_) (fun h_100 => ?_)
                          · exact absurd h_100 (by first | decide | omega)
                          · skip
                            refine lv_iconst (v := nI 0) hx hb dX13_channel_103 (by decide) ?_
                            refine W.widen (k := 1) (n := 4) (Nat.le_of_ble_eq_true rfl) (Nat.le_of_ble_eq_true rfl) ?_
                            exact (p_iret C hw ((Or.inr ⟨[], (by unfold okC; omega), rfl, (by simp only [hS300, pup, pnew, List.append_nil, List.append_assoc, List.cons_append, List.nil_append]), (fun a_ ha_ hn_0 => (hfr301 a_ ha_ hn_0)), hf302⟩)) hr hlocks dX13_channel_104)
                    · skip
                      obtain ⟨hc304, hr_, hS_⟩ := hpost
                      subst hr_
                      subst hS_
                      refine n_if_eq (tgt := 91) hx hb (by first | decide | omega) dX13_channel_83 (by decide) (fun h_83 => ?_) (fun h_83 => ?_)
                      · skip
                        refine lv_iconst (v := nI 1) hx hb dX13_channel_91 (by decide) ?_
                        refine lv_goto (tgt := 96) hx hb dX13_channel_92 (by decide) ?_
                        refine lv_iconst (v := nI 1) hx hb dX13_channel_96 (by decide) ?_
                        refine p_calli (va_runV (As := [.int (nI 1), .int (nI 1)]) (rest := []) C.fix (e_X13_start1 l D cy S H.size mm me sg cn im 1 0 hL_mm hf_mm (by first | assumption | decide | omega) (by first | assumption | decide | omega)) (cwV 2 C.2.2.2.2.1 (gU_V mw_397 mw_398 mw_399 mw_5 (subU mw_400)) rfl rfl rfl hde_X13_channel_V_1 ⟨Nat.le_of_ble_eq_true rfl, Nat.le_of_ble_eq_true rfl⟩) (p_preV C hw hL_mm hf_mm rfl) rfl rfl hl.1 rfl (lv_room (Nat.le_of_ble_eq_true rfl)) dX13_channel_97 ⟨(Nat.le_of_ble_eq_true rfl), (Nat.le_of_ble_eq_true rfl)⟩) hw hA (fun r306 S305 H locs hpost hw => ?_)
                        obtain ⟨hr_, hS307, hfr308, hf309⟩ := hpost
                        subst hr_
                        have hL310 : mm ∈ S305.1 := by rw [hS307]; exact List.mem_append_left _ hL_mm
                        refine n_if_eq (tgt := 105) hx hb (by first | decide | omega) dX13_channel_100 (by decide) (fun h_100 => ?_) (fun h_100 => ?_)
                        · exact absurd h_100 (by first | decide | omega)
                        · skip
                          refine lv_iconst (v := nI 0) hx hb dX13_channel_103 (by decide) ?_
                          refine W.widen (k := 1) (n := 4) (Nat.le_of_ble_eq_true rfl) (Nat.le_of_ble_eq_true rfl) ?_
                          exact (p_iret C hw ((Or.inr ⟨[], (by unfold okC; omega), rfl, (by simp only [hS307, pup, pnew, List.append_nil, List.append_assoc, List.cons_append, List.nil_append]), (fun a_ ha_ hn_0 => (hfr308 a_ ha_ hn_0)), hf309⟩)) hr hlocks dX13_channel_104)
                      · exact absurd h_83 (by first | decide | omega)
            · skip
              obtain ⟨hc311, hr_, hS_⟩ := hpost
              subst hr_
              subst hS_
              refine n_if_eq (tgt := 69) hx hb (by first | decide | omega) dX13_channel_54 (by decide) (fun h_54 => ?_) (fun h_54 => ?_)
              · skip
                refine lv_iconst (v := nI 1) hx hb dX13_channel_69 (by decide) ?_
                refine lv_goto (tgt := 74) hx hb dX13_channel_70 (by decide) ?_
                refine lv_istore (lv' := [(5, .int (nI 1)), (0, .ref mm), (1, .int k), (2, .int a), (3, .int b), (4, .int c9)]) hx hb dX13_channel_74 hl (by decide) rfl (fun ls hl => ?_)
                refine lv_aload_n hx hb dX13_channel_76 rfl (lv_at hl 1 rfl) ?_
                refine lv_iload_n hx hb dX13_channel_77 rfl (lv_at hl 2 rfl) ?_
                refine lv_iconst (v := nI 0) hx hb dX13_channel_78 (by decide) ?_
                refine lv_iconst (v := nI 3) hx hb dX13_channel_79 (by decide) ?_
                refine p_calli (va_runS (As := [.int k, .int (nI 0), .int (nI 3)]) (rest := [.ref mm]) C.fix (e_X13_isIn l D cy S H.size k (nI 0) (nI 3) k.toInt ((0 : Nat) : Int) ((3 : Nat) : Int)  rfl (nI_toInt (by first | decide | omega)) (nI_toInt (by first | decide | omega))) (va_cwS 3 C.2.2.2.2.1 (gU_S mw_394 mw_395 mw_5 (subU mw_396)) rfl rfl rfl hde_X13_channel_S_0 ⟨Nat.le_of_ble_eq_true rfl, Nat.le_of_ble_eq_true rfl⟩) (p_preS C hw) rfl rfl hl.1 rfl (lv_room (Nat.le_of_ble_eq_true rfl)) dX13_channel_80 ⟨(Nat.le_of_ble_eq_true rfl), (Nat.le_of_ble_eq_true rfl)⟩) hw hA (fun r313 S312 H locs hpost hw => ?_)
                rcases hpost with hpost | hpost
                · skip
                  obtain ⟨hc314, hr_, hS_⟩ := hpost
                  subst hr_
                  subst hS_
                  refine n_if_eq (tgt := 91) hx hb (by first | decide | omega) dX13_channel_83 (by decide) (fun h_83 => ?_) (fun h_83 => ?_)
                  · exact absurd h_83 (by first | decide | omega)
                  · skip
                    refine lv_iload hx hb dX13_channel_86 (lv_at hl 0 rfl) ?_
                    refine n_if_eq (tgt := 95) hx hb (by first | decide | omega) dX13_channel_88 (by decide) (fun h_88 => ?_) (fun h_88 => ?_)
                    · exact absurd h_88 (by first | decide | omega)
                    · skip
                      refine lv_iconst (v := nI 1) hx hb dX13_channel_91 (by decide) ?_
                      refine lv_goto (tgt := 96) hx hb dX13_channel_92 (by decide) ?_
                      refine lv_iconst (v := nI 1) hx hb dX13_channel_96 (by decide) ?_
                      refine p_calli (va_runV (As := [.int (nI 1), .int (nI 1)]) (rest := []) C.fix (e_X13_start1 l D cy S H.size mm me sg cn im 1 0 hL_mm hf_mm (by first | assumption | decide | omega) (by first | assumption | decide | omega)) (cwV 2 C.2.2.2.2.1 (gU_V mw_397 mw_398 mw_399 mw_5 (subU mw_400)) rfl rfl rfl hde_X13_channel_V_1 ⟨Nat.le_of_ble_eq_true rfl, Nat.le_of_ble_eq_true rfl⟩) (p_preV C hw hL_mm hf_mm rfl) rfl rfl hl.1 rfl (lv_room (Nat.le_of_ble_eq_true rfl)) dX13_channel_97 ⟨(Nat.le_of_ble_eq_true rfl), (Nat.le_of_ble_eq_true rfl)⟩) hw hA (fun r316 S315 H locs hpost hw => ?_)
                      obtain ⟨hr_, hS317, hfr318, hf319⟩ := hpost
                      subst hr_
                      have hL320 : mm ∈ S315.1 := by rw [hS317]; exact List.mem_append_left _ hL_mm
                      refine n_if_eq (tgt := 105) hx hb (by first | decide | omega) dX13_channel_100 (by decide) (fun h_100 => ?_) (fun h_100 => ?_)
                      · exact absurd h_100 (by first | decide | omega)
                      · skip
                        refine lv_iconst (v := nI 0) hx hb dX13_channel_103 (by decide) ?_
                        refine W.widen (k := 1) (n := 4) (Nat.le_of_ble_eq_true rfl) (Nat.le_of_ble_eq_true rfl) ?_
                        exact (p_iret C hw ((Or.inr ⟨[], (by unfold okC; omega), rfl, (by simp only [hS317, pup, pnew, List.append_nil, List.append_assoc, List.cons_append, List.nil_append]), (fun a_ ha_ hn_0 => (hfr318 a_ ha_ hn_0)), hf319⟩)) hr hlocks dX13_channel_104)
                · skip
                  obtain ⟨hc321, hr_, hS_⟩ := hpost
                  subst hr_
                  subst hS_
                  refine n_if_eq (tgt := 91) hx hb (by first | decide | omega) dX13_channel_83 (by decide) (fun h_83 => ?_) (fun h_83 => ?_)
                  · skip
                    refine lv_iconst (v := nI 1) hx hb dX13_channel_91 (by decide) ?_
                    refine lv_goto (tgt := 96) hx hb dX13_channel_92 (by decide) ?_
                    refine lv_iconst (v := nI 1) hx hb dX13_channel_96 (by decide) ?_
                    refine p_calli (va_runV (As := [.int (nI 1), .int (nI 1)]) (rest := []) C.fix (e_X13_start1 l D cy S H.size mm me sg cn im 1 0 hL_mm hf_mm (by first | assumption | decide | omega) (by first | assumption | decide | omega)) (cwV 2 C.2.2.2.2.1 (gU_V mw_397 mw_398 mw_399 mw_5 (subU mw_400)) rfl rfl rfl hde_X13_channel_V_1 ⟨Nat.le_of_ble_eq_true rfl, Nat.le_of_ble_eq_true rfl⟩) (p_preV C hw hL_mm hf_mm rfl) rfl rfl hl.1 rfl (lv_room (Nat.le_of_ble_eq_true rfl)) dX13_channel_97 ⟨(Nat.le_of_ble_eq_true rfl), (Nat.le_of_ble_eq_true rfl)⟩) hw hA (fun r323 S322 H locs hpost hw => ?_)
                    obtain ⟨hr_, hS324, hfr325, hf326⟩ := hpost
                    subst hr_
                    have hL327 : mm ∈ S322.1 := by rw [hS324]; exact List.mem_append_left _ hL_mm
                    refine n_if_eq (tgt := 105) hx hb (by first | decide | omega) dX13_channel_100 (by decide) (fun h_100 => ?_) (fun h_100 => ?_)
                    · exact absurd h_100 (by first | decide | omega)
                    · skip
                      refine lv_iconst (v := nI 0) hx hb dX13_channel_103 (by decide) ?_
                      refine W.widen (k := 1) (n := 4) (Nat.le_of_ble_eq_true rfl) (Nat.le_of_ble_eq_true rfl) ?_
                      exact (p_iret C hw ((Or.inr ⟨[], (by unfold okC; omega), rfl, (by simp only [hS324, pup, pnew, List.append_nil, List.append_assoc, List.cons_append, List.nil_append]), (fun a_ ha_ hn_0 => (hfr325 a_ ha_ hn_0)), hf326⟩)) hr hlocks dX13_channel_104)
                  · exact absurd h_83 (by first | decide | omega)
              · exact absurd h_54 (by first | decide | omega)
        · skip
          obtain ⟨hc328, hr_, hS_⟩ := hpost
          subst hr_
          subst hS_
          refine n_if_eq (tgt := 69) hx hb (by first | decide | omega) dX13_channel_44 (by decide) (fun h_44 => ?_) (fun h_44 => ?_)
          · skip
            refine lv_iconst (v := nI 1) hx hb dX13_channel_69 (by decide) ?_
            refine lv_goto (tgt := 74) hx hb dX13_channel_70 (by decide) ?_
            refine lv_istore (lv' := [(5, .int (nI 1)), (0, .ref mm), (1, .int k), (2, .int a), (3, .int b), (4, .int c9)]) hx hb dX13_channel_74 hl (by decide) rfl (fun ls hl => ?_)
            refine lv_aload_n hx hb dX13_channel_76 rfl (lv_at hl 1 rfl) ?_
            refine lv_iload_n hx hb dX13_channel_77 rfl (lv_at hl 2 rfl) ?_
            refine lv_iconst (v := nI 0) hx hb dX13_channel_78 (by decide) ?_
            refine lv_iconst (v := nI 3) hx hb dX13_channel_79 (by decide) ?_
            refine p_calli (va_runS (As := [.int k, .int (nI 0), .int (nI 3)]) (rest := [.ref mm]) C.fix (e_X13_isIn l D cy S H.size k (nI 0) (nI 3) k.toInt ((0 : Nat) : Int) ((3 : Nat) : Int)  rfl (nI_toInt (by first | decide | omega)) (nI_toInt (by first | decide | omega))) (va_cwS 3 C.2.2.2.2.1 (gU_S mw_394 mw_395 mw_5 (subU mw_396)) rfl rfl rfl hde_X13_channel_S_0 ⟨Nat.le_of_ble_eq_true rfl, Nat.le_of_ble_eq_true rfl⟩) (p_preS C hw) rfl rfl hl.1 rfl (lv_room (Nat.le_of_ble_eq_true rfl)) dX13_channel_80 ⟨(Nat.le_of_ble_eq_true rfl), (Nat.le_of_ble_eq_true rfl)⟩) hw hA (fun r330 S329 H locs hpost hw => ?_)
            rcases hpost with hpost | hpost
            · skip
              obtain ⟨hc331, hr_, hS_⟩ := hpost
              subst hr_
              subst hS_
              refine n_if_eq (tgt := 91) hx hb (by first | decide | omega) dX13_channel_83 (by decide) (fun h_83 => ?_) (fun h_83 => ?_)
              · exact absurd h_83 (by first | decide | omega)
              · skip
                refine lv_iload hx hb dX13_channel_86 (lv_at hl 0 rfl) ?_
                refine n_if_eq (tgt := 95) hx hb (by first | decide | omega) dX13_channel_88 (by decide) (fun h_88 => ?_) (fun h_88 => ?_)
                · exact absurd h_88 (by first | decide | omega)
                · skip
                  refine lv_iconst (v := nI 1) hx hb dX13_channel_91 (by decide) ?_
                  refine lv_goto (tgt := 96) hx hb dX13_channel_92 (by decide) ?_
                  refine lv_iconst (v := nI 1) hx hb dX13_channel_96 (by decide) ?_
                  refine p_calli (va_runV (As := [.int (nI 1), .int (nI 1)]) (rest := []) C.fix (e_X13_start1 l D cy S H.size mm me sg cn im 1 0 hL_mm hf_mm (by first | assumption | decide | omega) (by first | assumption | decide | omega)) (cwV 2 C.2.2.2.2.1 (gU_V mw_397 mw_398 mw_399 mw_5 (subU mw_400)) rfl rfl rfl hde_X13_channel_V_1 ⟨Nat.le_of_ble_eq_true rfl, Nat.le_of_ble_eq_true rfl⟩) (p_preV C hw hL_mm hf_mm rfl) rfl rfl hl.1 rfl (lv_room (Nat.le_of_ble_eq_true rfl)) dX13_channel_97 ⟨(Nat.le_of_ble_eq_true rfl), (Nat.le_of_ble_eq_true rfl)⟩) hw hA (fun r333 S332 H locs hpost hw => ?_)
                  obtain ⟨hr_, hS334, hfr335, hf336⟩ := hpost
                  subst hr_
                  have hL337 : mm ∈ S332.1 := by rw [hS334]; exact List.mem_append_left _ hL_mm
                  refine n_if_eq (tgt := 105) hx hb (by first | decide | omega) dX13_channel_100 (by decide) (fun h_100 => ?_) (fun h_100 => ?_)
                  · exact absurd h_100 (by first | decide | omega)
                  · skip
                    refine lv_iconst (v := nI 0) hx hb dX13_channel_103 (by decide) ?_
                    refine W.widen (k := 1) (n := 4) (Nat.le_of_ble_eq_true rfl) (Nat.le_of_ble_eq_true rfl) ?_
                    exact (p_iret C hw ((Or.inr ⟨[], (by unfold okC; omega), rfl, (by simp only [hS334, pup, pnew, List.append_nil, List.append_assoc, List.cons_append, List.nil_append]), (fun a_ ha_ hn_0 => (hfr335 a_ ha_ hn_0)), hf336⟩)) hr hlocks dX13_channel_104)
            · skip
              obtain ⟨hc338, hr_, hS_⟩ := hpost
              subst hr_
              subst hS_
              refine n_if_eq (tgt := 91) hx hb (by first | decide | omega) dX13_channel_83 (by decide) (fun h_83 => ?_) (fun h_83 => ?_)
              · skip
                refine lv_iconst (v := nI 1) hx hb dX13_channel_91 (by decide) ?_
                refine lv_goto (tgt := 96) hx hb dX13_channel_92 (by decide) ?_
                refine lv_iconst (v := nI 1) hx hb dX13_channel_96 (by decide) ?_
                refine p_calli (va_runV (As := [.int (nI 1), .int (nI 1)]) (rest := []) C.fix (e_X13_start1 l D cy S H.size mm me sg cn im 1 0 hL_mm hf_mm (by first | assumption | decide | omega) (by first | assumption | decide | omega)) (cwV 2 C.2.2.2.2.1 (gU_V mw_397 mw_398 mw_399 mw_5 (subU mw_400)) rfl rfl rfl hde_X13_channel_V_1 ⟨Nat.le_of_ble_eq_true rfl, Nat.le_of_ble_eq_true rfl⟩) (p_preV C hw hL_mm hf_mm rfl) rfl rfl hl.1 rfl (lv_room (Nat.le_of_ble_eq_true rfl)) dX13_channel_97 ⟨(Nat.le_of_ble_eq_true rfl), (Nat.le_of_ble_eq_true rfl)⟩) hw hA (fun r340 S339 H locs hpost hw => ?_)
                obtain ⟨hr_, hS341, hfr342, hf343⟩ := hpost
                subst hr_
                have hL344 : mm ∈ S339.1 := by rw [hS341]; exact List.mem_append_left _ hL_mm
                refine n_if_eq (tgt := 105) hx hb (by first | decide | omega) dX13_channel_100 (by decide) (fun h_100 => ?_) (fun h_100 => ?_)
                · exact absurd h_100 (by first | decide | omega)
                · skip
                  refine lv_iconst (v := nI 0) hx hb dX13_channel_103 (by decide) ?_
                  refine W.widen (k := 1) (n := 4) (Nat.le_of_ble_eq_true rfl) (Nat.le_of_ble_eq_true rfl) ?_
                  exact (p_iret C hw ((Or.inr ⟨[], (by unfold okC; omega), rfl, (by simp only [hS341, pup, pnew, List.append_nil, List.append_assoc, List.cons_append, List.nil_append]), (fun a_ ha_ hn_0 => (hfr342 a_ ha_ hn_0)), hf343⟩)) hr hlocks dX13_channel_104)
              · exact absurd h_83 (by first | decide | omega)
          · exact absurd h_44 (by first | decide | omega)
    · skip
      refine lv_iload_n hx hb dX13_channel_10 rfl (lv_at hl 2 rfl) ?_
      refine lv_iconst (v := nI 0) hx hb dX13_channel_11 (by decide) ?_
      refine lv_sipush (v := nI 1000) hx hb dX13_channel_12 (by decide) ?_
      refine p_calli (va_runS (As := [.int a, .int (nI 0), .int (nI 1000)]) (rest := []) C.fix (e_X13_isIn l D cy S s.heap.size a (nI 0) (nI 1000) a.toInt ((0 : Nat) : Int) ((1000 : Nat) : Int)  rfl (nI_toInt (by first | decide | omega)) (nI_toInt (by first | decide | omega))) (va_cwS 3 C.2.2.2.2.1 (gU_S mw_394 mw_395 mw_5 (subU mw_396)) rfl rfl rfl hde_X13_channel_S_0 ⟨Nat.le_of_ble_eq_true rfl, Nat.le_of_ble_eq_true rfl⟩) (p_preS C hw) rfl rfl hl.1 rfl (lv_room (Nat.le_of_ble_eq_true rfl)) dX13_channel_15 ⟨(Nat.le_of_ble_eq_true rfl), (Nat.le_of_ble_eq_true rfl)⟩) hw hA (fun r346 S345 H locs hpost hw => ?_)
      rcases hpost with hpost | hpost
      · skip
        obtain ⟨hc347, hr_, hS_⟩ := hpost
        subst hr_
        subst hS_
        refine n_if_eq (tgt := 69) hx hb (by first | decide | omega) dX13_channel_18 (by decide) (fun h_18 => ?_) (fun h_18 => ?_)
        · exact absurd h_18 (by first | decide | omega)
        · skip
          refine lv_iload_n hx hb dX13_channel_21 rfl (lv_at hl 3 rfl) ?_
          refine lv_iconst (v := nI 0) hx hb dX13_channel_22 (by decide) ?_
          refine lv_ldc (v := nI 1000000) hx hb C.2.2.2.1 (C.2.2.2.2.1 (.constant RX13 137 (1000000)) (mU mw_724)) dX13_channel_23 ?_
          refine p_calli (va_runS (As := [.int b, .int (nI 0), .int (nI 1000000)]) (rest := []) C.fix (e_X13_isIn l D cy S H.size b (nI 0) (nI 1000000) b.toInt ((0 : Nat) : Int) ((1000000 : Nat) : Int)  rfl (nI_toInt (by first | decide | omega)) (nI_toInt (by first | decide | omega))) (va_cwS 3 C.2.2.2.2.1 (gU_S mw_394 mw_395 mw_5 (subU mw_396)) rfl rfl rfl hde_X13_channel_S_0 ⟨Nat.le_of_ble_eq_true rfl, Nat.le_of_ble_eq_true rfl⟩) (p_preS C hw) rfl rfl hl.1 rfl (lv_room (Nat.le_of_ble_eq_true rfl)) dX13_channel_25 ⟨(Nat.le_of_ble_eq_true rfl), (Nat.le_of_ble_eq_true rfl)⟩) hw hA (fun r349 S348 H locs hpost hw => ?_)
          rcases hpost with hpost | hpost
          · skip
            obtain ⟨hc350, hr_, hS_⟩ := hpost
            subst hr_
            subst hS_
            refine n_if_eq (tgt := 69) hx hb (by first | decide | omega) dX13_channel_28 (by decide) (fun h_28 => ?_) (fun h_28 => ?_)
            · exact absurd h_28 (by first | decide | omega)
            · skip
              refine lv_iload_n hx hb dX13_channel_31 rfl (lv_at hl 1 rfl) ?_
              refine lv_iconst (v := nI 2) hx hb dX13_channel_32 (by decide) ?_
              refine z_icmp_ne (tgt := 73) hx hb rfl (nI_toInt (by first | decide | omega)) dX13_channel_33 (by decide) (fun h_33 => ?_) (fun h_33 => ?_)
              · skip
                refine lv_iconst (v := nI 0) hx hb dX13_channel_73 (by decide) ?_
                refine lv_istore (lv' := [(5, .int (nI 0)), (0, .ref mm), (1, .int k), (2, .int a), (3, .int b), (4, .int c9)]) hx hb dX13_channel_74 hl (by decide) rfl (fun ls hl => ?_)
                refine lv_aload_n hx hb dX13_channel_76 rfl (lv_at hl 1 rfl) ?_
                refine lv_iload_n hx hb dX13_channel_77 rfl (lv_at hl 2 rfl) ?_
                refine lv_iconst (v := nI 0) hx hb dX13_channel_78 (by decide) ?_
                refine lv_iconst (v := nI 3) hx hb dX13_channel_79 (by decide) ?_
                refine p_calli (va_runS (As := [.int k, .int (nI 0), .int (nI 3)]) (rest := [.ref mm]) C.fix (e_X13_isIn l D cy S H.size k (nI 0) (nI 3) k.toInt ((0 : Nat) : Int) ((3 : Nat) : Int)  rfl (nI_toInt (by first | decide | omega)) (nI_toInt (by first | decide | omega))) (va_cwS 3 C.2.2.2.2.1 (gU_S mw_394 mw_395 mw_5 (subU mw_396)) rfl rfl rfl hde_X13_channel_S_0 ⟨Nat.le_of_ble_eq_true rfl, Nat.le_of_ble_eq_true rfl⟩) (p_preS C hw) rfl rfl hl.1 rfl (lv_room (Nat.le_of_ble_eq_true rfl)) dX13_channel_80 ⟨(Nat.le_of_ble_eq_true rfl), (Nat.le_of_ble_eq_true rfl)⟩) hw hA (fun r352 S351 H locs hpost hw => ?_)
                rcases hpost with hpost | hpost
                · skip
                  obtain ⟨hc353, hr_, hS_⟩ := hpost
                  subst hr_
                  subst hS_
                  refine n_if_eq (tgt := 91) hx hb (by first | decide | omega) dX13_channel_83 (by decide) (fun h_83 => ?_) (fun h_83 => ?_)
                  · exact absurd h_83 (by first | decide | omega)
                  · skip
                    refine lv_iload hx hb dX13_channel_86 (lv_at hl 0 rfl) ?_
                    refine n_if_eq (tgt := 95) hx hb (by first | decide | omega) dX13_channel_88 (by decide) (fun h_88 => ?_) (fun h_88 => ?_)
                    · skip
                      refine lv_iconst (v := nI 0) hx hb dX13_channel_95 (by decide) ?_
                      refine lv_iconst (v := nI 1) hx hb dX13_channel_96 (by decide) ?_
                      refine p_calli (va_runV (As := [.int (nI 0), .int (nI 1)]) (rest := []) C.fix (e_X13_start0 l D cy S H.size mm me sg cn im 1 0 hL_mm hf_mm ) (cwV 2 C.2.2.2.2.1 (gU_V mw_397 mw_398 mw_399 mw_5 (subU mw_400)) rfl rfl rfl hde_X13_channel_V_1 ⟨Nat.le_of_ble_eq_true rfl, Nat.le_of_ble_eq_true rfl⟩) (p_preV C hw hL_mm hf_mm rfl) rfl rfl hl.1 rfl (lv_room (Nat.le_of_ble_eq_true rfl)) dX13_channel_97 ⟨(Nat.le_of_ble_eq_true rfl), (Nat.le_of_ble_eq_true rfl)⟩) hw hA (fun r355 S354 H locs hpost hw => ?_)
                      obtain ⟨hr_, hS356, hfr357, hf358⟩ := hpost
                      subst hr_
                      have hL359 : mm ∈ S354.1 := by rw [hS356]; exact List.mem_append_left _ hL_mm
                      refine n_if_eq (tgt := 105) hx hb (by first | decide | omega) dX13_channel_100 (by decide) (fun h_100 => ?_) (fun h_100 => ?_)
                      · skip
                        refine lv_aload_n hx hb dX13_channel_105 rfl (lv_at hl 1 rfl) ?_
                        refine p_get C hw (ci := 13) (Cn := RX13) (T := TX13) (N := 5) hL359 hf358 rfl hin_RX13 3 (by decide) (mU mw_91) rfl rfl dX13_channel_106 ?_
                        refine lv_iconst (v := nI 0) hx hb dX13_channel_109 (by decide) ?_
                        have hL360 : cn ∈ S354.1 := by rw [hS356]; exact List.mem_append_left _ hL_cn
                        have hf361 : S354.2 cn = .inl (cy 0, 4, .inl (upd (upd (upd (upd (fun _ => 0) 0 (nI 0)) 1 (nI 0)) 2 (nI 0)) 3 (nI 1))) := (hfr357 cn hL_cn (ne_cells hf_cn hf_mm (by nofun))).trans hf_cn
                        refine p_ald C hw 0 rfl hL360 hf361 (by first | decide | omega) (by first | decide | omega) dX13_channel_110 ?_
                        refine x_ren (b := nI 0) rfl ?_
                        refine lv_istore (lv' := [(6, .int (nI 0)), (5, .int (nI 0)), (0, .ref mm), (1, .int k), (2, .int a), (3, .int b), (4, .int c9)]) hx hb dX13_channel_111 hl (by decide) rfl (fun ls hl => ?_)
                        refine lv_aload_n hx hb dX13_channel_113 rfl (lv_at hl 2 rfl) ?_
                        refine lv_iconst (v := nI 4) hx hb dX13_channel_114 (by decide) ?_
                        refine p_newa C hw hA (mU mw_59) 0 rfl (n := 4) (by first | decide | omega) (Nat.le_of_ble_eq_true rfl) (Nat.le_of_ble_eq_true rfl) dX13_channel_115 (fun w9 H hq_w9 hw => ?_)
                        obtain ⟨S362, hS362⟩ : ∃ z, z = pnew S354 w9 (.inl (cy 0, 4, .inl (fun _ => 0))) := ⟨_, rfl⟩
                        replace hw : pW D (pA S s.heap.size) s.heap S362 H locs := by rw [hS362]; exact hw
                        have hL363 : w9 ∈ S362.1 := by rw [hS362]; exact List.mem_append_right _ List.mem_cons_self
                        have hf364 : S362.2 w9 = .inl (cy 0, 4, .inl (fun _ => 0)) := by rw [hS362]; exact pnew_s
                        refine lv_dup hx hb dX13_channel_117 rfl ?_
                        refine lv_iconst (v := nI 0) hx hb dX13_channel_118 (by decide) ?_
                        refine lv_iload_n hx hb dX13_channel_119 rfl (lv_at hl 3 rfl) ?_
                        refine p_ast C hw 0 rfl hL363 hf364 (by first | decide | omega) (by first | decide | omega) dX13_channel_120 (fun H locs hw => ?_)
                        obtain ⟨S365, hS365⟩ : ∃ z, z = pup S362 w9 (.inl (cy 0, 4, .inl (upd (fun _ => 0) 0 k))) := ⟨_, rfl⟩
                        replace hw : pW D (pA S s.heap.size) s.heap S365 H locs := by rw [hS365]; exact hw
                        have hL366 : w9 ∈ S365.1 := by rw [hS365]; exact hL363
                        have hf367 : S365.2 w9 = .inl (cy 0, 4, .inl (upd (fun _ => 0) 0 k)) := by rw [hS365]; exact pup_s
                        refine lv_dup hx hb dX13_channel_121 rfl ?_
                        refine lv_iconst (v := nI 1) hx hb dX13_channel_122 (by decide) ?_
                        refine lv_iload_n hx hb dX13_channel_123 rfl (lv_at hl 4 rfl) ?_
                        refine p_ast C hw 0 rfl hL366 hf367 (by first | decide | omega) (by first | decide | omega) dX13_channel_124 (fun H locs hw => ?_)
                        obtain ⟨S368, hS368⟩ : ∃ z, z = pup S365 w9 (.inl (cy 0, 4, .inl (upd (upd (fun _ => 0) 0 k) 1 a))) := ⟨_, rfl⟩
                        replace hw : pW D (pA S s.heap.size) s.heap S368 H locs := by rw [hS368]; exact hw
                        have hL369 : w9 ∈ S368.1 := by rw [hS368]; exact hL366
                        have hf370 : S368.2 w9 = .inl (cy 0, 4, .inl (upd (upd (fun _ => 0) 0 k) 1 a)) := by rw [hS368]; exact pup_s
                        refine lv_dup hx hb dX13_channel_125 rfl ?_
                        refine lv_iconst (v := nI 2) hx hb dX13_channel_126 (by decide) ?_
                        refine lv_iload_n hx hb dX13_channel_127 rfl (lv_at hl 5 rfl) ?_
                        refine p_ast C hw 0 rfl hL369 hf370 (by first | decide | omega) (by first | decide | omega) dX13_channel_128 (fun H locs hw => ?_)
                        obtain ⟨S371, hS371⟩ : ∃ z, z = pup S368 w9 (.inl (cy 0, 4, .inl (upd (upd (upd (fun _ => 0) 0 k) 1 a) 2 b))) := ⟨_, rfl⟩
                        replace hw : pW D (pA S s.heap.size) s.heap S371 H locs := by rw [hS371]; exact hw
                        have hL372 : w9 ∈ S371.1 := by rw [hS371]; exact hL369
                        have hf373 : S371.2 w9 = .inl (cy 0, 4, .inl (upd (upd (upd (fun _ => 0) 0 k) 1 a) 2 b)) := by rw [hS371]; exact pup_s
                        refine lv_dup hx hb dX13_channel_129 rfl ?_
                        refine lv_iconst (v := nI 3) hx hb dX13_channel_130 (by decide) ?_
                        refine lv_iload hx hb dX13_channel_131 (lv_at hl 6 rfl) ?_
                        refine p_ast C hw 0 rfl hL372 hf373 (by first | decide | omega) (by first | decide | omega) dX13_channel_133 (fun H locs hw => ?_)
                        obtain ⟨S374, hS374⟩ : ∃ z, z = pup S371 w9 (.inl (cy 0, 4, .inl (upd (upd (upd (upd (fun _ => 0) 0 k) 1 a) 2 b) 3 c9))) := ⟨_, rfl⟩
                        replace hw : pW D (pA S s.heap.size) s.heap S374 H locs := by rw [hS374]; exact hw
                        have hL375 : w9 ∈ S374.1 := by rw [hS374]; exact hL372
                        have hf376 : S374.2 w9 = .inl (cy 0, 4, .inl (upd (upd (upd (upd (fun _ => 0) 0 k) 1 a) 2 b) 3 c9)) := by rw [hS374]; exact pup_s
                        have hL377 : mm ∈ S362.1 := by rw [hS362]; exact List.mem_append_left _ hL359
                        have hf378 : S362.2 mm = .inr (13, [.int (nI 0), .ref me, .ref sg, .ref cn, .ref im]) := by rw [hS362]; exact (pnew_n (fun z : mm = w9 => hq_w9 (by rw [← z]; exact hL359))).trans hf358
                        have hL379 : mm ∈ S365.1 := by rw [hS365]; exact hL377
                        have hf380 : S365.2 mm = .inr (13, [.int (nI 0), .ref me, .ref sg, .ref cn, .ref im]) := by rw [hS365]; exact (pup_n (fun z : mm = w9 => hq_w9 (by rw [← z]; exact hL359))).trans hf378
                        have hL381 : mm ∈ S368.1 := by rw [hS368]; exact hL379
                        have hf382 : S368.2 mm = .inr (13, [.int (nI 0), .ref me, .ref sg, .ref cn, .ref im]) := by rw [hS368]; exact (pup_n (fun z : mm = w9 => hq_w9 (by rw [← z]; exact hL359))).trans hf380
                        have hL383 : mm ∈ S371.1 := by rw [hS371]; exact hL381
                        have hf384 : S371.2 mm = .inr (13, [.int (nI 0), .ref me, .ref sg, .ref cn, .ref im]) := by rw [hS371]; exact (pup_n (fun z : mm = w9 => hq_w9 (by rw [← z]; exact hL359))).trans hf382
                        have hL385 : mm ∈ S374.1 := by rw [hS374]; exact hL383
                        have hf386 : S374.2 mm = .inr (13, [.int (nI 0), .ref me, .ref sg, .ref cn, .ref im]) := by rw [hS374]; exact (pup_n (fun z : mm = w9 => hq_w9 (by rw [← z]; exact hL359))).trans hf384
                        refine p_put C hw (ci := 13) (Cn := RX13) (T := TX13) (N := 5) tyX13 tyX13_ok nmX13 hL385 hf386 rfl hin_RX13 3 (by decide) (mU mw_91) rfl rfl rfl rfl rfl (by simp) dX13_channel_134 rfl (fun H locs hw => ?_)
                        obtain ⟨S387, hS387⟩ : ∃ z, z = pup S374 mm (.inr (13, [.int (nI 0), .ref me, .ref sg, .ref w9, .ref im])) := ⟨_, rfl⟩
                        replace hw : pW D (pA S s.heap.size) s.heap S387 H locs := by rw [hS387]; exact hw
                        have hL388 : mm ∈ S387.1 := by rw [hS387]; exact hL385
                        have hf389 : S387.2 mm = .inr (13, [.int (nI 0), .ref me, .ref sg, .ref w9, .ref im]) := by rw [hS387]; exact pup_s
                        refine lv_iload hx hb dX13_channel_137 (lv_at hl 0 rfl) ?_
                        exact (p_iret C hw ((Or.inl ⟨w9, ([w9]), (by unfold okC; omega), rfl, (by simp only [hS387, hS374, hS371, hS368, hS365, hS362, hS356, pup, pnew, List.append_nil, List.append_assoc, List.cons_append, List.nil_append]), (fun a_ ha_ hn_0 => ((show S387.2 a_ = S374.2 a_ from by rw [hS387]; exact pup_n hn_0).trans ((show S374.2 a_ = S371.2 a_ from by rw [hS374]; exact pup_n (fun z : a_ = w9 => hq_w9 (by rw [← z]; exact (show a_ ∈ S354.1 from by rw [hS356]; exact List.mem_append_left _ ha_)))).trans ((show S371.2 a_ = S368.2 a_ from by rw [hS371]; exact pup_n (fun z : a_ = w9 => hq_w9 (by rw [← z]; exact (show a_ ∈ S354.1 from by rw [hS356]; exact List.mem_append_left _ ha_)))).trans ((show S368.2 a_ = S365.2 a_ from by rw [hS368]; exact pup_n (fun z : a_ = w9 => hq_w9 (by rw [← z]; exact (show a_ ∈ S354.1 from by rw [hS356]; exact List.mem_append_left _ ha_)))).trans ((show S365.2 a_ = S362.2 a_ from by rw [hS365]; exact pup_n (fun z : a_ = w9 => hq_w9 (by rw [← z]; exact (show a_ ∈ S354.1 from by rw [hS356]; exact List.mem_append_left _ ha_)))).trans ((show S362.2 a_ = S354.2 a_ from by rw [hS362]; exact pnew_n (fun z : a_ = w9 => hq_w9 (by rw [← z]; exact (show a_ ∈ S354.1 from by rw [hS356]; exact List.mem_append_left _ ha_)))).trans (hfr357 a_ ha_ hn_0)))))))), hf389⟩)) hr hlocks dX13_channel_139)
                      · exact absurd h_100 (by first | decide | omega)
                    · exact absurd h_88 (by first | decide | omega)
                · skip
                  obtain ⟨hc390, hr_, hS_⟩ := hpost
                  subst hr_
                  subst hS_
                  refine n_if_eq (tgt := 91) hx hb (by first | decide | omega) dX13_channel_83 (by decide) (fun h_83 => ?_) (fun h_83 => ?_)
                  · skip
                    refine lv_iconst (v := nI 1) hx hb dX13_channel_91 (by decide) ?_
                    refine lv_goto (tgt := 96) hx hb dX13_channel_92 (by decide) ?_
                    refine lv_iconst (v := nI 1) hx hb dX13_channel_96 (by decide) ?_
                    refine p_calli (va_runV (As := [.int (nI 1), .int (nI 1)]) (rest := []) C.fix (e_X13_start1 l D cy S H.size mm me sg cn im 1 0 hL_mm hf_mm (by first | assumption | decide | omega) (by first | assumption | decide | omega)) (cwV 2 C.2.2.2.2.1 (gU_V mw_397 mw_398 mw_399 mw_5 (subU mw_400)) rfl rfl rfl hde_X13_channel_V_1 ⟨Nat.le_of_ble_eq_true rfl, Nat.le_of_ble_eq_true rfl⟩) (p_preV C hw hL_mm hf_mm rfl) rfl rfl hl.1 rfl (lv_room (Nat.le_of_ble_eq_true rfl)) dX13_channel_97 ⟨(Nat.le_of_ble_eq_true rfl), (Nat.le_of_ble_eq_true rfl)⟩) hw hA (fun r392 S391 H locs hpost hw => ?_)
                    obtain ⟨hr_, hS393, hfr394, hf395⟩ := hpost
                    subst hr_
                    have hL396 : mm ∈ S391.1 := by rw [hS393]; exact List.mem_append_left _ hL_mm
                    refine n_if_eq (tgt := 105) hx hb (by first | decide | omega) dX13_channel_100 (by decide) (fun h_100 => ?_) (fun h_100 => ?_)
                    · exact absurd h_100 (by first | decide | omega)
                    · skip
                      refine lv_iconst (v := nI 0) hx hb dX13_channel_103 (by decide) ?_
                      refine W.widen (k := 1) (n := 4) (Nat.le_of_ble_eq_true rfl) (Nat.le_of_ble_eq_true rfl) ?_
                      exact (p_iret C hw ((Or.inr ⟨[], (by unfold okC; omega), rfl, (by simp only [hS393, pup, pnew, List.append_nil, List.append_assoc, List.cons_append, List.nil_append]), (fun a_ ha_ hn_0 => (hfr394 a_ ha_ hn_0)), hf395⟩)) hr hlocks dX13_channel_104)
                  · exact absurd h_83 (by first | decide | omega)
              · skip
                refine lv_iload_n hx hb dX13_channel_36 rfl (lv_at hl 2 rfl) ?_
                refine lv_iconst (v := nI 0) hx hb dX13_channel_37 (by decide) ?_
                refine lv_sipush (v := nI 320) hx hb dX13_channel_38 (by decide) ?_
                refine p_calli (va_runS (As := [.int a, .int (nI 0), .int (nI 320)]) (rest := []) C.fix (e_X13_isIn l D cy S H.size a (nI 0) (nI 320) a.toInt ((0 : Nat) : Int) ((320 : Nat) : Int)  rfl (nI_toInt (by first | decide | omega)) (nI_toInt (by first | decide | omega))) (va_cwS 3 C.2.2.2.2.1 (gU_S mw_394 mw_395 mw_5 (subU mw_396)) rfl rfl rfl hde_X13_channel_S_0 ⟨Nat.le_of_ble_eq_true rfl, Nat.le_of_ble_eq_true rfl⟩) (p_preS C hw) rfl rfl hl.1 rfl (lv_room (Nat.le_of_ble_eq_true rfl)) dX13_channel_41 ⟨(Nat.le_of_ble_eq_true rfl), (Nat.le_of_ble_eq_true rfl)⟩) hw hA (fun r398 S397 H locs hpost hw => ?_)
                rcases hpost with hpost | hpost
                · skip
                  obtain ⟨hc399, hr_, hS_⟩ := hpost
                  subst hr_
                  subst hS_
                  refine n_if_eq (tgt := 69) hx hb (by first | decide | omega) dX13_channel_44 (by decide) (fun h_44 => ?_) (fun h_44 => ?_)
                  · exact absurd h_44 (by first | decide | omega)
                  · skip
                    refine lv_iload_n hx hb dX13_channel_47 rfl (lv_at hl 3 rfl) ?_
                    refine lv_iconst (v := nI 1) hx hb dX13_channel_48 (by decide) ?_
                    refine lv_bipush (v := nI 50) hx hb dX13_channel_49 (by decide) ?_
                    refine p_calli (va_runS (As := [.int b, .int (nI 1), .int (nI 50)]) (rest := []) C.fix (e_X13_isIn l D cy S H.size b (nI 1) (nI 50) b.toInt ((1 : Nat) : Int) ((50 : Nat) : Int)  rfl (nI_toInt (by first | decide | omega)) (nI_toInt (by first | decide | omega))) (va_cwS 3 C.2.2.2.2.1 (gU_S mw_394 mw_395 mw_5 (subU mw_396)) rfl rfl rfl hde_X13_channel_S_0 ⟨Nat.le_of_ble_eq_true rfl, Nat.le_of_ble_eq_true rfl⟩) (p_preS C hw) rfl rfl hl.1 rfl (lv_room (Nat.le_of_ble_eq_true rfl)) dX13_channel_51 ⟨(Nat.le_of_ble_eq_true rfl), (Nat.le_of_ble_eq_true rfl)⟩) hw hA (fun r401 S400 H locs hpost hw => ?_)
                    rcases hpost with hpost | hpost
                    · skip
                      obtain ⟨hc402, hr_, hS_⟩ := hpost
                      subst hr_
                      subst hS_
                      refine n_if_eq (tgt := 69) hx hb (by first | decide | omega) dX13_channel_54 (by decide) (fun h_54 => ?_) (fun h_54 => ?_)
                      · exact absurd h_54 (by first | decide | omega)
                      · skip
                        refine lv_iload hx hb dX13_channel_57 (lv_at hl 4 rfl) ?_
                        refine lv_iload_n hx hb dX13_channel_59 rfl (lv_at hl 3 rfl) ?_
                        refine lv_sipush (v := nI 320) hx hb dX13_channel_60 (by decide) ?_
                        refine p_calli (va_runS (As := [.int c9, .int b, .int (nI 320)]) (rest := []) C.fix (e_X13_isIn l D cy S H.size c9 b (nI 320) c9.toInt b.toInt ((320 : Nat) : Int)  rfl rfl (nI_toInt (by first | decide | omega))) (va_cwS 3 C.2.2.2.2.1 (gU_S mw_394 mw_395 mw_5 (subU mw_396)) rfl rfl rfl hde_X13_channel_S_0 ⟨Nat.le_of_ble_eq_true rfl, Nat.le_of_ble_eq_true rfl⟩) (p_preS C hw) rfl rfl hl.1 rfl (lv_room (Nat.le_of_ble_eq_true rfl)) dX13_channel_63 ⟨(Nat.le_of_ble_eq_true rfl), (Nat.le_of_ble_eq_true rfl)⟩) hw hA (fun r404 S403 H locs hpost hw => ?_)
                        rcases hpost with hpost | hpost
                        · skip
                          obtain ⟨hc405, hr_, hS_⟩ := hpost
                          subst hr_
                          subst hS_
                          refine n_if_ne (tgt := 73) hx hb (by first | decide | omega) dX13_channel_66 (by decide) (fun h_66 => ?_) (fun h_66 => ?_)
                          · skip
                            refine lv_iconst (v := nI 0) hx hb dX13_channel_73 (by decide) ?_
                            refine lv_istore (lv' := [(5, .int (nI 0)), (0, .ref mm), (1, .int k), (2, .int a), (3, .int b), (4, .int c9)]) hx hb dX13_channel_74 hl (by decide) rfl (fun ls hl => ?_)
                            refine lv_aload_n hx hb dX13_channel_76 rfl (lv_at hl 1 rfl) ?_
                            refine lv_iload_n hx hb dX13_channel_77 rfl (lv_at hl 2 rfl) ?_
                            refine lv_iconst (v := nI 0) hx hb dX13_channel_78 (by decide) ?_
                            refine lv_iconst (v := nI 3) hx hb dX13_channel_79 (by decide) ?_
                            refine p_calli (va_runS (As := [.int k, .int (nI 0), .int (nI 3)]) (rest := [.ref mm]) C.fix (e_X13_isIn l D cy S H.size k (nI 0) (nI 3) k.toInt ((0 : Nat) : Int) ((3 : Nat) : Int)  rfl (nI_toInt (by first | decide | omega)) (nI_toInt (by first | decide | omega))) (va_cwS 3 C.2.2.2.2.1 (gU_S mw_394 mw_395 mw_5 (subU mw_396)) rfl rfl rfl hde_X13_channel_S_0 ⟨Nat.le_of_ble_eq_true rfl, Nat.le_of_ble_eq_true rfl⟩) (p_preS C hw) rfl rfl hl.1 rfl (lv_room (Nat.le_of_ble_eq_true rfl)) dX13_channel_80 ⟨(Nat.le_of_ble_eq_true rfl), (Nat.le_of_ble_eq_true rfl)⟩) hw hA (fun r407 S406 H locs hpost hw => ?_)
                            rcases hpost with hpost | hpost
                            · skip
                              obtain ⟨hc408, hr_, hS_⟩ := hpost
                              subst hr_
                              subst hS_
                              refine n_if_eq (tgt := 91) hx hb (by first | decide | omega) dX13_channel_83 (by decide) (fun h_83 => ?_) (fun h_83 => ?_)
                              · exact absurd h_83 (by first | decide | omega)
                              · skip
                                refine lv_iload hx hb dX13_channel_86 (lv_at hl 0 rfl) ?_
                                refine n_if_eq (tgt := 95) hx hb (by first | decide | omega) dX13_channel_88 (by decide) (fun h_88 => ?_) (fun h_88 => ?_)
                                · skip
                                  refine lv_iconst (v := nI 0) hx hb dX13_channel_95 (by decide) ?_
                                  refine lv_iconst (v := nI 1) hx hb dX13_channel_96 (by decide) ?_
                                  refine p_calli (va_runV (As := [.int (nI 0), .int (nI 1)]) (rest := []) C.fix (e_X13_start0 l D cy S H.size mm me sg cn im 1 0 hL_mm hf_mm ) (cwV 2 C.2.2.2.2.1 (gU_V mw_397 mw_398 mw_399 mw_5 (subU mw_400)) rfl rfl rfl hde_X13_channel_V_1 ⟨Nat.le_of_ble_eq_true rfl, Nat.le_of_ble_eq_true rfl⟩) (p_preV C hw hL_mm hf_mm rfl) rfl rfl hl.1 rfl (lv_room (Nat.le_of_ble_eq_true rfl)) dX13_channel_97 ⟨(Nat.le_of_ble_eq_true rfl), (Nat.le_of_ble_eq_true rfl)⟩) hw hA (fun r410 S409 H locs hpost hw => ?_)
                                  obtain ⟨hr_, hS411, hfr412, hf413⟩ := hpost
                                  subst hr_
                                  have hL414 : mm ∈ S409.1 := by rw [hS411]; exact List.mem_append_left _ hL_mm
                                  refine n_if_eq (tgt := 105) hx hb (by first | decide | omega) dX13_channel_100 (by decide) (fun h_100 => ?_) (fun h_100 => ?_)
                                  · skip
                                    refine lv_aload_n hx hb dX13_channel_105 rfl (lv_at hl 1 rfl) ?_
                                    refine p_get C hw (ci := 13) (Cn := RX13) (T := TX13) (N := 5) hL414 hf413 rfl hin_RX13 3 (by decide) (mU mw_91) rfl rfl dX13_channel_106 ?_
                                    refine lv_iconst (v := nI 0) hx hb dX13_channel_109 (by decide) ?_
                                    have hL415 : cn ∈ S409.1 := by rw [hS411]; exact List.mem_append_left _ hL_cn
                                    have hf416 : S409.2 cn = .inl (cy 0, 4, .inl (upd (upd (upd (upd (fun _ => 0) 0 (nI 0)) 1 (nI 0)) 2 (nI 0)) 3 (nI 1))) := (hfr412 cn hL_cn (ne_cells hf_cn hf_mm (by nofun))).trans hf_cn
                                    refine p_ald C hw 0 rfl hL415 hf416 (by first | decide | omega) (by first | decide | omega) dX13_channel_110 ?_
                                    refine x_ren (b := nI 0) rfl ?_
                                    refine lv_istore (lv' := [(6, .int (nI 0)), (5, .int (nI 0)), (0, .ref mm), (1, .int k), (2, .int a), (3, .int b), (4, .int c9)]) hx hb dX13_channel_111 hl (by decide) rfl (fun ls hl => ?_)
                                    refine lv_aload_n hx hb dX13_channel_113 rfl (lv_at hl 2 rfl) ?_
                                    refine lv_iconst (v := nI 4) hx hb dX13_channel_114 (by decide) ?_
                                    refine p_newa C hw hA (mU mw_59) 0 rfl (n := 4) (by first | decide | omega) (Nat.le_of_ble_eq_true rfl) (Nat.le_of_ble_eq_true rfl) dX13_channel_115 (fun w9 H hq_w9 hw => ?_)
                                    obtain ⟨S417, hS417⟩ : ∃ z, z = pnew S409 w9 (.inl (cy 0, 4, .inl (fun _ => 0))) := ⟨_, rfl⟩
                                    replace hw : pW D (pA S s.heap.size) s.heap S417 H locs := by rw [hS417]; exact hw
                                    have hL418 : w9 ∈ S417.1 := by rw [hS417]; exact List.mem_append_right _ List.mem_cons_self
                                    have hf419 : S417.2 w9 = .inl (cy 0, 4, .inl (fun _ => 0)) := by rw [hS417]; exact pnew_s
                                    refine lv_dup hx hb dX13_channel_117 rfl ?_
                                    refine lv_iconst (v := nI 0) hx hb dX13_channel_118 (by decide) ?_
                                    refine lv_iload_n hx hb dX13_channel_119 rfl (lv_at hl 3 rfl) ?_
                                    refine p_ast C hw 0 rfl hL418 hf419 (by first | decide | omega) (by first | decide | omega) dX13_channel_120 (fun H locs hw => ?_)
                                    obtain ⟨S420, hS420⟩ : ∃ z, z = pup S417 w9 (.inl (cy 0, 4, .inl (upd (fun _ => 0) 0 k))) := ⟨_, rfl⟩
                                    replace hw : pW D (pA S s.heap.size) s.heap S420 H locs := by rw [hS420]; exact hw
                                    have hL421 : w9 ∈ S420.1 := by rw [hS420]; exact hL418
                                    have hf422 : S420.2 w9 = .inl (cy 0, 4, .inl (upd (fun _ => 0) 0 k)) := by rw [hS420]; exact pup_s
                                    refine lv_dup hx hb dX13_channel_121 rfl ?_
                                    refine lv_iconst (v := nI 1) hx hb dX13_channel_122 (by decide) ?_
                                    refine lv_iload_n hx hb dX13_channel_123 rfl (lv_at hl 4 rfl) ?_
                                    refine p_ast C hw 0 rfl hL421 hf422 (by first | decide | omega) (by first | decide | omega) dX13_channel_124 (fun H locs hw => ?_)
                                    obtain ⟨S423, hS423⟩ : ∃ z, z = pup S420 w9 (.inl (cy 0, 4, .inl (upd (upd (fun _ => 0) 0 k) 1 a))) := ⟨_, rfl⟩
                                    replace hw : pW D (pA S s.heap.size) s.heap S423 H locs := by rw [hS423]; exact hw
                                    have hL424 : w9 ∈ S423.1 := by rw [hS423]; exact hL421
                                    have hf425 : S423.2 w9 = .inl (cy 0, 4, .inl (upd (upd (fun _ => 0) 0 k) 1 a)) := by rw [hS423]; exact pup_s
                                    refine lv_dup hx hb dX13_channel_125 rfl ?_
                                    refine lv_iconst (v := nI 2) hx hb dX13_channel_126 (by decide) ?_
                                    refine lv_iload_n hx hb dX13_channel_127 rfl (lv_at hl 5 rfl) ?_
                                    refine p_ast C hw 0 rfl hL424 hf425 (by first | decide | omega) (by first | decide | omega) dX13_channel_128 (fun H locs hw => ?_)
                                    obtain ⟨S426, hS426⟩ : ∃ z, z = pup S423 w9 (.inl (cy 0, 4, .inl (upd (upd (upd (fun _ => 0) 0 k) 1 a) 2 b))) := ⟨_, rfl⟩
                                    replace hw : pW D (pA S s.heap.size) s.heap S426 H locs := by rw [hS426]; exact hw
                                    have hL427 : w9 ∈ S426.1 := by rw [hS426]; exact hL424
                                    have hf428 : S426.2 w9 = .inl (cy 0, 4, .inl (upd (upd (upd (fun _ => 0) 0 k) 1 a) 2 b)) := by rw [hS426]; exact pup_s
                                    refine lv_dup hx hb dX13_channel_129 rfl ?_
                                    refine lv_iconst (v := nI 3) hx hb dX13_channel_130 (by decide) ?_
                                    refine lv_iload hx hb dX13_channel_131 (lv_at hl 6 rfl) ?_
                                    refine p_ast C hw 0 rfl hL427 hf428 (by first | decide | omega) (by first | decide | omega) dX13_channel_133 (fun H locs hw => ?_)
                                    obtain ⟨S429, hS429⟩ : ∃ z, z = pup S426 w9 (.inl (cy 0, 4, .inl (upd (upd (upd (upd (fun _ => 0) 0 k) 1 a) 2 b) 3 c9))) := ⟨_, rfl⟩
                                    replace hw : pW D (pA S s.heap.size) s.heap S429 H locs := by rw [hS429]; exact hw
                                    have hL430 : w9 ∈ S429.1 := by rw [hS429]; exact hL427
                                    have hf431 : S429.2 w9 = .inl (cy 0, 4, .inl (upd (upd (upd (upd (fun _ => 0) 0 k) 1 a) 2 b) 3 c9)) := by rw [hS429]; exact pup_s
                                    have hL432 : mm ∈ S417.1 := by rw [hS417]; exact List.mem_append_left _ hL414
                                    have hf433 : S417.2 mm = .inr (13, [.int (nI 0), .ref me, .ref sg, .ref cn, .ref im]) := by rw [hS417]; exact (pnew_n (fun z : mm = w9 => hq_w9 (by rw [← z]; exact hL414))).trans hf413
                                    have hL434 : mm ∈ S420.1 := by rw [hS420]; exact hL432
                                    have hf435 : S420.2 mm = .inr (13, [.int (nI 0), .ref me, .ref sg, .ref cn, .ref im]) := by rw [hS420]; exact (pup_n (fun z : mm = w9 => hq_w9 (by rw [← z]; exact hL414))).trans hf433
                                    have hL436 : mm ∈ S423.1 := by rw [hS423]; exact hL434
                                    have hf437 : S423.2 mm = .inr (13, [.int (nI 0), .ref me, .ref sg, .ref cn, .ref im]) := by rw [hS423]; exact (pup_n (fun z : mm = w9 => hq_w9 (by rw [← z]; exact hL414))).trans hf435
                                    have hL438 : mm ∈ S426.1 := by rw [hS426]; exact hL436
                                    have hf439 : S426.2 mm = .inr (13, [.int (nI 0), .ref me, .ref sg, .ref cn, .ref im]) := by rw [hS426]; exact (pup_n (fun z : mm = w9 => hq_w9 (by rw [← z]; exact hL414))).trans hf437
                                    have hL440 : mm ∈ S429.1 := by rw [hS429]; exact hL438
                                    have hf441 : S429.2 mm = .inr (13, [.int (nI 0), .ref me, .ref sg, .ref cn, .ref im]) := by rw [hS429]; exact (pup_n (fun z : mm = w9 => hq_w9 (by rw [← z]; exact hL414))).trans hf439
                                    refine p_put C hw (ci := 13) (Cn := RX13) (T := TX13) (N := 5) tyX13 tyX13_ok nmX13 hL440 hf441 rfl hin_RX13 3 (by decide) (mU mw_91) rfl rfl rfl rfl rfl (by simp) dX13_channel_134 rfl (fun H locs hw => ?_)
                                    obtain ⟨S442, hS442⟩ : ∃ z, z = pup S429 mm (.inr (13, [.int (nI 0), .ref me, .ref sg, .ref w9, .ref im])) := ⟨_, rfl⟩
                                    replace hw : pW D (pA S s.heap.size) s.heap S442 H locs := by rw [hS442]; exact hw
                                    have hL443 : mm ∈ S442.1 := by rw [hS442]; exact hL440
                                    have hf444 : S442.2 mm = .inr (13, [.int (nI 0), .ref me, .ref sg, .ref w9, .ref im]) := by rw [hS442]; exact pup_s
                                    refine lv_iload hx hb dX13_channel_137 (lv_at hl 0 rfl) ?_
                                    exact (p_iret C hw ((Or.inl ⟨w9, ([w9]), (by unfold okC; omega), rfl, (by simp only [hS442, hS429, hS426, hS423, hS420, hS417, hS411, pup, pnew, List.append_nil, List.append_assoc, List.cons_append, List.nil_append]), (fun a_ ha_ hn_0 => ((show S442.2 a_ = S429.2 a_ from by rw [hS442]; exact pup_n hn_0).trans ((show S429.2 a_ = S426.2 a_ from by rw [hS429]; exact pup_n (fun z : a_ = w9 => hq_w9 (by rw [← z]; exact (show a_ ∈ S409.1 from by rw [hS411]; exact List.mem_append_left _ ha_)))).trans ((show S426.2 a_ = S423.2 a_ from by rw [hS426]; exact pup_n (fun z : a_ = w9 => hq_w9 (by rw [← z]; exact (show a_ ∈ S409.1 from by rw [hS411]; exact List.mem_append_left _ ha_)))).trans ((show S423.2 a_ = S420.2 a_ from by rw [hS423]; exact pup_n (fun z : a_ = w9 => hq_w9 (by rw [← z]; exact (show a_ ∈ S409.1 from by rw [hS411]; exact List.mem_append_left _ ha_)))).trans ((show S420.2 a_ = S417.2 a_ from by rw [hS420]; exact pup_n (fun z : a_ = w9 => hq_w9 (by rw [← z]; exact (show a_ ∈ S409.1 from by rw [hS411]; exact List.mem_append_left _ ha_)))).trans ((show S417.2 a_ = S409.2 a_ from by rw [hS417]; exact pnew_n (fun z : a_ = w9 => hq_w9 (by rw [← z]; exact (show a_ ∈ S409.1 from by rw [hS411]; exact List.mem_append_left _ ha_)))).trans (hfr412 a_ ha_ hn_0)))))))), hf444⟩)) hr hlocks dX13_channel_139)
                                  · exact absurd h_100 (by first | decide | omega)
                                · exact absurd h_88 (by first | decide | omega)
                            · skip
                              obtain ⟨hc445, hr_, hS_⟩ := hpost
                              subst hr_
                              subst hS_
                              refine n_if_eq (tgt := 91) hx hb (by first | decide | omega) dX13_channel_83 (by decide) (fun h_83 => ?_) (fun h_83 => ?_)
                              · skip
                                refine lv_iconst (v := nI 1) hx hb dX13_channel_91 (by decide) ?_
                                refine lv_goto (tgt := 96) hx hb dX13_channel_92 (by decide) ?_
                                refine lv_iconst (v := nI 1) hx hb dX13_channel_96 (by decide) ?_
                                refine p_calli (va_runV (As := [.int (nI 1), .int (nI 1)]) (rest := []) C.fix (e_X13_start1 l D cy S H.size mm me sg cn im 1 0 hL_mm hf_mm (by first | assumption | decide | omega) (by first | assumption | decide | omega)) (cwV 2 C.2.2.2.2.1 (gU_V mw_397 mw_398 mw_399 mw_5 (subU mw_400)) rfl rfl rfl hde_X13_channel_V_1 ⟨Nat.le_of_ble_eq_true rfl, Nat.le_of_ble_eq_true rfl⟩) (p_preV C hw hL_mm hf_mm rfl) rfl rfl hl.1 rfl (lv_room (Nat.le_of_ble_eq_true rfl)) dX13_channel_97 ⟨(Nat.le_of_ble_eq_true rfl), (Nat.le_of_ble_eq_true rfl)⟩) hw hA (fun r447 S446 H locs hpost hw => ?_)
                                obtain ⟨hr_, hS448, hfr449, hf450⟩ := hpost
                                subst hr_
                                have hL451 : mm ∈ S446.1 := by rw [hS448]; exact List.mem_append_left _ hL_mm
                                refine n_if_eq (tgt := 105) hx hb (by first | decide | omega) dX13_channel_100 (by decide) (fun h_100 => ?_) (fun h_100 => ?_)
                                · exact absurd h_100 (by first | decide | omega)
                                · skip
                                  refine lv_iconst (v := nI 0) hx hb dX13_channel_103 (by decide) ?_
                                  refine W.widen (k := 1) (n := 4) (Nat.le_of_ble_eq_true rfl) (Nat.le_of_ble_eq_true rfl) ?_
                                  exact (p_iret C hw ((Or.inr ⟨[], (by unfold okC; omega), rfl, (by simp only [hS448, pup, pnew, List.append_nil, List.append_assoc, List.cons_append, List.nil_append]), (fun a_ ha_ hn_0 => (hfr449 a_ ha_ hn_0)), hf450⟩)) hr hlocks dX13_channel_104)
                              · exact absurd h_83 (by first | decide | omega)
                          · exact absurd h_66 (by first | decide | omega)
                        · skip
                          obtain ⟨hc452, hr_, hS_⟩ := hpost
                          subst hr_
                          subst hS_
                          refine n_if_ne (tgt := 73) hx hb (by first | decide | omega) dX13_channel_66 (by decide) (fun h_66 => ?_) (fun h_66 => ?_)
                          · exact absurd h_66 (by first | decide | omega)
                          · skip
                            refine lv_iconst (v := nI 1) hx hb dX13_channel_69 (by decide) ?_
                            refine lv_goto (tgt := 74) hx hb dX13_channel_70 (by decide) ?_
                            refine lv_istore (lv' := [(5, .int (nI 1)), (0, .ref mm), (1, .int k), (2, .int a), (3, .int b), (4, .int c9)]) hx hb dX13_channel_74 hl (by decide) rfl (fun ls hl => ?_)
                            refine lv_aload_n hx hb dX13_channel_76 rfl (lv_at hl 1 rfl) ?_
                            refine lv_iload_n hx hb dX13_channel_77 rfl (lv_at hl 2 rfl) ?_
                            refine lv_iconst (v := nI 0) hx hb dX13_channel_78 (by decide) ?_
                            refine lv_iconst (v := nI 3) hx hb dX13_channel_79 (by decide) ?_
                            refine p_calli (va_runS (As := [.int k, .int (nI 0), .int (nI 3)]) (rest := [.ref mm]) C.fix (e_X13_isIn l D cy S H.size k (nI 0) (nI 3) k.toInt ((0 : Nat) : Int) ((3 : Nat) : Int)  rfl (nI_toInt (by first | decide | omega)) (nI_toInt (by first | decide | omega))) (va_cwS 3 C.2.2.2.2.1 (gU_S mw_394 mw_395 mw_5 (subU mw_396)) rfl rfl rfl hde_X13_channel_S_0 ⟨Nat.le_of_ble_eq_true rfl, Nat.le_of_ble_eq_true rfl⟩) (p_preS C hw) rfl rfl hl.1 rfl (lv_room (Nat.le_of_ble_eq_true rfl)) dX13_channel_80 ⟨(Nat.le_of_ble_eq_true rfl), (Nat.le_of_ble_eq_true rfl)⟩) hw hA (fun r454 S453 H locs hpost hw => ?_)
                            rcases hpost with hpost | hpost
                            · skip
                              obtain ⟨hc455, hr_, hS_⟩ := hpost
                              subst hr_
                              subst hS_
                              refine n_if_eq (tgt := 91) hx hb (by first | decide | omega) dX13_channel_83 (by decide) (fun h_83 => ?_) (fun h_83 => ?_)
                              · exact absurd h_83 (by first | decide | omega)
                              · skip
                                refine lv_iload hx hb dX13_channel_86 (lv_at hl 0 rfl) ?_
                                refine n_if_eq (tgt := 95) hx hb (by first | decide | omega) dX13_channel_88 (by decide) (fun h_88 => ?_) (fun h_88 => ?_)
                                · exact absurd h_88 (by first | decide | omega)
                                · skip
                                  refine lv_iconst (v := nI 1) hx hb dX13_channel_91 (by decide) ?_
                                  refine lv_goto (tgt := 96) hx hb dX13_channel_92 (by decide) ?_
                                  refine lv_iconst (v := nI 1) hx hb dX13_channel_96 (by decide) ?_
                                  refine p_calli (va_runV (As := [.int (nI 1), .int (nI 1)]) (rest := []) C.fix (e_X13_start1 l D cy S H.size mm me sg cn im 1 0 hL_mm hf_mm (by first | assumption | decide | omega) (by first | assumption | decide | omega)) (cwV 2 C.2.2.2.2.1 (gU_V mw_397 mw_398 mw_399 mw_5 (subU mw_400)) rfl rfl rfl hde_X13_channel_V_1 ⟨Nat.le_of_ble_eq_true rfl, Nat.le_of_ble_eq_true rfl⟩) (p_preV C hw hL_mm hf_mm rfl) rfl rfl hl.1 rfl (lv_room (Nat.le_of_ble_eq_true rfl)) dX13_channel_97 ⟨(Nat.le_of_ble_eq_true rfl), (Nat.le_of_ble_eq_true rfl)⟩) hw hA (fun r457 S456 H locs hpost hw => ?_)
                                  obtain ⟨hr_, hS458, hfr459, hf460⟩ := hpost
                                  subst hr_
                                  have hL461 : mm ∈ S456.1 := by rw [hS458]; exact List.mem_append_left _ hL_mm
                                  refine n_if_eq (tgt := 105) hx hb (by first | decide | omega) dX13_channel_100 (by decide) (fun h_100 => ?_) (fun h_100 => ?_)
                                  · exact absurd h_100 (by first | decide | omega)
                                  · skip
                                    refine lv_iconst (v := nI 0) hx hb dX13_channel_103 (by decide) ?_
                                    refine W.widen (k := 1) (n := 4) (Nat.le_of_ble_eq_true rfl) (Nat.le_of_ble_eq_true rfl) ?_
                                    exact (p_iret C hw ((Or.inr ⟨[], (by unfold okC; omega), rfl, (by simp only [hS458, pup, pnew, List.append_nil, List.append_assoc, List.cons_append, List.nil_append]), (fun a_ ha_ hn_0 => (hfr459 a_ ha_ hn_0)), hf460⟩)) hr hlocks dX13_channel_104)
                            · skip
                              obtain ⟨hc462, hr_, hS_⟩ := hpost
                              subst hr_
                              subst hS_
                              refine n_if_eq (tgt := 91) hx hb (by first | decide | omega) dX13_channel_83 (by decide) (fun h_83 => ?_) (fun h_83 => ?_)
                              · skip
                                refine lv_iconst (v := nI 1) hx hb dX13_channel_91 (by decide) ?_
                                refine lv_goto (tgt := 96) hx hb dX13_channel_92 (by decide) ?_
                                refine lv_iconst (v := nI 1) hx hb dX13_channel_96 (by decide) ?_
                                refine p_calli (va_runV (As := [.int (nI 1), .int (nI 1)]) (rest := []) C.fix (e_X13_start1 l D cy S H.size mm me sg cn im 1 0 hL_mm hf_mm (by first | assumption | decide | omega) (by first | assumption | decide | omega)) (cwV 2 C.2.2.2.2.1 (gU_V mw_397 mw_398 mw_399 mw_5 (subU mw_400)) rfl rfl rfl hde_X13_channel_V_1 ⟨Nat.le_of_ble_eq_true rfl, Nat.le_of_ble_eq_true rfl⟩) (p_preV C hw hL_mm hf_mm rfl) rfl rfl hl.1 rfl (lv_room (Nat.le_of_ble_eq_true rfl)) dX13_channel_97 ⟨(Nat.le_of_ble_eq_true rfl), (Nat.le_of_ble_eq_true rfl)⟩) hw hA (fun r464 S463 H locs hpost hw => ?_)
                                obtain ⟨hr_, hS465, hfr466, hf467⟩ := hpost
                                subst hr_
                                have hL468 : mm ∈ S463.1 := by rw [hS465]; exact List.mem_append_left _ hL_mm
                                refine n_if_eq (tgt := 105) hx hb (by first | decide | omega) dX13_channel_100 (by decide) (fun h_100 => ?_) (fun h_100 => ?_)
                                · exact absurd h_100 (by first | decide | omega)
                                · skip
                                  refine lv_iconst (v := nI 0) hx hb dX13_channel_103 (by decide) ?_
                                  refine W.widen (k := 1) (n := 4) (Nat.le_of_ble_eq_true rfl) (Nat.le_of_ble_eq_true rfl) ?_
                                  exact (p_iret C hw ((Or.inr ⟨[], (by unfold okC; omega), rfl, (by simp only [hS465, pup, pnew, List.append_nil, List.append_assoc, List.cons_append, List.nil_append]), (fun a_ ha_ hn_0 => (hfr466 a_ ha_ hn_0)), hf467⟩)) hr hlocks dX13_channel_104)
                              · exact absurd h_83 (by first | decide | omega)
                    · skip
                      obtain ⟨hc469, hr_, hS_⟩ := hpost
                      subst hr_
                      subst hS_
                      refine n_if_eq (tgt := 69) hx hb (by first | decide | omega) dX13_channel_54 (by decide) (fun h_54 => ?_) (fun h_54 => ?_)
                      · skip
                        refine lv_iconst (v := nI 1) hx hb dX13_channel_69 (by decide) ?_
                        refine lv_goto (tgt := 74) hx hb dX13_channel_70 (by decide) ?_
                        refine lv_istore (lv' := [(5, .int (nI 1)), (0, .ref mm), (1, .int k), (2, .int a), (3, .int b), (4, .int c9)]) hx hb dX13_channel_74 hl (by decide) rfl (fun ls hl => ?_)
                        refine lv_aload_n hx hb dX13_channel_76 rfl (lv_at hl 1 rfl) ?_
                        refine lv_iload_n hx hb dX13_channel_77 rfl (lv_at hl 2 rfl) ?_
                        refine lv_iconst (v := nI 0) hx hb dX13_channel_78 (by decide) ?_
                        refine lv_iconst (v := nI 3) hx hb dX13_channel_79 (by decide) ?_
                        refine p_calli (va_runS (As := [.int k, .int (nI 0), .int (nI 3)]) (rest := [.ref mm]) C.fix (e_X13_isIn l D cy S H.size k (nI 0) (nI 3) k.toInt ((0 : Nat) : Int) ((3 : Nat) : Int)  rfl (nI_toInt (by first | decide | omega)) (nI_toInt (by first | decide | omega))) (va_cwS 3 C.2.2.2.2.1 (gU_S mw_394 mw_395 mw_5 (subU mw_396)) rfl rfl rfl hde_X13_channel_S_0 ⟨Nat.le_of_ble_eq_true rfl, Nat.le_of_ble_eq_true rfl⟩) (p_preS C hw) rfl rfl hl.1 rfl (lv_room (Nat.le_of_ble_eq_true rfl)) dX13_channel_80 ⟨(Nat.le_of_ble_eq_true rfl), (Nat.le_of_ble_eq_true rfl)⟩) hw hA (fun r471 S470 H locs hpost hw => ?_)
                        rcases hpost with hpost | hpost
                        · skip
                          obtain ⟨hc472, hr_, hS_⟩ := hpost
                          subst hr_
                          subst hS_
                          refine n_if_eq (tgt := 91) hx hb (by first | decide | omega) dX13_channel_83 (by decide) (fun h_83 => ?_) (fun h_83 => ?_)
                          · exact absurd h_83 (by first | decide | omega)
                          · skip
                            refine lv_iload hx hb dX13_channel_86 (lv_at hl 0 rfl) ?_
                            refine n_if_eq (tgt := 95) hx hb (by first | decide | omega) dX13_channel_88 (by decide) (fun h_88 => ?_) (fun h_88 => ?_)
                            · exact absurd h_88 (by first | decide | omega)
                            · skip
                              refine lv_iconst (v := nI 1) hx hb dX13_channel_91 (by decide) ?_
                              refine lv_goto (tgt := 96) hx hb dX13_channel_92 (by decide) ?_
                              refine lv_iconst (v := nI 1) hx hb dX13_channel_96 (by decide) ?_
                              refine p_calli (va_runV (As := [.int (nI 1), .int (nI 1)]) (rest := []) C.fix (e_X13_start1 l D cy S H.size mm me sg cn im 1 0 hL_mm hf_mm (by first | assumption | decide | omega) (by first | assumption | decide | omega)) (cwV 2 C.2.2.2.2.1 (gU_V mw_397 mw_398 mw_399 mw_5 (subU mw_400)) rfl rfl rfl hde_X13_channel_V_1 ⟨Nat.le_of_ble_eq_true rfl, Nat.le_of_ble_eq_true rfl⟩) (p_preV C hw hL_mm hf_mm rfl) rfl rfl hl.1 rfl (lv_room (Nat.le_of_ble_eq_true rfl)) dX13_channel_97 ⟨(Nat.le_of_ble_eq_true rfl), (Nat.le_of_ble_eq_true rfl)⟩) hw hA (fun r474 S473 H locs hpost hw => ?_)
                              obtain ⟨hr_, hS475, hfr476, hf477⟩ := hpost
                              subst hr_
                              have hL478 : mm ∈ S473.1 := by rw [hS475]; exact List.mem_append_left _ hL_mm
                              refine n_if_eq (tgt := 105) hx hb (by first | decide | omega) dX13_channel_100 (by decide) (fun h_100 => ?_) (fun h_100 => ?_)
                              · exact absurd h_100 (by first | decide | omega)
                              · skip
                                refine lv_iconst (v := nI 0) hx hb dX13_channel_103 (by decide) ?_
                                refine W.widen (k := 1) (n := 4) (Nat.le_of_ble_eq_true rfl) (Nat.le_of_ble_eq_true rfl) ?_
                                exact (p_iret C hw ((Or.inr ⟨[], (by unfold okC; omega), rfl, (by simp only [hS475, pup, pnew, List.append_nil, List.append_assoc, List.cons_append, List.nil_append]), (fun a_ ha_ hn_0 => (hfr476 a_ ha_ hn_0)), hf477⟩)) hr hlocks dX13_channel_104)
                        · skip
                          obtain ⟨hc479, hr_, hS_⟩ := hpost
                          subst hr_
                          subst hS_
                          refine n_if_eq (tgt := 91) hx hb (by first | decide | omega) dX13_channel_83 (by decide) (fun h_83 => ?_) (fun h_83 => ?_)
                          · skip
                            refine lv_iconst (v := nI 1) hx hb dX13_channel_91 (by decide) ?_
                            refine lv_goto (tgt := 96) hx hb dX13_channel_92 (by decide) ?_
                            refine lv_iconst (v := nI 1) hx hb dX13_channel_96 (by decide) ?_
                            refine p_calli (va_runV (As := [.int (nI 1), .int (nI 1)]) (rest := []) C.fix (e_X13_start1 l D cy S H.size mm me sg cn im 1 0 hL_mm hf_mm (by first | assumption | decide | omega) (by first | assumption | decide | omega)) (cwV 2 C.2.2.2.2.1 (gU_V mw_397 mw_398 mw_399 mw_5 (subU mw_400)) rfl rfl rfl hde_X13_channel_V_1 ⟨Nat.le_of_ble_eq_true rfl, Nat.le_of_ble_eq_true rfl⟩) (p_preV C hw hL_mm hf_mm rfl) rfl rfl hl.1 rfl (lv_room (Nat.le_of_ble_eq_true rfl)) dX13_channel_97 ⟨(Nat.le_of_ble_eq_true rfl), (Nat.le_of_ble_eq_true rfl)⟩) hw hA (fun r481 S480 H locs hpost hw => ?_)
                            obtain ⟨hr_, hS482, hfr483, hf484⟩ := hpost
                            subst hr_
                            have hL485 : mm ∈ S480.1 := by rw [hS482]; exact List.mem_append_left _ hL_mm
                            refine n_if_eq (tgt := 105) hx hb (by first | decide | omega) dX13_channel_100 (by decide) (fun h_100 => ?_) (fun h_100 => ?_)
                            · exact absurd h_100 (by first | decide | omega)
                            · skip
                              refine lv_iconst (v := nI 0) hx hb dX13_channel_103 (by decide) ?_
                              refine W.widen (k := 1) (n := 4) (Nat.le_of_ble_eq_true rfl) (Nat.le_of_ble_eq_true rfl) ?_
                              exact (p_iret C hw ((Or.inr ⟨[], (by unfold okC; omega), rfl, (by simp only [hS482, pup, pnew, List.append_nil, List.append_assoc, List.cons_append, List.nil_append]), (fun a_ ha_ hn_0 => (hfr483 a_ ha_ hn_0)), hf484⟩)) hr hlocks dX13_channel_104)
                          · exact absurd h_83 (by first | decide | omega)
                      · exact absurd h_54 (by first | decide | omega)
                · skip
                  obtain ⟨hc486, hr_, hS_⟩ := hpost
                  subst hr_
                  subst hS_
                  refine n_if_eq (tgt := 69) hx hb (by first | decide | omega) dX13_channel_44 (by decide) (fun h_44 => ?_) (fun h_44 => ?_)
                  · skip
                    refine lv_iconst (v := nI 1) hx hb dX13_channel_69 (by decide) ?_
                    refine lv_goto (tgt := 74) hx hb dX13_channel_70 (by decide) ?_
                    refine lv_istore (lv' := [(5, .int (nI 1)), (0, .ref mm), (1, .int k), (2, .int a), (3, .int b), (4, .int c9)]) hx hb dX13_channel_74 hl (by decide) rfl (fun ls hl => ?_)
                    refine lv_aload_n hx hb dX13_channel_76 rfl (lv_at hl 1 rfl) ?_
                    refine lv_iload_n hx hb dX13_channel_77 rfl (lv_at hl 2 rfl) ?_
                    refine lv_iconst (v := nI 0) hx hb dX13_channel_78 (by decide) ?_
                    refine lv_iconst (v := nI 3) hx hb dX13_channel_79 (by decide) ?_
                    refine p_calli (va_runS (As := [.int k, .int (nI 0), .int (nI 3)]) (rest := [.ref mm]) C.fix (e_X13_isIn l D cy S H.size k (nI 0) (nI 3) k.toInt ((0 : Nat) : Int) ((3 : Nat) : Int)  rfl (nI_toInt (by first | decide | omega)) (nI_toInt (by first | decide | omega))) (va_cwS 3 C.2.2.2.2.1 (gU_S mw_394 mw_395 mw_5 (subU mw_396)) rfl rfl rfl hde_X13_channel_S_0 ⟨Nat.le_of_ble_eq_true rfl, Nat.le_of_ble_eq_true rfl⟩) (p_preS C hw) rfl rfl hl.1 rfl (lv_room (Nat.le_of_ble_eq_true rfl)) dX13_channel_80 ⟨(Nat.le_of_ble_eq_true rfl), (Nat.le_of_ble_eq_true rfl)⟩) hw hA (fun r488 S487 H locs hpost hw => ?_)
                    rcases hpost with hpost | hpost
                    · skip
                      obtain ⟨hc489, hr_, hS_⟩ := hpost
                      subst hr_
                      subst hS_
                      refine n_if_eq (tgt := 91) hx hb (by first | decide | omega) dX13_channel_83 (by decide) (fun h_83 => ?_) (fun h_83 => ?_)
                      · exact absurd h_83 (by first | decide | omega)
                      · skip
                        refine lv_iload hx hb dX13_channel_86 (lv_at hl 0 rfl) ?_
                        refine n_if_eq (tgt := 95) hx hb (by first | decide | omega) dX13_channel_88 (by decide) (fun h_88 => ?_) (fun h_88 => ?_)
                        · exact absurd h_88 (by first | decide | omega)
                        · skip
                          refine lv_iconst (v := nI 1) hx hb dX13_channel_91 (by decide) ?_
                          refine lv_goto (tgt := 96) hx hb dX13_channel_92 (by decide) ?_
                          refine lv_iconst (v := nI 1) hx hb dX13_channel_96 (by decide) ?_
                          refine p_calli (va_runV (As := [.int (nI 1), .int (nI 1)]) (rest := []) C.fix (e_X13_start1 l D cy S H.size mm me sg cn im 1 0 hL_mm hf_mm (by first | assumption | decide | omega) (by first | assumption | decide | omega)) (cwV 2 C.2.2.2.2.1 (gU_V mw_397 mw_398 mw_399 mw_5 (subU mw_400)) rfl rfl rfl hde_X13_channel_V_1 ⟨Nat.le_of_ble_eq_true rfl, Nat.le_of_ble_eq_true rfl⟩) (p_preV C hw hL_mm hf_mm rfl) rfl rfl hl.1 rfl (lv_room (Nat.le_of_ble_eq_true rfl)) dX13_channel_97 ⟨(Nat.le_of_ble_eq_true rfl), (Nat.le_of_ble_eq_true rfl)⟩) hw hA (fun r491 S490 H locs hpost hw => ?_)
                          obtain ⟨hr_, hS492, hfr493, hf494⟩ := hpost
                          subst hr_
                          have hL495 : mm ∈ S490.1 := by rw [hS492]; exact List.mem_append_left _ hL_mm
                          refine n_if_eq (tgt := 105) hx hb (by first | decide | omega) dX13_channel_100 (by decide) (fun h_100 => ?_) (fun h_100 => ?_)
                          · exact absurd h_100 (by first | decide | omega)
                          · skip
                            refine lv_iconst (v := nI 0) hx hb dX13_channel_103 (by decide) ?_
                            refine W.widen (k := 1) (n := 4) (Nat.le_of_ble_eq_true rfl) (Nat.le_of_ble_eq_true rfl) ?_
                            exact (p_iret C hw ((Or.inr ⟨[], (by unfold okC; omega), rfl, (by simp only [hS492, pup, pnew, List.append_nil, List.append_assoc, List.cons_append, List.nil_append]), (fun a_ ha_ hn_0 => (hfr493 a_ ha_ hn_0)), hf494⟩)) hr hlocks dX13_channel_104)
                    · skip
                      obtain ⟨hc496, hr_, hS_⟩ := hpost
                      subst hr_
                      subst hS_
                      refine n_if_eq (tgt := 91) hx hb (by first | decide | omega) dX13_channel_83 (by decide) (fun h_83 => ?_) (fun h_83 => ?_)
                      · skip
                        refine lv_iconst (v := nI 1) hx hb dX13_channel_91 (by decide) ?_
                        refine lv_goto (tgt := 96) hx hb dX13_channel_92 (by decide) ?_
                        refine lv_iconst (v := nI 1) hx hb dX13_channel_96 (by decide) ?_
                        refine p_calli (va_runV (As := [.int (nI 1), .int (nI 1)]) (rest := []) C.fix (e_X13_start1 l D cy S H.size mm me sg cn im 1 0 hL_mm hf_mm (by first | assumption | decide | omega) (by first | assumption | decide | omega)) (cwV 2 C.2.2.2.2.1 (gU_V mw_397 mw_398 mw_399 mw_5 (subU mw_400)) rfl rfl rfl hde_X13_channel_V_1 ⟨Nat.le_of_ble_eq_true rfl, Nat.le_of_ble_eq_true rfl⟩) (p_preV C hw hL_mm hf_mm rfl) rfl rfl hl.1 rfl (lv_room (Nat.le_of_ble_eq_true rfl)) dX13_channel_97 ⟨(Nat.le_of_ble_eq_true rfl), (Nat.le_of_ble_eq_true rfl)⟩) hw hA (fun r498 S497 H locs hpost hw => ?_)
                        obtain ⟨hr_, hS499, hfr500, hf501⟩ := hpost
                        subst hr_
                        have hL502 : mm ∈ S497.1 := by rw [hS499]; exact List.mem_append_left _ hL_mm
                        refine n_if_eq (tgt := 105) hx hb (by first | decide | omega) dX13_channel_100 (by decide) (fun h_100 => ?_) (fun h_100 => ?_)
                        · exact absurd h_100 (by first | decide | omega)
                        · skip
                          refine lv_iconst (v := nI 0) hx hb dX13_channel_103 (by decide) ?_
                          refine W.widen (k := 1) (n := 4) (Nat.le_of_ble_eq_true rfl) (Nat.le_of_ble_eq_true rfl) ?_
                          exact (p_iret C hw ((Or.inr ⟨[], (by unfold okC; omega), rfl, (by simp only [hS499, pup, pnew, List.append_nil, List.append_assoc, List.cons_append, List.nil_append]), (fun a_ ha_ hn_0 => (hfr500 a_ ha_ hn_0)), hf501⟩)) hr hlocks dX13_channel_104)
                      · exact absurd h_83 (by first | decide | omega)
                  · exact absurd h_44 (by first | decide | omega)
          · skip
            obtain ⟨hc503, hr_, hS_⟩ := hpost
            subst hr_
            subst hS_
            refine n_if_eq (tgt := 69) hx hb (by first | decide | omega) dX13_channel_28 (by decide) (fun h_28 => ?_) (fun h_28 => ?_)
            · skip
              refine lv_iconst (v := nI 1) hx hb dX13_channel_69 (by decide) ?_
              refine lv_goto (tgt := 74) hx hb dX13_channel_70 (by decide) ?_
              refine lv_istore (lv' := [(5, .int (nI 1)), (0, .ref mm), (1, .int k), (2, .int a), (3, .int b), (4, .int c9)]) hx hb dX13_channel_74 hl (by decide) rfl (fun ls hl => ?_)
              refine lv_aload_n hx hb dX13_channel_76 rfl (lv_at hl 1 rfl) ?_
              refine lv_iload_n hx hb dX13_channel_77 rfl (lv_at hl 2 rfl) ?_
              refine lv_iconst (v := nI 0) hx hb dX13_channel_78 (by decide) ?_
              refine lv_iconst (v := nI 3) hx hb dX13_channel_79 (by decide) ?_
              refine p_calli (va_runS (As := [.int k, .int (nI 0), .int (nI 3)]) (rest := [.ref mm]) C.fix (e_X13_isIn l D cy S H.size k (nI 0) (nI 3) k.toInt ((0 : Nat) : Int) ((3 : Nat) : Int)  rfl (nI_toInt (by first | decide | omega)) (nI_toInt (by first | decide | omega))) (va_cwS 3 C.2.2.2.2.1 (gU_S mw_394 mw_395 mw_5 (subU mw_396)) rfl rfl rfl hde_X13_channel_S_0 ⟨Nat.le_of_ble_eq_true rfl, Nat.le_of_ble_eq_true rfl⟩) (p_preS C hw) rfl rfl hl.1 rfl (lv_room (Nat.le_of_ble_eq_true rfl)) dX13_channel_80 ⟨(Nat.le_of_ble_eq_true rfl), (Nat.le_of_ble_eq_true rfl)⟩) hw hA (fun r505 S504 H locs hpost hw => ?_)
              rcases hpost with hpost | hpost
              · skip
                obtain ⟨hc506, hr_, hS_⟩ := hpost
                subst hr_
                subst hS_
                refine n_if_eq (tgt := 91) hx hb (by first | decide | omega) dX13_channel_83 (by decide) (fun h_83 => ?_) (fun h_83 => ?_)
                · exact absurd h_83 (by first | decide | omega)
                · skip
                  refine lv_iload hx hb dX13_channel_86 (lv_at hl 0 rfl) ?_
                  refine n_if_eq (tgt := 95) hx hb (by first | decide | omega) dX13_channel_88 (by decide) (fun h_88 => ?_) (fun h_88 => ?_)
                  · exact absurd h_88 (by first | decide | omega)
                  · skip
                    refine lv_iconst (v := nI 1) hx hb dX13_channel_91 (by decide) ?_
                    refine lv_goto (tgt := 96) hx hb dX13_channel_92 (by decide) ?_
                    refine lv_iconst (v := nI 1) hx hb dX13_channel_96 (by decide) ?_
                    refine p_calli (va_runV (As := [.int (nI 1), .int (nI 1)]) (rest := []) C.fix (e_X13_start1 l D cy S H.size mm me sg cn im 1 0 hL_mm hf_mm (by first | assumption | decide | omega) (by first | assumption | decide | omega)) (cwV 2 C.2.2.2.2.1 (gU_V mw_397 mw_398 mw_399 mw_5 (subU mw_400)) rfl rfl rfl hde_X13_channel_V_1 ⟨Nat.le_of_ble_eq_true rfl, Nat.le_of_ble_eq_true rfl⟩) (p_preV C hw hL_mm hf_mm rfl) rfl rfl hl.1 rfl (lv_room (Nat.le_of_ble_eq_true rfl)) dX13_channel_97 ⟨(Nat.le_of_ble_eq_true rfl), (Nat.le_of_ble_eq_true rfl)⟩) hw hA (fun r508 S507 H locs hpost hw => ?_)
                    obtain ⟨hr_, hS509, hfr510, hf511⟩ := hpost
                    subst hr_
                    have hL512 : mm ∈ S507.1 := by rw [hS509]; exact List.mem_append_left _ hL_mm
                    refine n_if_eq (tgt := 105) hx hb (by first | decide | omega) dX13_channel_100 (by decide) (fun h_100 => ?_) (fun h_100 => ?_)
                    · exact absurd h_100 (by first | decide | omega)
                    · skip
                      refine lv_iconst (v := nI 0) hx hb dX13_channel_103 (by decide) ?_
                      refine W.widen (k := 1) (n := 4) (Nat.le_of_ble_eq_true rfl) (Nat.le_of_ble_eq_true rfl) ?_
                      exact (p_iret C hw ((Or.inr ⟨[], (by unfold okC; omega), rfl, (by simp only [hS509, pup, pnew, List.append_nil, List.append_assoc, List.cons_append, List.nil_append]), (fun a_ ha_ hn_0 => (hfr510 a_ ha_ hn_0)), hf511⟩)) hr hlocks dX13_channel_104)
              · skip
                obtain ⟨hc513, hr_, hS_⟩ := hpost
                subst hr_
                subst hS_
                refine n_if_eq (tgt := 91) hx hb (by first | decide | omega) dX13_channel_83 (by decide) (fun h_83 => ?_) (fun h_83 => ?_)
                · skip
                  refine lv_iconst (v := nI 1) hx hb dX13_channel_91 (by decide) ?_
                  refine lv_goto (tgt := 96) hx hb dX13_channel_92 (by decide) ?_
                  refine lv_iconst (v := nI 1) hx hb dX13_channel_96 (by decide) ?_
                  refine p_calli (va_runV (As := [.int (nI 1), .int (nI 1)]) (rest := []) C.fix (e_X13_start1 l D cy S H.size mm me sg cn im 1 0 hL_mm hf_mm (by first | assumption | decide | omega) (by first | assumption | decide | omega)) (cwV 2 C.2.2.2.2.1 (gU_V mw_397 mw_398 mw_399 mw_5 (subU mw_400)) rfl rfl rfl hde_X13_channel_V_1 ⟨Nat.le_of_ble_eq_true rfl, Nat.le_of_ble_eq_true rfl⟩) (p_preV C hw hL_mm hf_mm rfl) rfl rfl hl.1 rfl (lv_room (Nat.le_of_ble_eq_true rfl)) dX13_channel_97 ⟨(Nat.le_of_ble_eq_true rfl), (Nat.le_of_ble_eq_true rfl)⟩) hw hA (fun r515 S514 H locs hpost hw => ?_)
                  obtain ⟨hr_, hS516, hfr517, hf518⟩ := hpost
                  subst hr_
                  have hL519 : mm ∈ S514.1 := by rw [hS516]; exact List.mem_append_left _ hL_mm
                  refine n_if_eq (tgt := 105) hx hb (by first | decide | omega) dX13_channel_100 (by decide) (fun h_100 => ?_) (fun h_100 => ?_)
                  · exact absurd h_100 (by first | decide | omega)
                  · skip
                    refine lv_iconst (v := nI 0) hx hb dX13_channel_103 (by decide) ?_
                    refine W.widen (k := 1) (n := 4) (Nat.le_of_ble_eq_true rfl) (Nat.le_of_ble_eq_true rfl) ?_
                    exact (p_iret C hw ((Or.inr ⟨[], (by unfold okC; omega), rfl, (by simp only [hS516, pup, pnew, List.append_nil, List.append_assoc, List.cons_append, List.nil_append]), (fun a_ ha_ hn_0 => (hfr517 a_ ha_ hn_0)), hf518⟩)) hr hlocks dX13_channel_104)
                · exact absurd h_83 (by first | decide | omega)
            · exact absurd h_28 (by first | decide | omega)
      · skip
        obtain ⟨hc520, hr_, hS_⟩ := hpost
        subst hr_
        subst hS_
        refine n_if_eq (tgt := 69) hx hb (by first | decide | omega) dX13_channel_18 (by decide) (fun h_18 => ?_) (fun h_18 => ?_)
        · skip
          refine lv_iconst (v := nI 1) hx hb dX13_channel_69 (by decide) ?_
          refine lv_goto (tgt := 74) hx hb dX13_channel_70 (by decide) ?_
          refine lv_istore (lv' := [(5, .int (nI 1)), (0, .ref mm), (1, .int k), (2, .int a), (3, .int b), (4, .int c9)]) hx hb dX13_channel_74 hl (by decide) rfl (fun ls hl => ?_)
          refine lv_aload_n hx hb dX13_channel_76 rfl (lv_at hl 1 rfl) ?_
          refine lv_iload_n hx hb dX13_channel_77 rfl (lv_at hl 2 rfl) ?_
          refine lv_iconst (v := nI 0) hx hb dX13_channel_78 (by decide) ?_
          refine lv_iconst (v := nI 3) hx hb dX13_channel_79 (by decide) ?_
          refine p_calli (va_runS (As := [.int k, .int (nI 0), .int (nI 3)]) (rest := [.ref mm]) C.fix (e_X13_isIn l D cy S H.size k (nI 0) (nI 3) k.toInt ((0 : Nat) : Int) ((3 : Nat) : Int)  rfl (nI_toInt (by first | decide | omega)) (nI_toInt (by first | decide | omega))) (va_cwS 3 C.2.2.2.2.1 (gU_S mw_394 mw_395 mw_5 (subU mw_396)) rfl rfl rfl hde_X13_channel_S_0 ⟨Nat.le_of_ble_eq_true rfl, Nat.le_of_ble_eq_true rfl⟩) (p_preS C hw) rfl rfl hl.1 rfl (lv_room (Nat.le_of_ble_eq_true rfl)) dX13_channel_80 ⟨(Nat.le_of_ble_eq_true rfl), (Nat.le_of_ble_eq_true rfl)⟩) hw hA (fun r522 S521 H locs hpost hw => ?_)
          rcases hpost with hpost | hpost
          · skip
            obtain ⟨hc523, hr_, hS_⟩ := hpost
            subst hr_
            subst hS_
            refine n_if_eq (tgt := 91) hx hb (by first | decide | omega) dX13_channel_83 (by decide) (fun h_83 => ?_) (fun h_83 => ?_)
            · exact absurd h_83 (by first | decide | omega)
            · skip
              refine lv_iload hx hb dX13_channel_86 (lv_at hl 0 rfl) ?_
              refine n_if_eq (tgt := 95) hx hb (by first | decide | omega) dX13_channel_88 (by decide) (fun h_88 => ?_) (fun h_88 => ?_)
              · exact absurd h_88 (by first | decide | omega)
              · skip
                refine lv_iconst (v := nI 1) hx hb dX13_channel_91 (by decide) ?_
                refine lv_goto (tgt := 96) hx hb dX13_channel_92 (by decide) ?_
                refine lv_iconst (v := nI 1) hx hb dX13_channel_96 (by decide) ?_
                refine p_calli (va_runV (As := [.int (nI 1), .int (nI 1)]) (rest := []) C.fix (e_X13_start1 l D cy S H.size mm me sg cn im 1 0 hL_mm hf_mm (by first | assumption | decide | omega) (by first | assumption | decide | omega)) (cwV 2 C.2.2.2.2.1 (gU_V mw_397 mw_398 mw_399 mw_5 (subU mw_400)) rfl rfl rfl hde_X13_channel_V_1 ⟨Nat.le_of_ble_eq_true rfl, Nat.le_of_ble_eq_true rfl⟩) (p_preV C hw hL_mm hf_mm rfl) rfl rfl hl.1 rfl (lv_room (Nat.le_of_ble_eq_true rfl)) dX13_channel_97 ⟨(Nat.le_of_ble_eq_true rfl), (Nat.le_of_ble_eq_true rfl)⟩) hw hA (fun r525 S524 H locs hpost hw => ?_)
                obtain ⟨hr_, hS526, hfr527, hf528⟩ := hpost
                subst hr_
                have hL529 : mm ∈ S524.1 := by rw [hS526]; exact List.mem_append_left _ hL_mm
                refine n_if_eq (tgt := 105) hx hb (by first | decide | omega) dX13_channel_100 (by decide) (fun h_100 => ?_) (fun h_100 => ?_)
                · exact absurd h_100 (by first | decide | omega)
                · skip
                  refine lv_iconst (v := nI 0) hx hb dX13_channel_103 (by decide) ?_
                  refine W.widen (k := 1) (n := 4) (Nat.le_of_ble_eq_true rfl) (Nat.le_of_ble_eq_true rfl) ?_
                  exact (p_iret C hw ((Or.inr ⟨[], (by unfold okC; omega), rfl, (by simp only [hS526, pup, pnew, List.append_nil, List.append_assoc, List.cons_append, List.nil_append]), (fun a_ ha_ hn_0 => (hfr527 a_ ha_ hn_0)), hf528⟩)) hr hlocks dX13_channel_104)
          · skip
            obtain ⟨hc530, hr_, hS_⟩ := hpost
            subst hr_
            subst hS_
            refine n_if_eq (tgt := 91) hx hb (by first | decide | omega) dX13_channel_83 (by decide) (fun h_83 => ?_) (fun h_83 => ?_)
            · skip
              refine lv_iconst (v := nI 1) hx hb dX13_channel_91 (by decide) ?_
              refine lv_goto (tgt := 96) hx hb dX13_channel_92 (by decide) ?_
              refine lv_iconst (v := nI 1) hx hb dX13_channel_96 (by decide) ?_
              refine p_calli (va_runV (As := [.int (nI 1), .int (nI 1)]) (rest := []) C.fix (e_X13_start1 l D cy S H.size mm me sg cn im 1 0 hL_mm hf_mm (by first | assumption | decide | omega) (by first | assumption | decide | omega)) (cwV 2 C.2.2.2.2.1 (gU_V mw_397 mw_398 mw_399 mw_5 (subU mw_400)) rfl rfl rfl hde_X13_channel_V_1 ⟨Nat.le_of_ble_eq_true rfl, Nat.le_of_ble_eq_true rfl⟩) (p_preV C hw hL_mm hf_mm rfl) rfl rfl hl.1 rfl (lv_room (Nat.le_of_ble_eq_true rfl)) dX13_channel_97 ⟨(Nat.le_of_ble_eq_true rfl), (Nat.le_of_ble_eq_true rfl)⟩) hw hA (fun r532 S531 H locs hpost hw => ?_)
              obtain ⟨hr_, hS533, hfr534, hf535⟩ := hpost
              subst hr_
              have hL536 : mm ∈ S531.1 := by rw [hS533]; exact List.mem_append_left _ hL_mm
              refine n_if_eq (tgt := 105) hx hb (by first | decide | omega) dX13_channel_100 (by decide) (fun h_100 => ?_) (fun h_100 => ?_)
              · exact absurd h_100 (by first | decide | omega)
              · skip
                refine lv_iconst (v := nI 0) hx hb dX13_channel_103 (by decide) ?_
                refine W.widen (k := 1) (n := 4) (Nat.le_of_ble_eq_true rfl) (Nat.le_of_ble_eq_true rfl) ?_
                exact (p_iret C hw ((Or.inr ⟨[], (by unfold okC; omega), rfl, (by simp only [hS533, pup, pnew, List.append_nil, List.append_assoc, List.cons_append, List.nil_append]), (fun a_ ha_ hn_0 => (hfr534 a_ ha_ hn_0)), hf535⟩)) hr hlocks dX13_channel_104)
            · exact absurd h_83 (by first | decide | omega)
        · exact absurd h_18 (by first | decide | omega)

set_option maxHeartbeats 4000000 in
set_option maxRecDepth 100000 in
theorem e_X12_lay (l : Launch) (D : va_G) (cy : Nat → ClassId) (S : pS) (sz : Nat) (rw : Nat) (v : Nat) (w : Nat) (rn : Nat) (rg : Nat → Int32) (hL_rw : rw ∈ S.1) (hf_rw : S.2 rw = .inl (cy 0, rn, .inl rg)) (hv : v < 2 ^ 31) (hw1 : w ≤ 16) (hrn : w ≤ rn) (hr2 : rn < 2 ^ 31) : Met l yX12_lay (Cond.code yX12_lay cX12_lay 5 none :: lwU) ({ frames := 0, cells := 0, slots := 0, locals := 0 }) (pPc D cy S sz [.int (nI v), .ref rw, .int (nI 0), .int (nI w)]) (pQv D cy S sz (fun S' => ∃ (lg : Nat → Int32), S'.1 = S.1 ++ [] ∧ (∀ a_, a_ ∈ S.1 → a_ ≠ rw → S'.2 a_ = S.2 a_) ∧ S'.2 rw = .inl (cy 0, rn, .inl lg))) 0 0 (pA S sz) := by
  refine Met.ofW (cc := cX12_lay) (maxL := 5) (ret := none) (by decide) rfl ?_
  intro p e s m args below meth c s₁ B hml hv
  obtain ⟨rfl, rfl, C, hw, hA, hr, hlocks⟩ := p_start B hml hv
  have hx := C.1
  have hb := C.2.1
  have hl := lv_entry ([.int (nI v), .ref rw, .int (nI 0), .int (nI w)]) (n := 5) (Nat.le_of_ble_eq_true rfl)
  rw [lg_entry_eq]
  generalize (lg_sl ([.int (nI v), .ref rw, .int (nI 0), .int (nI w)]) ++ List.replicate (5 - (lg_sl ([.int (nI v), .ref rw, .int (nI 0), .int (nI w)])).length) Slot.unset).toArray = ls at hl ⊢
  have hl : lv_has ls 5 [(0, .int (nI v)), (1, .ref rw), (2, .int (nI 0)), (3, .int (nI w))] := hl
  refine lv_iconst (v := nI 0) hx hb dX12_lay_0 (by decide) ?_
  refine lv_istore (lv' := [(4, .int (nI 0)), (0, .int (nI v)), (1, .ref rw), (2, .int (nI 0)), (3, .int (nI w))]) hx hb dX12_lay_1 hl (by decide) rfl (fun ls hl => ?_)
  have loop3_1 : ∀ (kf : Nat) (k : Nat) (lg : Nat → Int32), w - k < kf → ∀ (Sx2 : pS) (H : Heap) (locs : List Loc) (ls : Array Slot), (Sx2.1 = S.1 ++ []) → (∀ a_, a_ ∈ S.1 → a_ ≠ rw → Sx2.2 a_ = S.2 a_) → (rw ∈ Sx2.1) → (Sx2.2 rw = .inl (cy 0, rn, .inl lg)) → (k ≤ w) → pW D (pA S s.heap.size) s.heap Sx2 H locs → lv_has ls 5 [(4, .int (nI k)), (0, .int (nI v)), (1, .ref rw), (2, .int (nI 0)), (3, .int (nI w))] → W p l e (headSpec (Cond.code yX12_lay cX12_lay 5 none :: lwU) ({ frames := 0, cells := 0, slots := 0, locals := 0 } : Room)).room s m ([.int (nI v), .ref rw, .int (nI 0), .int (nI w)]).toArray below meth c H locs 0 0 (MQ below (pQv D cy S s.heap.size (fun S' => ∃ (lg : Nat → Int32), S'.1 = S.1 ++ [] ∧ (∀ a_, a_ ∈ S.1 → a_ ≠ rw → S'.2 a_ = S.2 a_) ∧ S'.2 rw = .inl (cy 0, rn, .inl lg))) ([.int (nI v), .ref rw, .int (nI 0), .int (nI w)]).toArray s 0 0 (pA S s.heap.size)) (F0 m 3 ls []) := by
    intro kf
    induction kf with
    | zero => intro k lg hm; exact absurd hm (Nat.not_lt_zero _)
    | succ kf ihloop3_1 =>
      intro k lg hm Sx2 H locs ls hS3 hfr4 hL5 hf6 hk hw hl
      refine lv_iload hx hb dX12_lay_3 (lv_at hl 0 rfl) ?_
      refine lv_iload_n hx hb dX12_lay_5 rfl (lv_at hl 4 rfl) ?_
      refine n_icmp_ge (tgt := 31) hx hb (by first | decide | omega) (by first | decide | omega) dX12_lay_6 (by decide) (fun h_6 => ?_) (fun h_6 => ?_)
      · skip
        exact (p_vret C hw (⟨lg, (by simp only [hS3, pup, pnew, List.append_nil, List.append_assoc, List.cons_append, List.nil_append]), (fun a_ ha_ hn_0 => (hfr4 a_ ha_ hn_0)), hf6⟩) hr hlocks dX12_lay_31)
      · skip
        refine lv_aload_n hx hb dX12_lay_9 rfl (lv_at hl 2 rfl) ?_
        refine lv_iload_n hx hb dX12_lay_10 rfl (lv_at hl 3 rfl) ?_
        refine lv_iload hx hb dX12_lay_11 (lv_at hl 0 rfl) ?_
        refine n_iadd hx hb dX12_lay_13 ?_
        refine n_ren (b := k) (by first | rfl | omega | simp) ?_
        refine lv_iload_n hx hb dX12_lay_14 rfl (lv_at hl 1 rfl) ?_
        refine lv_iload_n hx hb dX12_lay_15 rfl (lv_at hl 4 rfl) ?_
        refine lv_iconst (v := nI 1) hx hb dX12_lay_16 (by decide) ?_
        refine n_isub hx hb (by first | decide | omega) dX12_lay_17 ?_
        refine lv_iload hx hb dX12_lay_18 (lv_at hl 0 rfl) ?_
        refine n_isub hx hb (by first | decide | omega) dX12_lay_20 ?_
        refine n_ishr hx hb (by first | decide | omega) (by first | decide | omega) dX12_lay_21 ?_
        refine lv_iconst (v := nI 1) hx hb dX12_lay_22 (by decide) ?_
        refine n_iand hx hb dX12_lay_23 ?_
        refine p_ast C hw 0 rfl hL5 hf6 (by first | decide | omega) (by first | decide | omega) dX12_lay_24 (fun H locs hw => ?_)
        obtain ⟨S7, hS7⟩ : ∃ z, z = pup Sx2 rw (.inl (cy 0, rn, .inl (upd lg k (nI ((v / 2 ^ ((w - 1) - k)) &&& 1))))) := ⟨_, rfl⟩
        replace hw : pW D (pA S s.heap.size) s.heap S7 H locs := by rw [hS7]; exact hw
        have hL8 : rw ∈ S7.1 := by rw [hS7]; exact hL5
        have hf9 : S7.2 rw = .inl (cy 0, rn, .inl (upd lg k (nI ((v / 2 ^ ((w - 1) - k)) &&& 1)))) := by rw [hS7]; exact pup_s
        refine lv_iinc (v := (nI (k + 1))) (lv' := [(4, .int (nI (k + 1))), (0, .int (nI v)), (1, .ref rw), (2, .int (nI 0)), (3, .int (nI w))]) hx hb dX12_lay_25 hl (k := 0) rfl (by rw [show Int32.ofInt 1 = nI 1 from by decide, nI_add]) (by decide) rfl (fun ls hl => ?_)
        refine lv_goto (tgt := 3) hx hb dX12_lay_28 (by decide) ?_
        exact ihloop3_1 (k + 1) (upd lg k (nI ((v / 2 ^ ((w - 1) - k)) &&& 1))) (by omega) S7 H locs ls (by simp only [hS7, hS3, pup, pnew, List.append_nil, List.append_assoc, List.cons_append, List.nil_append]) (fun a_ ha_ hn_0 => ((show S7.2 a_ = Sx2.2 a_ from by rw [hS7]; exact pup_n hn_0).trans (hfr4 a_ ha_ hn_0))) hL8 hf9 (by omega) hw (lv_sub hl [0, 1, 2, 3, 4] rfl)
  exact loop3_1 (w - 0 + 1) 0 rg (by omega) S s.heap [] ls (List.append_nil _).symm (fun a_ ha_ hn_0 => rfl) hL_rw hf_rw (by omega) hw (lv_sub hl [0, 1, 2, 3, 4] rfl)

theorem hde_X13_write_S_0 : yX13_isIn.cls ≠ "java/lang/invoke/MethodHandle" ∧ yX13_isIn.cls ≠ "java/lang/invoke/VarHandle" ∧ (parseMethodDescriptor yX13_isIn.desc).map (fun d => d.parameters.length) = some 3 := by decide +kernel
theorem hde_X13_write_V_1 : yX13_start.cls = RX13 ∧ yX13_start.cls ≠ "java/lang/invoke/MethodHandle" ∧ yX13_start.cls ≠ "java/lang/invoke/VarHandle" ∧ (parseMethodDescriptor yX13_start.desc).map (fun d => d.parameters.length) = some 2 := by decide +kernel
theorem hde_X13_write_V_2 : yX13_refuse.cls = RX13 ∧ yX13_refuse.cls ≠ "java/lang/invoke/MethodHandle" ∧ yX13_refuse.cls ≠ "java/lang/invoke/VarHandle" ∧ (parseMethodDescriptor yX13_refuse.desc).map (fun d => d.parameters.length) = some 2 := by decide +kernel
theorem hde_X13_write_S_3 : yX12_lay.cls ≠ "java/lang/invoke/MethodHandle" ∧ yX12_lay.cls ≠ "java/lang/invoke/VarHandle" ∧ (parseMethodDescriptor yX12_lay.desc).map (fun d => d.parameters.length) = some 4 := by decide +kernel
theorem hde_X13_write_V_4 : yX13_isTooMuch.cls = RX13 ∧ yX13_isTooMuch.cls ≠ "java/lang/invoke/MethodHandle" ∧ yX13_isTooMuch.cls ≠ "java/lang/invoke/VarHandle" ∧ (parseMethodDescriptor yX13_isTooMuch.desc).map (fun d => d.parameters.length) = some 1 := by decide +kernel
set_option maxHeartbeats 4000000 in
set_option maxRecDepth 100000 in
theorem e_X13_write (l : Launch) (D : va_G) (cy : Nat → ClassId) (ed : Nat) (S : pS) (sz : Nat) (mm : Nat) (me : Nat) (sg : Nat) (cn : Nat) (im : Nat) (n : Int32) (many : Int32) (hL_mm : mm ∈ S.1) (hf_mm : S.2 mm = .inr (13, [.int (nI 0), .ref me, .ref sg, .ref cn, .ref im])) (hL_me : me ∈ S.1) (hf_me : S.2 me = .inl (cy 0, 0, .inl (fun _ => 0))) (hL_sg : sg ∈ S.1) (hf_sg : S.2 sg = .inr (0, [.int (nI 0), .ref ed, .int (nI 0)]))  : Met l yX13_write (Cond.code yX13_write cX13_write 4 (some .int) :: lwU) ({ frames := 7, cells := 3, slots := 45, locals := 152 }) (ePc D cy ed S sz [.ref mm, .int n, .int many]) (pQi D cy S sz (fun r S' => (∃ (w9 : Nat) (nl : List Nat), (okW n many) ∧ r = many ∧ S'.1 = S.1 ++ nl ∧ (∀ a_, a_ ∈ S.1 → a_ ≠ mm → S'.2 a_ = S.2 a_) ∧ S'.2 mm = .inr (13, [.int (nI 0), .ref w9, .ref sg, .ref cn, .ref im])) ∨ (∃ (nl : List Nat), (¬ okW n many) ∧ r = (nI 0) ∧ S'.1 = S.1 ++ nl ∧ (∀ a_, a_ ∈ S.1 → a_ ≠ mm → S'.2 a_ = S.2 a_) ∧ S'.2 mm = .inr (13, [.int (nI 1), .ref me, .ref sg, .ref cn, .ref im])))) 3 45 (pA S sz) := by
  refine Met.ofW (cc := cX13_write) (maxL := 4) (ret := (some .int)) (by decide) rfl ?_
  intro p e s m args below meth c s₁ B hml hv
  obtain ⟨rfl, rfl, C, hw, hA, hr, hlocks, hE⟩ := e_start B hml hv
  have hx := C.1
  have hb := C.2.1
  have hl := lv_entry ([.ref mm, .int n, .int many]) (n := 4) (Nat.le_of_ble_eq_true rfl)
  rw [lg_entry_eq]
  generalize (lg_sl ([.ref mm, .int n, .int many]) ++ List.replicate (4 - (lg_sl ([.ref mm, .int n, .int many])).length) Slot.unset).toArray = ls at hl ⊢
  have hl : lv_has ls 4 [(0, .ref mm), (1, .int n), (2, .int many)] := hl
  have hin_RX13 : ∀ w ∈ u_ws RX13 TX13 5, w ∈ (Cond.code yX13_write cX13_write 4 (some .int) :: lwU) := fun w h => mU (sub_RX13 w h)
  refine lv_aload_n hx hb dX13_write_0 rfl (lv_at hl 0 rfl) ?_
  refine lv_iload_n hx hb dX13_write_1 rfl (lv_at hl 2 rfl) ?_
  refine lv_iconst (v := nI 1) hx hb dX13_write_2 (by decide) ?_
  refine lv_bipush (v := nI 16) hx hb dX13_write_3 (by decide) ?_
  refine p_calli (va_runS (As := [.int many, .int (nI 1), .int (nI 16)]) (rest := [.ref mm]) C.fix (e_X13_isIn l D cy S s.heap.size many (nI 1) (nI 16) many.toInt ((1 : Nat) : Int) ((16 : Nat) : Int)  rfl (nI_toInt (by first | decide | omega)) (nI_toInt (by first | decide | omega))) (va_cwS 3 C.2.2.2.2.1 (gU_S mw_394 mw_395 mw_5 (subU mw_396)) rfl rfl rfl hde_X13_write_S_0 ⟨Nat.le_of_ble_eq_true rfl, Nat.le_of_ble_eq_true rfl⟩) (p_preS C hw) rfl rfl hl.1 rfl (lv_room (Nat.le_of_ble_eq_true rfl)) dX13_write_5 ⟨(Nat.le_of_ble_eq_true rfl), (Nat.le_of_ble_eq_true rfl)⟩) hw hA (fun r2 S1 H locs hpost hw => ?_)
  rcases hpost with hpost | hpost
  · skip
    obtain ⟨hc3, hr_, hS_⟩ := hpost
    subst hr_
    subst hS_
    refine n_if_eq (tgt := 22) hx hb (by first | decide | omega) dX13_write_8 (by decide) (fun h_8 => ?_) (fun h_8 => ?_)
    · exact absurd h_8 (by first | decide | omega)
    · skip
      obtain ⟨wN, hw31, rfl, hwi⟩ := z_nat (x := many) (by omega)
      have hw16 : wN ≤ 16 := by omega
      obtain ⟨PW, hPW⟩ : ∃ z : Nat, z = 2 ^ wN := ⟨_, rfl⟩
      have hp16 : PW ≤ 65536 := by rw [hPW]; exact Nat.pow_le_pow_right (n := 2) (by decide) hw16
      refine lv_iload_n hx hb dX13_write_11 rfl (lv_at hl 1 rfl) ?_
      refine z_if_lt (tgt := 22) hx hb rfl dX13_write_12 (by decide) (fun h_12 => ?_) (fun h_12 => ?_)
      · skip
        refine lv_iconst (v := nI 1) hx hb dX13_write_22 (by decide) ?_
        refine lv_goto (tgt := 27) hx hb dX13_write_23 (by decide) ?_
        refine lv_iconst (v := nI 1) hx hb dX13_write_27 (by decide) ?_
        refine p_calli (va_runV (As := [.int (nI 1), .int (nI 1)]) (rest := []) C.fix (e_X13_start1 l D cy S H.size mm me sg cn im 1 0 hL_mm hf_mm (by first | assumption | decide | omega) (by first | assumption | decide | omega)) (cwV 2 C.2.2.2.2.1 (gU_V mw_397 mw_398 mw_399 mw_5 (subU mw_400)) rfl rfl rfl hde_X13_write_V_1 ⟨Nat.le_of_ble_eq_true rfl, Nat.le_of_ble_eq_true rfl⟩) (p_preV C hw hL_mm hf_mm rfl) rfl rfl hl.1 rfl (lv_room (Nat.le_of_ble_eq_true rfl)) dX13_write_28 ⟨(Nat.le_of_ble_eq_true rfl), (Nat.le_of_ble_eq_true rfl)⟩) hw hA (fun r5 S4 H locs hpost hw => ?_)
        obtain ⟨hr_, hS6, hfr7, hf8⟩ := hpost
        subst hr_
        have hL9 : mm ∈ S4.1 := by rw [hS6]; exact List.mem_append_left _ hL_mm
        refine n_if_ne (tgt := 59) hx hb (by first | decide | omega) dX13_write_31 (by decide) (fun h_31 => ?_) (fun h_31 => ?_)
        · skip
          refine lv_iconst (v := nI 0) hx hb dX13_write_59 (by decide) ?_
          refine W.widen (k := 3) (n := 45) (Nat.le_of_ble_eq_true rfl) (Nat.le_of_ble_eq_true rfl) ?_
          exact (p_iret C hw ((Or.inr ⟨[], (fun h => by obtain ⟨h1, h2, h3, h4⟩ := h; first | omega | (rw [hwi, hvi, Int.toNat_natCast] at h4; rw [hPW] at h_19; exact absurd (by exact_mod_cast h4) (Nat.not_lt.mpr h_19))), rfl, (by simp only [hS6, pup, pnew, List.append_nil, List.append_assoc, List.cons_append, List.nil_append]), (fun a_ ha_ hn_0 => (hfr7 a_ ha_ hn_0)), hf8⟩)) hr hlocks dX13_write_60)
        · exact absurd h_31 (by first | decide | omega)
      · skip
        obtain ⟨vN, hv31, rfl, hvi⟩ := z_nat (x := n) (by omega)
        refine lv_iload_n hx hb dX13_write_15 rfl (lv_at hl 1 rfl) ?_
        refine lv_iconst (v := nI 1) hx hb dX13_write_16 (by decide) ?_
        refine lv_iload_n hx hb dX13_write_17 rfl (lv_at hl 2 rfl) ?_
        refine n_ishl hx hb (by omega) (by rw [← hPW]; omega) dX13_write_18 ?_
        refine n_ren (b := PW) (by rw [hPW, Nat.one_mul]) ?_
        refine n_icmp_lt (tgt := 26) hx hb (by first | decide | omega) (by first | decide | omega) dX13_write_19 (by decide) (fun h_19 => ?_) (fun h_19 => ?_)
        · skip
          refine lv_iconst (v := nI 0) hx hb dX13_write_26 (by decide) ?_
          refine lv_iconst (v := nI 1) hx hb dX13_write_27 (by decide) ?_
          refine p_calli (va_runV (As := [.int (nI 0), .int (nI 1)]) (rest := []) C.fix (e_X13_start0 l D cy S H.size mm me sg cn im 1 0 hL_mm hf_mm ) (cwV 2 C.2.2.2.2.1 (gU_V mw_397 mw_398 mw_399 mw_5 (subU mw_400)) rfl rfl rfl hde_X13_write_V_1 ⟨Nat.le_of_ble_eq_true rfl, Nat.le_of_ble_eq_true rfl⟩) (p_preV C hw hL_mm hf_mm rfl) rfl rfl hl.1 rfl (lv_room (Nat.le_of_ble_eq_true rfl)) dX13_write_28 ⟨(Nat.le_of_ble_eq_true rfl), (Nat.le_of_ble_eq_true rfl)⟩) hw hA (fun r11 S10 H locs hpost hw => ?_)
          obtain ⟨hr_, hS12, hfr13, hf14⟩ := hpost
          subst hr_
          have hL15 : mm ∈ S10.1 := by rw [hS12]; exact List.mem_append_left _ hL_mm
          refine n_if_ne (tgt := 59) hx hb (by first | decide | omega) dX13_write_31 (by decide) (fun h_31 => ?_) (fun h_31 => ?_)
          · exact absurd h_31 (by first | decide | omega)
          · skip
            refine lv_aload_n hx hb dX13_write_34 rfl (lv_at hl 0 rfl) ?_
            refine lv_aload_n hx hb dX13_write_35 rfl (lv_at hl 0 rfl) ?_
            refine p_get C hw (ci := 13) (Cn := RX13) (T := TX13) (N := 5) hL15 hf14 rfl hin_RX13 1 (by decide) (mU mw_86) rfl rfl dX13_write_36 ?_
            have hL16 : me ∈ S10.1 := by rw [hS12]; exact List.mem_append_left _ hL_me
            have hf17 : S10.2 me = .inl (cy 0, 0, .inl (fun _ => 0)) := (hfr13 me hL_me (ne_cells hf_me hf_mm (by nofun))).trans hf_me
            refine n_len C hw 0 rfl hL16 hf17 (n := 0) rfl dX13_write_39 ?_
            refine lv_iload_n hx hb dX13_write_40 rfl (lv_at hl 2 rfl) ?_
            refine n_iadd hx hb dX13_write_41 ?_
            refine n_ren (b := wN) (by first | rfl | omega | simp) ?_
            refine lv_bipush (v := nI 32) hx hb dX13_write_42 (by decide) ?_
            refine n_icmp_le (tgt := 51) hx hb (by first | decide | omega) (by first | decide | omega) dX13_write_44 (by decide) (fun h_44 => ?_) (fun h_44 => ?_)
            · skip
              refine lv_iconst (v := nI 0) hx hb dX13_write_51 (by decide) ?_
              refine lv_iconst (v := nI 2) hx hb dX13_write_52 (by decide) ?_
              refine p_calli (va_runV (As := [.int (nI 0), .int (nI 2)]) (rest := []) C.fix (e_X13_refuse0 l D cy S10 H.size mm me sg cn im 2 hL15 hf14 ) (cwV 2 C.2.2.2.2.1 (gU_V mw_402 mw_403 mw_404 mw_5 (subU mw_405)) rfl rfl rfl hde_X13_write_V_2 ⟨Nat.le_of_ble_eq_true rfl, Nat.le_of_ble_eq_true rfl⟩) (p_preV C hw hL15 hf14 rfl) rfl rfl hl.1 rfl (lv_room (Nat.le_of_ble_eq_true rfl)) dX13_write_53 ⟨(Nat.le_of_ble_eq_true rfl), (Nat.le_of_ble_eq_true rfl)⟩) hw hA (fun r19 S18 H locs hpost hw => ?_)
              obtain ⟨hr_, hS_⟩ := hpost
              subst hr_
              subst hS_
              refine n_if_eq (tgt := 61) hx hb (by first | decide | omega) dX13_write_56 (by decide) (fun h_56 => ?_) (fun h_56 => ?_)
              · skip
                refine lv_aload_n hx hb dX13_write_61 rfl (lv_at hl 0 rfl) ?_
                refine p_get C hw (ci := 13) (Cn := RX13) (T := TX13) (N := 5) hL15 hf14 rfl hin_RX13 1 (by decide) (mU mw_86) rfl rfl dX13_write_62 ?_
                refine n_len C hw 0 rfl hL16 hf17 (n := 0) rfl dX13_write_65 ?_
                refine lv_iload_n hx hb dX13_write_66 rfl (lv_at hl 2 rfl) ?_
                refine n_iadd hx hb dX13_write_67 ?_
                refine n_ren (b := wN) (by first | rfl | omega | simp) ?_
                refine p_newa C hw hA (mU mw_59) 0 rfl (n := wN) (by first | decide | omega) (Nat.le_of_ble_eq_true rfl) (show 0 + wN ≤ 45 from by omega) dX13_write_68 (fun w9 H hq_w9 hw => ?_)
                obtain ⟨S20, hS20⟩ : ∃ z, z = pnew S10 w9 (.inl (cy 0, wN, .inl (fun _ => 0))) := ⟨_, rfl⟩
                replace hw : pW D (pA S s.heap.size) s.heap S20 H locs := by rw [hS20]; exact hw
                have hL21 : w9 ∈ S20.1 := by rw [hS20]; exact List.mem_append_right _ List.mem_cons_self
                have hf22 : S20.2 w9 = .inl (cy 0, wN, .inl (fun _ => 0)) := by rw [hS20]; exact pnew_s
                refine lv_astore_n (lv' := [(3, .ref w9), (0, .ref mm), (1, .int (nI vN)), (2, .int (nI wN))]) hx hb dX13_write_70 rfl hl (by decide) rfl (fun ls hl => ?_)
                refine lv_aload_n hx hb dX13_write_71 rfl (lv_at hl 1 rfl) ?_
                have hL23 : mm ∈ S20.1 := by rw [hS20]; exact List.mem_append_left _ hL15
                have hf24 : S20.2 mm = .inr (13, [.int (nI 0), .ref me, .ref sg, .ref cn, .ref im]) := by rw [hS20]; exact (pnew_n (fun z : mm = w9 => hq_w9 (by rw [← z]; exact hL15))).trans hf14
                refine p_get C hw (ci := 13) (Cn := RX13) (T := TX13) (N := 5) hL23 hf24 rfl hin_RX13 1 (by decide) (mU mw_86) rfl rfl dX13_write_72 ?_
                refine lv_iconst (v := nI 0) hx hb dX13_write_75 (by decide) ?_
                refine lv_aload_n hx hb dX13_write_76 rfl (lv_at hl 0 rfl) ?_
                refine lv_iconst (v := nI 0) hx hb dX13_write_77 (by decide) ?_
                refine lv_aload_n hx hb dX13_write_78 rfl (lv_at hl 1 rfl) ?_
                refine p_get C hw (ci := 13) (Cn := RX13) (T := TX13) (N := 5) hL23 hf24 rfl hin_RX13 1 (by decide) (mU mw_86) rfl rfl dX13_write_79 ?_
                have hL25 : me ∈ S20.1 := by rw [hS20]; exact List.mem_append_left _ hL16
                have hf26 : S20.2 me = .inl (cy 0, 0, .inl (fun _ => 0)) := by rw [hS20]; exact (pnew_n (fun z : me = w9 => hq_w9 (by rw [← z]; exact hL16))).trans hf17
                refine n_len C hw 0 rfl hL25 hf26 (n := 0) rfl dX13_write_82 ?_
                refine p_copy C hw hl.1.symm (C.2.2.2.2.1 _ (mU mw_390)) (C.2.2.2.2.1 _ (mU mw_391)) (C.2.2.2.2.1 _ (mU mw_392)) (C.2.2.2.2.1 _ (mU mw_393)) hL25 hf26 hL21 hf22 (sp := 0) (dp := 0) (k := 0) (by first | decide | omega) (by first | decide | omega) (by first | decide | omega) (by first | decide | omega) (Nat.le_of_ble_eq_true rfl) (Nat.le_of_ble_eq_true rfl) dX13_write_83 (fun H locs hw => ?_)
                obtain ⟨S27, hS27⟩ : ∃ z, z = pup S20 w9 (.inl (cy 0, wN, .inl (va_cpy (fun _ => 0) (fun _ => 0) 0 0 0))) := ⟨_, rfl⟩
                replace hw : pW D (pA S s.heap.size) s.heap S27 H locs := by rw [hS27]; exact hw
                have hL28 : w9 ∈ S27.1 := by rw [hS27]; exact hL21
                have hf29 : S27.2 w9 = .inl (cy 0, wN, .inl (va_cpy (fun _ => 0) (fun _ => 0) 0 0 0)) := by rw [hS27]; exact pup_s
                refine lv_iload_n hx hb dX13_write_86 rfl (lv_at hl 2 rfl) ?_
                refine lv_aload_n hx hb dX13_write_87 rfl (lv_at hl 0 rfl) ?_
                refine lv_aload_n hx hb dX13_write_88 rfl (lv_at hl 1 rfl) ?_
                have hL30 : mm ∈ S27.1 := by rw [hS27]; exact hL23
                have hf31 : S27.2 mm = .inr (13, [.int (nI 0), .ref me, .ref sg, .ref cn, .ref im]) := by rw [hS27]; exact (pup_n (fun z : mm = w9 => hq_w9 (by rw [← z]; exact hL15))).trans hf24
                refine p_get C hw (ci := 13) (Cn := RX13) (T := TX13) (N := 5) hL30 hf31 rfl hin_RX13 1 (by decide) (mU mw_86) rfl rfl dX13_write_89 ?_
                have hL32 : me ∈ S27.1 := by rw [hS27]; exact hL25
                have hf33 : S27.2 me = .inl (cy 0, 0, .inl (fun _ => 0)) := by rw [hS27]; exact (pup_n (fun z : me = w9 => hq_w9 (by rw [← z]; exact hL16))).trans hf26
                refine n_len C hw 0 rfl hL32 hf33 (n := 0) rfl dX13_write_92 ?_
                refine lv_iload_n hx hb dX13_write_93 rfl (lv_at hl 3 rfl) ?_
                refine p_callv (va_runSN (As := [.int (nI vN), .ref w9, .int (nI 0), .int (nI wN)]) (rest := []) C.fix (e_X12_lay l D cy S27 H.size w9 vN wN wN (va_cpy (fun _ => 0) (fun _ => 0) 0 0 0) hL28 hf29 (by first | assumption | decide | omega) (by first | assumption | decide | omega) (by first | assumption | decide | omega) (by first | assumption | decide | omega)) ⟨va_cnB 4 C.2.2.2.2.1 (gU_sub (subU mw_408)) rfl rfl rfl (show va_Nw (.methodLinkNest RX13 108 yX12_lay "SoundingLineModel") s from C.layN) (C.2.2.2.2.1 (.initialized RX12) (mU mw_407)) hde_X13_write_S_3 ⟨Nat.le_of_ble_eq_true rfl, Nat.le_of_ble_eq_true rfl⟩, C.2.2.2.2.1 (.static yX12_lay) (mU mw_406), trivial⟩ (p_preS C hw) rfl rfl hl.1 rfl (lv_room (Nat.le_of_ble_eq_true rfl)) dX13_write_94 ⟨(Nat.le_of_ble_eq_true rfl), (show 0 + wN + 0 ≤ 45 from by omega)⟩) hw hA (fun S34 H locs hpost hw => ?_)
                obtain ⟨lg36, hS37, hfr38, hf39⟩ := hpost
                have hL40 : w9 ∈ S34.1 := by rw [hS37]; exact List.mem_append_left _ hL28
                refine lv_aload_n hx hb dX13_write_97 rfl (lv_at hl 1 rfl) ?_
                refine lv_aload_n hx hb dX13_write_98 rfl (lv_at hl 1 rfl) ?_
                refine lv_aload_n hx hb dX13_write_99 rfl (lv_at hl 0 rfl) ?_
                have hL41 : mm ∈ S34.1 := by rw [hS37]; exact List.mem_append_left _ hL30
                have hf42 : S34.2 mm = .inr (13, [.int (nI 0), .ref me, .ref sg, .ref cn, .ref im]) := (hfr38 mm hL30 (fun z : mm = w9 => hq_w9 (by rw [← z]; exact hL15))).trans hf31
                have hL43 : sg ∈ S10.1 := by rw [hS12]; exact List.mem_append_left _ hL_sg
                have hf44 : S10.2 sg = .inr (0, [.int (nI 0), .ref ed, .int (nI 0)]) := (hfr13 sg hL_sg (ne_cells hf_sg hf_mm (by nofun))).trans hf_sg
                have hL45 : sg ∈ S20.1 := by rw [hS20]; exact List.mem_append_left _ hL43
                have hf46 : S20.2 sg = .inr (0, [.int (nI 0), .ref ed, .int (nI 0)]) := by rw [hS20]; exact (pnew_n (fun z : sg = w9 => hq_w9 (by rw [← z]; exact hL43))).trans hf44
                have hL47 : sg ∈ S27.1 := by rw [hS27]; exact hL45
                have hf48 : S27.2 sg = .inr (0, [.int (nI 0), .ref ed, .int (nI 0)]) := by rw [hS27]; exact (pup_n (fun z : sg = w9 => hq_w9 (by rw [← z]; exact hL43))).trans hf46
                have hL49 : sg ∈ S34.1 := by rw [hS37]; exact List.mem_append_left _ hL47
                have hf50 : S34.2 sg = .inr (0, [.int (nI 0), .ref ed, .int (nI 0)]) := (hfr38 sg hL47 (fun z : sg = w9 => hq_w9 (by rw [← z]; exact hL43))).trans hf48
                refine p_calli (va_runV (As := [.ref w9]) (rest := [.ref mm]) C.fix (e_X13_isTooMuch0 l D cy ed S34 H.size mm w9 me sg cn im 0 wN lg36 hL41 hf42 hL49 hf50 hL40 hf39 (by first | assumption | decide | omega)) (cwV 1 C.2.2.2.2.1 (gU_V mw_409 mw_410 mw_411 mw_5 (subU mw_412)) rfl rfl rfl hde_X13_write_V_4 ⟨Nat.le_of_ble_eq_true rfl, Nat.le_of_ble_eq_true rfl⟩) (e_preV C hw hA hE hL41 hf42 rfl) rfl rfl hl.1 rfl (lv_room (Nat.le_of_ble_eq_true rfl)) dX13_write_100 ⟨(Nat.le_of_ble_eq_true rfl), (show 0 + wN + 0 + 13 ≤ 45 from by omega)⟩) hw hA (fun r52 S51 H locs hpost hw => ?_)
                obtain ⟨nl53, hr_, hS54, hfr55⟩ := hpost
                subst hr_
                refine lv_iconst (v := nI 2) hx hb dX13_write_103 (by decide) ?_
                have hL56 : mm ∈ S51.1 := by rw [hS54]; exact List.mem_append_left _ hL41
                have hf57 : S51.2 mm = .inr (13, [.int (nI 0), .ref me, .ref sg, .ref cn, .ref im]) := (hfr55 mm hL41 ).trans hf42
                refine p_calli (va_runV (As := [.int (nI 0), .int (nI 2)]) (rest := []) C.fix (e_X13_refuse0 l D cy S51 H.size mm me sg cn im 2 hL56 hf57 ) (cwV 2 C.2.2.2.2.1 (gU_V mw_402 mw_403 mw_404 mw_5 (subU mw_405)) rfl rfl rfl hde_X13_write_V_2 ⟨Nat.le_of_ble_eq_true rfl, Nat.le_of_ble_eq_true rfl⟩) (p_preV C hw hL56 hf57 rfl) rfl rfl hl.1 rfl (lv_room (Nat.le_of_ble_eq_true rfl)) dX13_write_104 ⟨(Nat.le_of_ble_eq_true rfl), (show 0 + wN + 0 + 13 + 0 ≤ 45 from by omega)⟩) hw hA (fun r59 S58 H locs hpost hw => ?_)
                obtain ⟨hr_, hS_⟩ := hpost
                subst hr_
                subst hS_
                refine n_if_eq (tgt := 112) hx hb (by first | decide | omega) dX13_write_107 (by decide) (fun h_107 => ?_) (fun h_107 => ?_)
                · skip
                  refine lv_aload_n hx hb dX13_write_112 rfl (lv_at hl 1 rfl) ?_
                  refine lv_aload_n hx hb dX13_write_113 rfl (lv_at hl 0 rfl) ?_
                  refine p_put C hw (ci := 13) (Cn := RX13) (T := TX13) (N := 5) tyX13 tyX13_ok nmX13 hL56 hf57 rfl hin_RX13 1 (by decide) (mU mw_86) rfl rfl rfl rfl rfl (by simp) dX13_write_114 rfl (fun H locs hw => ?_)
                  obtain ⟨S60, hS60⟩ : ∃ z, z = pup S51 mm (.inr (13, [.int (nI 0), .ref w9, .ref sg, .ref cn, .ref im])) := ⟨_, rfl⟩
                  replace hw : pW D (pA S s.heap.size) s.heap S60 H locs := by rw [hS60]; exact hw
                  have hL61 : mm ∈ S60.1 := by rw [hS60]; exact hL56
                  have hf62 : S60.2 mm = .inr (13, [.int (nI 0), .ref w9, .ref sg, .ref cn, .ref im]) := by rw [hS60]; exact pup_s
                  refine lv_aload_n hx hb dX13_write_117 rfl (lv_at hl 1 rfl) ?_
                  refine p_get C hw (ci := 13) (Cn := RX13) (T := TX13) (N := 5) hL61 hf62 rfl hin_RX13 1 (by decide) (mU mw_86) rfl rfl dX13_write_118 ?_
                  have hL63 : w9 ∈ S51.1 := by rw [hS54]; exact List.mem_append_left _ hL40
                  have hf64 : S51.2 w9 = .inl (cy 0, wN, .inl lg36) := (hfr55 w9 hL40 ).trans hf39
                  have hL65 : w9 ∈ S60.1 := by rw [hS60]; exact hL63
                  have hf66 : S60.2 w9 = .inl (cy 0, wN, .inl lg36) := by rw [hS60]; exact (pup_n (fun z : w9 = mm => hq_w9 (by rw [z]; exact hL15))).trans hf64
                  refine n_len C hw 0 rfl hL65 hf66 (n := wN) rfl dX13_write_121 ?_
                  refine W.widen (k := 3) (n := 45) (Nat.le_of_ble_eq_true rfl) (show 0 + wN + 0 + 13 + 0 ≤ 45 from by omega) ?_
                  exact (p_iret C hw ((Or.inl ⟨w9, ([w9] ++ nl53), ⟨by omega, by omega, by omega, by rw [hwi, hvi, Int.toNat_natCast]; rw [hPW] at h_19; exact_mod_cast h_19⟩, rfl, (by simp only [hS60, hS54, hS37, hS27, hS20, hS12, pup, pnew, List.append_nil, List.append_assoc, List.cons_append, List.nil_append]), (fun a_ ha_ hn_0 => ((show S60.2 a_ = S51.2 a_ from by rw [hS60]; exact pup_n hn_0).trans ((hfr55 a_ (show a_ ∈ S34.1 from by rw [hS37]; exact List.mem_append_left _ (show a_ ∈ S27.1 from by rw [hS27]; exact (show a_ ∈ S20.1 from by rw [hS20]; exact List.mem_append_left _ (show a_ ∈ S10.1 from by rw [hS12]; exact List.mem_append_left _ ha_)))) ).trans ((hfr38 a_ (show a_ ∈ S27.1 from by rw [hS27]; exact (show a_ ∈ S20.1 from by rw [hS20]; exact List.mem_append_left _ (show a_ ∈ S10.1 from by rw [hS12]; exact List.mem_append_left _ ha_))) (fun z : a_ = w9 => hq_w9 (by rw [← z]; exact (show a_ ∈ S10.1 from by rw [hS12]; exact List.mem_append_left _ ha_)))).trans ((show S27.2 a_ = S20.2 a_ from by rw [hS27]; exact pup_n (fun z : a_ = w9 => hq_w9 (by rw [← z]; exact (show a_ ∈ S10.1 from by rw [hS12]; exact List.mem_append_left _ ha_)))).trans ((show S20.2 a_ = S10.2 a_ from by rw [hS20]; exact pnew_n (fun z : a_ = w9 => hq_w9 (by rw [← z]; exact (show a_ ∈ S10.1 from by rw [hS12]; exact List.mem_append_left _ ha_)))).trans (hfr13 a_ ha_ hn_0))))))), hf62⟩)) hr hlocks dX13_write_122)
                · exact absurd h_107 (by first | decide | omega)
              · exact absurd h_56 (by first | decide | omega)
            · exfalso; omega
        · skip
          refine lv_iconst (v := nI 1) hx hb dX13_write_22 (by decide) ?_
          refine lv_goto (tgt := 27) hx hb dX13_write_23 (by decide) ?_
          refine lv_iconst (v := nI 1) hx hb dX13_write_27 (by decide) ?_
          refine p_calli (va_runV (As := [.int (nI 1), .int (nI 1)]) (rest := []) C.fix (e_X13_start1 l D cy S H.size mm me sg cn im 1 0 hL_mm hf_mm (by first | assumption | decide | omega) (by first | assumption | decide | omega)) (cwV 2 C.2.2.2.2.1 (gU_V mw_397 mw_398 mw_399 mw_5 (subU mw_400)) rfl rfl rfl hde_X13_write_V_1 ⟨Nat.le_of_ble_eq_true rfl, Nat.le_of_ble_eq_true rfl⟩) (p_preV C hw hL_mm hf_mm rfl) rfl rfl hl.1 rfl (lv_room (Nat.le_of_ble_eq_true rfl)) dX13_write_28 ⟨(Nat.le_of_ble_eq_true rfl), (Nat.le_of_ble_eq_true rfl)⟩) hw hA (fun r68 S67 H locs hpost hw => ?_)
          obtain ⟨hr_, hS69, hfr70, hf71⟩ := hpost
          subst hr_
          have hL72 : mm ∈ S67.1 := by rw [hS69]; exact List.mem_append_left _ hL_mm
          refine n_if_ne (tgt := 59) hx hb (by first | decide | omega) dX13_write_31 (by decide) (fun h_31 => ?_) (fun h_31 => ?_)
          · skip
            refine lv_iconst (v := nI 0) hx hb dX13_write_59 (by decide) ?_
            refine W.widen (k := 3) (n := 45) (Nat.le_of_ble_eq_true rfl) (Nat.le_of_ble_eq_true rfl) ?_
            exact (p_iret C hw ((Or.inr ⟨[], (fun h => by obtain ⟨h1, h2, h3, h4⟩ := h; first | omega | (rw [hwi, hvi, Int.toNat_natCast] at h4; rw [hPW] at h_19; exact absurd (by exact_mod_cast h4) (Nat.not_lt.mpr h_19))), rfl, (by simp only [hS69, pup, pnew, List.append_nil, List.append_assoc, List.cons_append, List.nil_append]), (fun a_ ha_ hn_0 => (hfr70 a_ ha_ hn_0)), hf71⟩)) hr hlocks dX13_write_60)
          · exact absurd h_31 (by first | decide | omega)
  · skip
    obtain ⟨hc73, hr_, hS_⟩ := hpost
    subst hr_
    subst hS_
    refine n_if_eq (tgt := 22) hx hb (by first | decide | omega) dX13_write_8 (by decide) (fun h_8 => ?_) (fun h_8 => ?_)
    · skip
      refine lv_iconst (v := nI 1) hx hb dX13_write_22 (by decide) ?_
      refine lv_goto (tgt := 27) hx hb dX13_write_23 (by decide) ?_
      refine lv_iconst (v := nI 1) hx hb dX13_write_27 (by decide) ?_
      refine p_calli (va_runV (As := [.int (nI 1), .int (nI 1)]) (rest := []) C.fix (e_X13_start1 l D cy S H.size mm me sg cn im 1 0 hL_mm hf_mm (by first | assumption | decide | omega) (by first | assumption | decide | omega)) (cwV 2 C.2.2.2.2.1 (gU_V mw_397 mw_398 mw_399 mw_5 (subU mw_400)) rfl rfl rfl hde_X13_write_V_1 ⟨Nat.le_of_ble_eq_true rfl, Nat.le_of_ble_eq_true rfl⟩) (p_preV C hw hL_mm hf_mm rfl) rfl rfl hl.1 rfl (lv_room (Nat.le_of_ble_eq_true rfl)) dX13_write_28 ⟨(Nat.le_of_ble_eq_true rfl), (Nat.le_of_ble_eq_true rfl)⟩) hw hA (fun r75 S74 H locs hpost hw => ?_)
      obtain ⟨hr_, hS76, hfr77, hf78⟩ := hpost
      subst hr_
      have hL79 : mm ∈ S74.1 := by rw [hS76]; exact List.mem_append_left _ hL_mm
      refine n_if_ne (tgt := 59) hx hb (by first | decide | omega) dX13_write_31 (by decide) (fun h_31 => ?_) (fun h_31 => ?_)
      · skip
        refine lv_iconst (v := nI 0) hx hb dX13_write_59 (by decide) ?_
        refine W.widen (k := 3) (n := 45) (Nat.le_of_ble_eq_true rfl) (Nat.le_of_ble_eq_true rfl) ?_
        exact (p_iret C hw ((Or.inr ⟨[], (fun h => by obtain ⟨h1, h2, h3, h4⟩ := h; first | omega | (rw [hwi, hvi, Int.toNat_natCast] at h4; rw [hPW] at h_19; exact absurd (by exact_mod_cast h4) (Nat.not_lt.mpr h_19))), rfl, (by simp only [hS76, pup, pnew, List.append_nil, List.append_assoc, List.cons_append, List.nil_append]), (fun a_ ha_ hn_0 => (hfr77 a_ ha_ hn_0)), hf78⟩)) hr hlocks dX13_write_60)
      · exact absurd h_31 (by first | decide | omega)
    · exact absurd h_8 (by first | decide | omega)
