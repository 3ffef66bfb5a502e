theorem len_8 {dv k : Nat} (hd : dv < 512) (hk : k ≤ 9) (h : 0 < dv / 2 ^ (k + 1)) : k + 1 ≤ 9 := by
  rcases Nat.lt_or_ge k 9 with h1 | h1
  · omega
  · have e : k = 9 := Nat.le_antisymm hk h1
    rw [e] at h; omega
set_option maxHeartbeats 4000000 in
set_option maxRecDepth 100000 in
theorem g_L_below (l : Launch) (D : va_G) (cy : Nat → ClassId) (S : pS) (sz : Nat)  (v : Int32) (nn : Nat) (h1 : 0 < nn) (h2 : nn < 2 ^ 31) : Met l yL_below (Cond.code yL_below cL_below 2 (some .int) :: lwU) ({ frames := 0, cells := 0, slots := 0, locals := 0 }) (pPc D cy S sz [.int v, .int (nI nn)]) (pQi D cy S sz (fun r S' => ∃ t, t < nn ∧ r = nI t ∧ S = S')) 0 0 (pA S sz) := by
  refine Met.ofW (cc := cL_below) (maxL := 2) (ret := (some .int)) (by decide) rfl ?_
  intro p e s m args below meth c s₁ B hml hv
  obtain ⟨rfl, rfl, C, hw, hA, hr, hlocks⟩ := p_start B hml hv
  have hx := C.1
  have hb := C.2.1
  have hl := lv_entry ([.int v, .int (nI nn)]) (n := 2) (Nat.le_of_ble_eq_true rfl)
  rw [lg_entry_eq]
  generalize (lg_sl ([.int v, .int (nI nn)]) ++ List.replicate (2 - (lg_sl ([.int v, .int (nI nn)])).length) Slot.unset).toArray = ls at hl ⊢
  have hl : lv_has ls 2 [(0, .int v), (1, .int (nI nn))] := hl
  refine lv_iload_n hx hb dL_below_0 rfl (lv_at hl 0 rfl) ?_
  refine lv_ldc (v := nI 2147483647) hx hb C.2.2.2.1 (C.2.2.2.2.1 (.constant RL 7 (2147483647)) (mU mw_85)) dL_below_1 ?_
  refine lv_iand hx hb dL_below_3 ?_
  obtain ⟨w, hw31, ew⟩ := and31 v
  refine x_ren (b := nI w) ew ?_
  refine lv_iload_n hx hb dL_below_4 rfl (lv_at hl 1 rfl) ?_
  refine n_irem hx hb h1 hw31 h2 dL_below_5 ?_
  exact (p_iret C hw ⟨_, Nat.mod_lt _ h1, rfl, rfl⟩ hr hlocks dL_below_6)

set_option maxHeartbeats 4000000 in
set_option maxRecDepth 100000 in
theorem g_L_cell (l : Launch) (D : va_G) (cy : Nat → ClassId) (ed : Nat) (S : pS) (sz : Nat)  (k : Nat) (hk : k < 1000) : Met l yL_cell (Cond.code yL_cell cL_cell 2 (some .int) :: lwU) ({ frames := 0, cells := 0, slots := 0, locals := 0 }) (ePc D cy ed S sz [.ref ed, .int (nI k)]) (pQi D cy S sz (fun r S' => S = S')) 0 0 (pA S sz) := by
  refine Met.ofW (cc := cL_cell) (maxL := 2) (ret := (some .int)) (by decide) rfl ?_
  intro p e s m args below meth c s₁ B hml hv
  obtain ⟨rfl, rfl, C, hw, hA, hr, hlocks, hE⟩ := e_start B hml hv
  have hx := C.1
  have hb := C.2.1
  have hl := lv_entry ([.ref ed, .int (nI k)]) (n := 2) (Nat.le_of_ble_eq_true rfl)
  rw [lg_entry_eq]
  generalize (lg_sl ([.ref ed, .int (nI k)]) ++ List.replicate (2 - (lg_sl ([.ref ed, .int (nI k)])).length) Slot.unset).toArray = ls at hl ⊢
  have hl : lv_has ls 2 [(0, .ref ed), (1, .int (nI k))] := hl
  obtain ⟨LL, xs, hX, hbl, hbA, hL260⟩ := id hE
  refine lv_iload_n hx hb dL_cell_0 rfl (lv_at hl 1 rfl) ?_
  refine lv_aload_n hx hb dL_cell_1 rfl (lv_at hl 0 rfl) ?_
  refine va_slen hx hb hX hbl hbA hw.2.2 dL_cell_2 ?_
  refine n_ren (a := LL) (b := LL) rfl ?_
  refine n_icmp_ge (tgt := 12) hx hb (by omega) (by omega) dL_cell_3 (by decide) (fun h_3 => ?_) (fun h_3 => ?_)
  · skip
    refine lv_ldc (v := nI 790386105) hx hb C.2.2.2.1 (C.2.2.2.2.1 (.constant RL 8 (790386105)) (mU mw_81)) dL_cell_12 ?_
    refine lv_iload_n hx hb dL_cell_14 rfl (lv_at hl 1 rfl) ?_
    refine lv_iconst (v := nI 3) hx hb dL_cell_15 (by decide) ?_
    refine n_iadd hx hb dL_cell_16 ?_
    refine n_imul hx hb dL_cell_17 ?_
    exact (p_iret C hw rfl hr hlocks dL_cell_18)
  · skip
    refine lv_aload_n hx hb dL_cell_6 rfl (lv_at hl 0 rfl) ?_
    refine lv_iload_n hx hb dL_cell_7 rfl (lv_at hl 1 rfl) ?_
    refine va_sld hx hb hX hbl hbA hw.2.2 (in_arr (by omega) (by omega)) dL_cell_8 ?_
    refine lv_goto (tgt := 18) hx hb dL_cell_9 (by decide) ?_
    exact (p_iret C hw rfl hr hlocks dL_cell_18)

set_option maxHeartbeats 4000000 in
set_option maxRecDepth 100000 in
theorem g_L_with (l : Launch) (D : va_G) (cy : Nat → ClassId) (S : pS) (sz : Nat)  {q n : Nat} {g : Nat → Int32} (hA_q : Arr cy S q n g) (x : Int32) (hn : n ≤ 600) : Met l yL_with (Cond.code yL_with cL_with 3 (some (.array .int)) :: lwU) ({ frames := 1, cells := 1, slots := 601, locals := 60 }) (pPc D cy S sz [.ref q, .int x]) (pQq D cy S sz (fun r S' => ∃ q', r = some q' ∧ q' ∉ S.1 ∧ Grw S S' ∧ Arr cy S' q' (n + 1) (wth g n x))) 1 601 (pA S sz) := by
  refine Met.ofW (cc := cL_with) (maxL := 3) (ret := (some (.array .int))) (by decide) rfl ?_
  intro p e s m args below meth c s₁ B hml hv
  obtain ⟨rfl, rfl, C, hw, hA, hr, hlocks⟩ := p_start B hml hv
  have hx := C.1
  have hb := C.2.1
  have hl := lv_entry ([.ref q, .int x]) (n := 3) (Nat.le_of_ble_eq_true rfl)
  rw [lg_entry_eq]
  generalize (lg_sl ([.ref q, .int x]) ++ List.replicate (3 - (lg_sl ([.ref q, .int x])).length) Slot.unset).toArray = ls at hl ⊢
  have hl : lv_has ls 3 [(0, .ref q), (1, .int x)] := hl
  refine lv_aload_n hx hb dL_with_0 rfl (lv_at hl 0 rfl) ?_
  refine n_len C hw 0 rfl hA_q.1 hA_q.2 (n := n) rfl dL_with_1 ?_
  refine lv_iconst (v := nI 1) hx hb dL_with_2 (by decide) ?_
  refine n_iadd hx hb dL_with_3 ?_
  refine p_newa C hw hA (mU mw_3) 0 rfl (n := n + 1) (by first | decide | omega) (Nat.le_of_ble_eq_true rfl) (show 0 + (n + 1) ≤ 601 from by omega) dL_with_4 (fun q2 H hq_q2 hw => ?_)
  obtain ⟨S1, hS1⟩ : ∃ z, z = pnew S q2 (.inl (cy 0, n + 1, .inl (fun _ => 0))) := ⟨_, rfl⟩
  replace hw : pW D (pA S s.heap.size) s.heap S1 H [] := by rw [hS1]; exact hw
  have hk2 : q2 ∉ S.1 := hq_q2
  have hs3 : Grw S S1 := by rw [hS1]; exact Grw.new hq_q2
  have hA4 : Arr cy S1 q2 (n + 1) (fun _ => 0) := by rw [hS1]; exact Arr.new
  refine lv_astore_n (lv' := [(2, .ref q2), (0, .ref q), (1, .int x)]) hx hb dL_with_6 rfl hl (by decide) rfl (fun ls hl => ?_)
  refine lv_aload_n hx hb dL_with_7 rfl (lv_at hl 1 rfl) ?_
  refine lv_iconst (v := nI 0) hx hb dL_with_8 (by decide) ?_
  refine lv_aload_n hx hb dL_with_9 rfl (lv_at hl 0 rfl) ?_
  refine lv_iconst (v := nI 0) hx hb dL_with_10 (by decide) ?_
  refine lv_aload_n hx hb dL_with_11 rfl (lv_at hl 1 rfl) ?_
  refine n_len C hw 0 rfl (hA_q.grw hs3).1 (hA_q.grw hs3).2 (n := n) rfl dL_with_12 ?_
  refine p_copy C hw hl.1.symm (C.2.2.2.2.1 _ (mU mw_96)) (C.2.2.2.2.1 _ (mU mw_97)) (C.2.2.2.2.1 _ (mU mw_98)) (C.2.2.2.2.1 _ (mU mw_99)) (hA_q.grw hs3).1 (hA_q.grw hs3).2 hA4.1 hA4.2 (sp := 0) (dp := 0) (k := n) (by first | decide | omega) (by first | decide | omega) (by first | decide | omega) (by first | decide | omega) (Nat.le_of_ble_eq_true rfl) (Nat.le_of_ble_eq_true rfl) dL_with_13 (fun H locs hw => ?_)
  obtain ⟨S5, hS5⟩ : ∃ z, z = pup S1 q2 (.inl (cy 0, n + 1, .inl (va_cpy g (fun _ => 0) 0 0 n))) := ⟨_, rfl⟩
  replace hw : pW D (pA S s.heap.size) s.heap S5 H locs := by rw [hS5]; exact hw
  have hG6 : Grw S S5 := by rw [hS5]; exact Grw.up hs3 hk2
  have hA7 : Arr cy S5 q2 (n + 1) (va_cpy g (fun _ => 0) 0 0 n) := by rw [hS5]; exact hA4.up
  refine lv_aload_n hx hb dL_with_16 rfl (lv_at hl 0 rfl) ?_
  refine lv_aload_n hx hb dL_with_17 rfl (lv_at hl 1 rfl) ?_
  refine n_len C hw 0 rfl (hA_q.grw hG6).1 (hA_q.grw hG6).2 (n := n) rfl dL_with_18 ?_
  refine lv_iload_n hx hb dL_with_19 rfl (lv_at hl 2 rfl) ?_
  refine p_ast C hw 0 rfl hA7.1 hA7.2 (by first | decide | omega) (by first | decide | omega) dL_with_20 (fun H locs hw => ?_)
  obtain ⟨S8, hS8⟩ : ∃ z, z = pup S5 q2 (.inl (cy 0, n + 1, .inl (upd (va_cpy g (fun _ => 0) 0 0 n) n x))) := ⟨_, rfl⟩
  replace hw : pW D (pA S s.heap.size) s.heap S8 H locs := by rw [hS8]; exact hw
  have hG9 : Grw S S8 := by rw [hS8]; exact Grw.up hG6 hk2
  have hA10 : Arr cy S8 q2 (n + 1) (upd (va_cpy g (fun _ => 0) 0 0 n) n x) := by rw [hS8]; exact hA7.up
  refine lv_aload_n hx hb dL_with_21 rfl (lv_at hl 0 rfl) ?_
  refine W.widen (k := 1) (n := 601) (Nat.le_of_ble_eq_true rfl) (show 0 + (n + 1) ≤ 601 from by omega) ?_
  exact (p_qret C hw (v := some q2) ⟨_, rfl, hk2, hG9, hA10⟩ hr (by first | exact Or.inl ⟨_, rfl⟩ | exact Or.inr ⟨_, rfl⟩) hlocks dL_with_22)

theorem hdg_L_fill_S_0 : yL_with.cls ≠ "java/lang/invoke/MethodHandle" ∧ yL_with.cls ≠ "java/lang/invoke/VarHandle" ∧ (parseMethodDescriptor yL_with.desc).map (fun d => d.parameters.length) = some 2 := by decide +kernel
set_option maxHeartbeats 4000000 in
set_option maxRecDepth 100000 in
theorem g_L_fill (l : Launch) (D : va_G) (cy : Nat → ClassId) (S : pS) (sz : Nat)  {q n : Nat} {g : Nat → Int32} (hA_q : Arr cy S q n g) (mm : Nat) (h1 : 1 ≤ mm) (h16 : mm ≤ 16) (hn : n ≤ 580) : Met l yL_fill (Cond.code yL_fill cL_fill 3 (some (.array .int)) :: lwU) ({ frames := 2, cells := 16, slots := 9616, locals := 82 }) (pPc D cy S sz [.ref q, .int (nI mm)]) (pQq D cy S sz (fun r S' => ∃ (q' : Nat) (g' : Nat → Int32), r = some q' ∧ Grw S S' ∧ Arr cy S' q' (blk n mm * mm) g')) 16 9616 (pA S sz) := by
  refine Met.ofW (cc := cL_fill) (maxL := 3) (ret := (some (.array .int))) (by decide) rfl ?_
  intro p e s m args below meth c s₁ B hml hv
  obtain ⟨rfl, rfl, C, hw, hA, hr, hlocks⟩ := p_start B hml hv
  have hx := C.1
  have hb := C.2.1
  have hl := lv_entry ([.ref q, .int (nI mm)]) (n := 3) (Nat.le_of_ble_eq_true rfl)
  rw [lg_entry_eq]
  generalize (lg_sl ([.ref q, .int (nI mm)]) ++ List.replicate (3 - (lg_sl ([.ref q, .int (nI mm)])).length) Slot.unset).toArray = ls at hl ⊢
  have hl : lv_has ls 3 [(0, .ref q), (1, .int (nI mm))] := hl
  have hN := blk_mul_le (n := n) (e := mm) h1
  have hN0 : (blk n mm * mm) % mm = 0 := Nat.mul_mod_left _ _
  have hge := blk_up (n := n) h1
  refine lv_aload_n hx hb dL_fill_0 rfl (lv_at hl 0 rfl) ?_
  refine lv_astore_n (lv' := [(2, .ref q), (0, .ref q), (1, .int (nI mm))]) hx hb dL_fill_1 rfl hl (by decide) rfl (fun ls hl => ?_)
  have loop2_1 : ∀ (kf : Nat) (len : Nat), blk n mm * mm - len < kf → ∀ (Sx2 : pS)  (fq : Nat) (fg : Nat → Int32) (H : Heap) (locs : List Loc) (ls : Array Slot), Grw S Sx2 → Arr cy Sx2 fq len fg → (n ≤ len) → (len ≤ blk n mm * mm) → pW D (pA S s.heap.size) s.heap Sx2 H locs → lv_has ls 3 [(2, .ref fq), (0, .ref q), (1, .int (nI mm))] → W p l e (headSpec (Cond.code yL_fill cL_fill 3 (some (.array .int)) :: lwU) ({ frames := 2, cells := 16, slots := 9616, locals := 82 } : Room)).room s m ([.ref q, .int (nI mm)]).toArray below meth c H locs (len - n) (601 * (len - n)) (MQ below (pQq D cy S s.heap.size (fun r S' => ∃ (q' : Nat) (g' : Nat → Int32), r = some q' ∧ Grw S S' ∧ Arr cy S' q' (blk n mm * mm) g')) ([.ref q, .int (nI mm)]).toArray s 16 9616 (pA S s.heap.size)) (F0 m 2 ls []) := by
    intro kf
    induction kf with
    | zero => intro len hm; exact absurd hm (Nat.not_lt_zero _)
    | succ kf ihloop2_1 =>
      intro len hm Sx2  fq fg H locs ls hG3 hA_fqx h0 hle hw hl
      refine lv_aload_n hx hb dL_fill_2 rfl (lv_at hl 0 rfl) ?_
      refine n_len C hw 0 rfl hA_fqx.1 hA_fqx.2 (n := len) rfl dL_fill_3 ?_
      refine lv_iload_n hx hb dL_fill_4 rfl (lv_at hl 2 rfl) ?_
      refine n_irem hx hb (by omega) (by omega) (by omega) dL_fill_5 ?_
      refine n_if_le (tgt := 18) hx hb (Nat.lt_of_le_of_lt (Nat.mod_le _ _) (by omega)) dL_fill_6 (by decide) (fun h_6 => ?_) (fun h_6 => ?_)
      · skip
        have he := fill_end h1 h0 hle (by omega)
        refine lv_aload_n hx hb dL_fill_18 rfl (lv_at hl 0 rfl) ?_
        refine W.widen (k := 16) (n := 9616) (show (len - n) ≤ 16 from by omega) (show (601 * (len - n)) ≤ 9616 from by omega) ?_
        exact (p_qret C hw (v := some fq) ⟨_, _, rfl, hG3, hA_fqx.cast he⟩ hr (by first | exact Or.inl ⟨_, rfl⟩ | exact Or.inr ⟨_, rfl⟩) hlocks dL_fill_19)
      · skip
        have hlt := fill_go hN0 hle (by omega)
        refine lv_aload_n hx hb dL_fill_9 rfl (lv_at hl 0 rfl) ?_
        refine lv_iconst (v := nI 0) hx hb dL_fill_10 (by decide) ?_
        refine p_callq (va_runS (As := [.ref fq, .int (nI 0)]) (rest := []) C.fix (g_L_with l D cy Sx2 H.size hA_fqx (nI 0) (by omega)) (va_cwS 2 C.2.2.2.2.1 (gU_S mw_93 mw_94 mw_79 (subU mw_95)) rfl rfl rfl hdg_L_fill_S_0 ⟨Nat.le_of_ble_eq_true rfl, Nat.le_of_ble_eq_true rfl⟩) (p_preS C hw) rfl rfl hl.1 rfl (lv_room (Nat.le_of_ble_eq_true rfl)) dL_fill_11 ⟨(show (len - n) + 1 ≤ 16 from by omega), (show (601 * (len - n)) + 601 ≤ 9616 from by omega)⟩) hw hA (fun r5 S4 H locs hpost hw => ?_)
        obtain ⟨qa6, hr_, hq10, hs8, hA9⟩ := hpost
        subst hr_
        have hk12 : qa6 ∉ S.1 := hG3.nin hq10
        have hA13 := hA_fqx.grw hs8
        have hG14 := hG3.trans hs8
        refine lv_astore_n (lv' := [(2, .ref qa6), (0, .ref q), (1, .int (nI mm))]) hx hb dL_fill_14 rfl hl (by decide) rfl (fun ls hl => ?_)
        refine lv_goto (tgt := 2) hx hb dL_fill_15 (by decide) ?_
        refine W.widen (k := (len + 1 - n)) (n := (601 * (len + 1 - n))) (by omega) (by omega) ?_
        exact ihloop2_1  (len + 1) (by omega) S4  qa6 (wth fg len (nI 0)) H locs ls hG14 (hA9.cast (by omega)) (by omega) (by omega) hw (lv_sub hl [0, 1, 2] rfl)
  refine W.widen (k := (n - n)) (n := (601 * (n - n))) (by omega) (by omega) ?_
  exact loop2_1 (blk n mm * mm - n + 1) n (by omega) S  q g s.heap [] ls Grw.id (hA_q.cast (by omega)) (Nat.le_refl n) hge hw (lv_sub hl [0, 1, 2] rfl)

set_option maxHeartbeats 4000000 in
set_option maxRecDepth 100000 in
theorem g_L_odd (l : Launch) (D : va_G) (cy : Nat → ClassId) (S : pS) (sz : Nat)  (v : Int32) : Met l yL_odd (Cond.code yL_odd cL_odd 3 (some .int) :: lwU) ({ frames := 0, cells := 0, slots := 0, locals := 0 }) (pPc D cy S sz [.int v]) (pQi D cy S sz (fun r S' => S = S')) 0 0 (pA S sz) := by
  refine Met.ofW (cc := cL_odd) (maxL := 3) (ret := (some .int)) (by decide) rfl ?_
  intro p e s m args below meth c s₁ B hml hv
  obtain ⟨rfl, rfl, C, hw, hA, hr, hlocks⟩ := p_start B hml hv
  have hx := C.1
  have hb := C.2.1
  have hl := lv_entry ([.int v]) (n := 3) (Nat.le_of_ble_eq_true rfl)
  rw [lg_entry_eq]
  generalize (lg_sl ([.int v]) ++ List.replicate (3 - (lg_sl ([.int v])).length) Slot.unset).toArray = ls at hl ⊢
  have hl : lv_has ls 3 [(0, .int v)] := hl
  refine lv_iconst (v := nI 0) hx hb dL_odd_0 (by decide) ?_
  refine lv_istore_n (lv' := [(1, .int (nI 0)), (0, .int v)]) hx hb dL_odd_1 rfl hl (by decide) rfl (fun ls hl => ?_)
  refine lv_iconst (v := nI 0) hx hb dL_odd_2 (by decide) ?_
  refine lv_istore_n (lv' := [(2, .int (nI 0)), (1, .int (nI 0)), (0, .int v)]) hx hb dL_odd_3 rfl hl (by decide) rfl (fun ls hl => ?_)
  have loop4_1 : ∀ (kf : Nat) (k : Nat) (md : Int32), 16 - k < kf → ∀ (H : Heap) (locs : List Loc) (ls : Array Slot), (k ≤ 16) → pW D (pA S s.heap.size) s.heap S H locs → lv_has ls 3 [(2, .int (nI k)), (1, .int md), (0, .int v)] → W p l e (headSpec (Cond.code yL_odd cL_odd 3 (some .int) :: lwU) ({ frames := 0, cells := 0, slots := 0, locals := 0 } : Room)).room s m ([.int v]).toArray below meth c H locs 0 0 (MQ below (pQi D cy S s.heap.size (fun r S' => S = S')) ([.int v]).toArray s 0 0 (pA S s.heap.size)) (F0 m 4 ls []) := by
    intro kf
    induction kf with
    | zero => intro k md hm; exact absurd hm (Nat.not_lt_zero _)
    | succ kf ihloop4_1 =>
      intro k md hm    H locs ls hk hw hl
      refine lv_iload_n hx hb dL_odd_4 rfl (lv_at hl 0 rfl) ?_
      refine lv_bipush (v := nI 16) hx hb dL_odd_5 (by decide) ?_
      refine n_icmp_ge (tgt := 24) hx hb (by omega) (by decide) dL_odd_7 (by decide) (fun h_7 => ?_) (fun h_7 => ?_)
      · skip
        refine lv_iload_n hx hb dL_odd_24 rfl (lv_at hl 1 rfl) ?_
        exact (p_iret C hw rfl hr hlocks dL_odd_25)
      · skip
        refine lv_iload_n hx hb dL_odd_10 rfl (lv_at hl 1 rfl) ?_
        refine lv_iload_n hx hb dL_odd_11 rfl (lv_at hl 2 rfl) ?_
        refine lv_iload_n hx hb dL_odd_12 rfl (lv_at hl 0 rfl) ?_
        refine lv_ishr hx hb dL_odd_13 ?_
        refine lv_iconst (v := nI 1) hx hb dL_odd_14 (by decide) ?_
        refine lv_iand hx hb dL_odd_15 ?_
        refine lv_ixor hx hb dL_odd_16 ?_
        refine lv_istore_n (lv' := [(1, .int (md ^^^ ((v >>> ((nI k) &&& 31)) &&& (nI 1)))), (2, .int (nI k)), (0, .int v)]) hx hb dL_odd_17 rfl hl (by decide) rfl (fun ls hl => ?_)
        refine lv_iinc (v := (nI (k + 1))) (lv' := [(2, .int (nI (k + 1))), (1, .int (md ^^^ ((v >>> ((nI k) &&& 31)) &&& (nI 1)))), (0, .int v)]) hx hb dL_odd_18 hl (k := 1) rfl (by rw [show Int32.ofInt 1 = nI 1 from by decide, nI_add]) (by decide) rfl (fun ls hl => ?_)
        refine lv_goto (tgt := 4) hx hb dL_odd_21 (by decide) ?_
        exact ihloop4_1  (k + 1) (md ^^^ ((v >>> ((nI k) &&& 31)) &&& (nI 1))) (by omega)    H locs ls   (by omega) hw (lv_sub hl [0, 1, 2] rfl)
  exact loop4_1 (16 - 0 + 1) 0 (nI 0) (by omega)    s.heap [] ls   (by omega) hw (lv_sub hl [0, 1, 2] rfl)

set_option maxHeartbeats 4000000 in
set_option maxRecDepth 100000 in
theorem g_L_word (l : Launch) (D : va_G) (cy : Nat → ClassId) (S : pS) (sz : Nat)  {st k0 a b c3 c4 c5 c6 : Nat} {stg : Nat → Int32} (hA_st : Arr cy S st 7 stg) (hsv : Sev stg k0 a b c3 c4 c5 c6) (v : Int32) (ha : a ≤ 4) : Met l yL_word (Cond.code yL_word cL_word 4 (some .int) :: lwU) ({ frames := 0, cells := 0, slots := 0, locals := 0 }) (pPc D cy S sz [.ref st, .int v]) (pQi D cy S sz (fun r S' => S = S')) 0 0 (pA S sz) := by
  refine Met.ofW (cc := cL_word) (maxL := 4) (ret := (some .int)) (by decide) rfl ?_
  intro p e s m args below meth c s₁ B hml hv
  obtain ⟨rfl, rfl, C, hw, hA, hr, hlocks⟩ := p_start B hml hv
  have hx := C.1
  have hb := C.2.1
  have hl := lv_entry ([.ref st, .int v]) (n := 4) (Nat.le_of_ble_eq_true rfl)
  rw [lg_entry_eq]
  generalize (lg_sl ([.ref st, .int v]) ++ List.replicate (4 - (lg_sl ([.ref st, .int v])).length) Slot.unset).toArray = ls at hl ⊢
  have hl : lv_has ls 4 [(0, .ref st), (1, .int v)] := hl
  refine lv_iconst (v := nI 0) hx hb dL_word_0 (by decide) ?_
  refine lv_istore_n (lv' := [(2, .int (nI 0)), (0, .ref st), (1, .int v)]) hx hb dL_word_1 rfl hl (by decide) rfl (fun ls hl => ?_)
  refine lv_iconst (v := nI 0) hx hb dL_word_2 (by decide) ?_
  refine lv_istore_n (lv' := [(3, .int (nI 0)), (2, .int (nI 0)), (0, .ref st), (1, .int v)]) hx hb dL_word_3 rfl hl (by decide) rfl (fun ls hl => ?_)
  have loop4_1 : ∀ (kf : Nat) (k : Nat) (md : Int32), a - k < kf → ∀ (H : Heap) (locs : List Loc) (ls : Array Slot), (k ≤ a) → pW D (pA S s.heap.size) s.heap S H locs → lv_has ls 4 [(3, .int (nI k)), (2, .int md), (0, .ref st), (1, .int v)] → W p l e (headSpec (Cond.code yL_word cL_word 4 (some .int) :: lwU) ({ frames := 0, cells := 0, slots := 0, locals := 0 } : Room)).room s m ([.ref st, .int v]).toArray below meth c H locs 0 0 (MQ below (pQi D cy S s.heap.size (fun r S' => S = S')) ([.ref st, .int v]).toArray s 0 0 (pA S s.heap.size)) (F0 m 4 ls []) := by
    intro kf
    induction kf with
    | zero => intro k md hm; exact absurd hm (Nat.not_lt_zero _)
    | succ kf ihloop4_1 =>
      intro k md hm    H locs ls hk hw hl
      refine lv_iload_n hx hb dL_word_4 rfl (lv_at hl 0 rfl) ?_
      refine lv_aload_n hx hb dL_word_5 rfl (lv_at hl 2 rfl) ?_
      refine lv_iconst (v := nI 1) hx hb dL_word_6 (by decide) ?_
      refine p_ald C hw 0 rfl hA_st.1 hA_st.2 (by first | decide | omega) (by first | decide | omega) dL_word_7 ?_
      refine x_ren (b := nI a) hsv.2.1 ?_
      refine n_icmp_ge (tgt := 40) hx hb (by omega) (by omega) dL_word_8 (by decide) (fun h_8 => ?_) (fun h_8 => ?_)
      · skip
        refine lv_iload_n hx hb dL_word_40 rfl (lv_at hl 1 rfl) ?_
        exact (p_iret C hw rfl hr hlocks dL_word_41)
      · skip
        refine lv_iload_n hx hb dL_word_11 rfl (lv_at hl 3 rfl) ?_
        refine lv_aload_n hx hb dL_word_12 rfl (lv_at hl 2 rfl) ?_
        refine lv_iconst (v := nI 1) hx hb dL_word_13 (by decide) ?_
        refine p_ald C hw 0 rfl hA_st.1 hA_st.2 (by first | decide | omega) (by first | decide | omega) dL_word_14 ?_
        refine x_ren (b := nI a) hsv.2.1 ?_
        refine lv_iconst (v := nI 1) hx hb dL_word_15 (by decide) ?_
        refine n_isub hx hb (by omega) dL_word_16 ?_
        refine lv_iload_n hx hb dL_word_17 rfl (lv_at hl 0 rfl) ?_
        refine n_isub hx hb (by omega) dL_word_18 ?_
        refine lv_ishr hx hb dL_word_19 ?_
        refine lv_iconst (v := nI 1) hx hb dL_word_20 (by decide) ?_
        refine lv_iand hx hb dL_word_21 ?_
        refine lv_iconst (v := nI 1) hx hb dL_word_22 (by decide) ?_
        refine z_icmp_ne (tgt := 34) hx hb rfl (nI_toInt (by decide)) dL_word_23 (by decide) (fun h_23 => ?_) (fun h_23 => ?_)
        · skip
          refine lv_iinc (v := (nI (k + 1))) (lv' := [(3, .int (nI (k + 1))), (2, .int md), (0, .ref st), (1, .int v)]) hx hb dL_word_34 hl (k := 0) rfl (by rw [show Int32.ofInt 1 = nI 1 from by decide, nI_add]) (by decide) rfl (fun ls hl => ?_)
          refine lv_goto (tgt := 4) hx hb dL_word_37 (by decide) ?_
          exact ihloop4_1  (k + 1) md (by omega)    H locs ls   (by omega) hw (lv_sub hl [0, 1, 2, 3] rfl)
        · skip
          refine lv_iload_n hx hb dL_word_26 rfl (lv_at hl 1 rfl) ?_
          refine lv_aload_n hx hb dL_word_27 rfl (lv_at hl 2 rfl) ?_
          refine lv_iconst (v := nI 3) hx hb dL_word_28 (by decide) ?_
          refine lv_iload_n hx hb dL_word_29 rfl (lv_at hl 0 rfl) ?_
          refine n_iadd hx hb dL_word_30 ?_
          refine p_ald C hw 0 rfl hA_st.1 hA_st.2 (by omega) (by omega) dL_word_31 ?_
          refine lv_ixor hx hb dL_word_32 ?_
          refine lv_istore_n (lv' := [(2, .int (md ^^^ (stg (3 + k)))), (3, .int (nI k)), (0, .ref st), (1, .int v)]) hx hb dL_word_33 rfl hl (by decide) rfl (fun ls hl => ?_)
          refine lv_iinc (v := (nI (k + 1))) (lv' := [(3, .int (nI (k + 1))), (2, .int (md ^^^ (stg (3 + k)))), (0, .ref st), (1, .int v)]) hx hb dL_word_34 hl (k := 1) rfl (by rw [show Int32.ofInt 1 = nI 1 from by decide, nI_add]) (by decide) rfl (fun ls hl => ?_)
          refine lv_goto (tgt := 4) hx hb dL_word_37 (by decide) ?_
          exact ihloop4_1  (k + 1) (md ^^^ (stg (3 + k))) (by omega)    H locs ls   (by omega) hw (lv_sub hl [0, 1, 2, 3] rfl)
  exact loop4_1 (a - 0 + 1) 0 (nI 0) (by omega)    s.heap [] ls   (by omega) hw (lv_sub hl [0, 1, 2, 3] rfl)

set_option maxHeartbeats 4000000 in
set_option maxRecDepth 100000 in
theorem g_L_length (l : Launch) (D : va_G) (cy : Nat → ClassId) (S : pS) (sz : Nat)  (dv : Nat) (hd : dv < 512) : Met l yL_length (Cond.code yL_length cL_length 2 (some .int) :: lwU) ({ frames := 0, cells := 0, slots := 0, locals := 0 }) (pPc D cy S sz [.int (nI dv)]) (pQi D cy S sz (fun r S' => r = nI (degN dv 9) ∧ S = S')) 0 0 (pA S sz) := by
  refine Met.ofW (cc := cL_length) (maxL := 2) (ret := (some .int)) (by decide) rfl ?_
  intro p e s m args below meth c s₁ B hml hv
  obtain ⟨rfl, rfl, C, hw, hA, hr, hlocks⟩ := p_start B hml hv
  have hx := C.1
  have hb := C.2.1
  have hl := lv_entry ([.int (nI dv)]) (n := 2) (Nat.le_of_ble_eq_true rfl)
  rw [lg_entry_eq]
  generalize (lg_sl ([.int (nI dv)]) ++ List.replicate (2 - (lg_sl ([.int (nI dv)])).length) Slot.unset).toArray = ls at hl ⊢
  have hl : lv_has ls 2 [(0, .int (nI dv))] := hl
  refine lv_iconst (v := nI 0) hx hb dL_length_0 (by decide) ?_
  refine lv_istore_n (lv' := [(1, .int (nI 0)), (0, .int (nI dv))]) hx hb dL_length_1 rfl hl (by decide) rfl (fun ls hl => ?_)
  have loop2_1 : ∀ (kf : Nat) (k : Nat), 10 - k < kf → ∀ (H : Heap) (locs : List Loc) (ls : Array Slot), (k ≤ 9) → (k = 0 ∨ dv / 2 ^ k ≠ 0) → pW D (pA S s.heap.size) s.heap S H locs → lv_has ls 2 [(1, .int (nI k)), (0, .int (nI dv))] → W p l e (headSpec (Cond.code yL_length cL_length 2 (some .int) :: lwU) ({ frames := 0, cells := 0, slots := 0, locals := 0 } : Room)).room s m ([.int (nI dv)]).toArray below meth c H locs 0 0 (MQ below (pQi D cy S s.heap.size (fun r S' => r = nI (degN dv 9) ∧ S = S')) ([.int (nI dv)]).toArray s 0 0 (pA S s.heap.size)) (F0 m 2 ls []) := by
    intro kf
    induction kf with
    | zero => intro k hm; exact absurd hm (Nat.not_lt_zero _)
    | succ kf ihloop2_1 =>
      intro k hm    H locs ls hk h0 hw hl
      refine lv_iload_n hx hb dL_length_2 rfl (lv_at hl 1 rfl) ?_
      refine lv_iload_n hx hb dL_length_3 rfl (lv_at hl 0 rfl) ?_
      refine lv_iconst (v := nI 1) hx hb dL_length_4 (by decide) ?_
      refine n_iadd hx hb dL_length_5 ?_
      refine n_ishr hx hb (by omega) (by omega) dL_length_6 ?_
      refine n_if_le (tgt := 16) hx hb (Nat.lt_of_le_of_lt (Nat.div_le_self _ _) (by omega)) dL_length_7 (by decide) (fun h_7 => ?_) (fun h_7 => ?_)
      · skip
        refine lv_iload_n hx hb dL_length_16 rfl (lv_at hl 0 rfl) ?_
        exact (p_iret C hw ⟨by rw [degN_len hd hk h0 (by omega)], rfl⟩ hr hlocks dL_length_17)
      · skip
        have hk8 : k + 1 ≤ 9 := len_8 hd hk h_7
        refine lv_iinc (v := (nI (k + 1))) (lv' := [(1, .int (nI (k + 1))), (0, .int (nI dv))]) hx hb dL_length_10 hl (k := 0) rfl (by rw [show Int32.ofInt 1 = nI 1 from by decide, nI_add]) (by decide) rfl (fun ls hl => ?_)
        refine lv_goto (tgt := 2) hx hb dL_length_13 (by decide) ?_
        exact ihloop2_1  (k + 1) (by omega)    H locs ls   hk8 (Or.inr (by omega)) hw (lv_sub hl [0, 1] rfl)
  exact loop2_1 (10 - 0 + 1) 0 (by omega)    s.heap [] ls   (by omega) (Or.inl rfl) hw (lv_sub hl [0, 1] rfl)

theorem hdg_L_rest_S_0 : yL_length.cls ≠ "java/lang/invoke/MethodHandle" ∧ yL_length.cls ≠ "java/lang/invoke/VarHandle" ∧ (parseMethodDescriptor yL_length.desc).map (fun d => d.parameters.length) = some 1 := by decide +kernel
set_option maxHeartbeats 4000000 in
set_option maxRecDepth 100000 in
theorem g_L_rest (l : Launch) (D : va_G) (cy : Nat → ClassId) (S : pS) (sz : Nat)  {q n : Nat} {g : Nat → Int32} (hA_q : Arr cy S q n g) (fr t dv : Nat) (hf : fr + t ≤ n) (hn : n ≤ 1000) (hd : dv < 512) : Met l yL_rest (Cond.code yL_rest cL_rest 7 (some .int) :: lwU) ({ frames := 1, cells := 0, slots := 0, locals := 21 }) (pPc D cy S sz [.ref q, .int (nI fr), .int (nI t), .int (nI dv)]) (pQi D cy S sz (fun r S' => S = S')) 0 0 (pA S sz) := by
  refine Met.ofW (cc := cL_rest) (maxL := 7) (ret := (some .int)) (by decide) rfl ?_
  intro p e s m args below meth c s₁ B hml hv
  obtain ⟨rfl, rfl, C, hw, hA, hr, hlocks⟩ := p_start B hml hv
  have hx := C.1
  have hb := C.2.1
  have hl := lv_entry ([.ref q, .int (nI fr), .int (nI t), .int (nI dv)]) (n := 7) (Nat.le_of_ble_eq_true rfl)
  rw [lg_entry_eq]
  generalize (lg_sl ([.ref q, .int (nI fr), .int (nI t), .int (nI dv)]) ++ List.replicate (7 - (lg_sl ([.ref q, .int (nI fr), .int (nI t), .int (nI dv)])).length) Slot.unset).toArray = ls at hl ⊢
  have hl : lv_has ls 7 [(0, .ref q), (1, .int (nI fr)), (2, .int (nI t)), (3, .int (nI dv))] := hl
  have hdg := degN_le (dv := dv) 9
  refine lv_iload_n hx hb dL_rest_0 rfl (lv_at hl 3 rfl) ?_
  refine p_calli (va_runS (As := [.int (nI dv)]) (rest := []) C.fix (g_L_length l D cy S s.heap.size dv (by omega)) (va_cwS 1 C.2.2.2.2.1 (gU_S mw_390 mw_391 mw_79 (subU mw_392)) rfl rfl rfl hdg_L_rest_S_0 ⟨Nat.le_of_ble_eq_true rfl, Nat.le_of_ble_eq_true rfl⟩) (p_preS C hw) rfl rfl hl.1 rfl (lv_room (Nat.le_of_ble_eq_true rfl)) dL_rest_1 ⟨(Nat.le_of_ble_eq_true rfl), (Nat.le_of_ble_eq_true rfl)⟩) hw hA (fun r2 S1 H locs hpost hw => ?_)
  obtain ⟨hr_, hS_⟩ := hpost
  subst hr_
  subst hS_
  refine lv_istore (lv' := [(4, .int (nI (degN dv 9))), (0, .ref q), (1, .int (nI fr)), (2, .int (nI t)), (3, .int (nI dv))]) hx hb dL_rest_4 hl (by decide) rfl (fun ls hl => ?_)
  refine lv_iconst (v := nI 0) hx hb dL_rest_6 (by decide) ?_
  refine lv_istore (lv' := [(5, .int (nI 0)), (4, .int (nI (degN dv 9))), (0, .ref q), (1, .int (nI fr)), (2, .int (nI t)), (3, .int (nI dv))]) hx hb dL_rest_7 hl (by decide) rfl (fun ls hl => ?_)
  refine lv_iconst (v := nI 0) hx hb dL_rest_9 (by decide) ?_
  refine lv_istore (lv' := [(6, .int (nI 0)), (5, .int (nI 0)), (4, .int (nI (degN dv 9))), (0, .ref q), (1, .int (nI fr)), (2, .int (nI t)), (3, .int (nI dv))]) hx hb dL_rest_10 hl (by decide) rfl (fun ls hl => ?_)
  have loop12_5 : ∀ (kf : Nat) (k : Nat) (md : Int32), t + degN dv 9 - k < kf → ∀ (H : Heap) (locs : List Loc) (ls : Array Slot), (k ≤ t + degN dv 9) → pW D (pA S s.heap.size) s.heap S H locs → lv_has ls 7 [(6, .int (nI k)), (5, .int md), (4, .int (nI (degN dv 9))), (0, .ref q), (1, .int (nI fr)), (2, .int (nI t)), (3, .int (nI dv))] → W p l e (headSpec (Cond.code yL_rest cL_rest 7 (some .int) :: lwU) ({ frames := 1, cells := 0, slots := 0, locals := 21 } : Room)).room s m ([.ref q, .int (nI fr), .int (nI t), .int (nI dv)]).toArray below meth c H locs 0 0 (MQ below (pQi D cy S s.heap.size (fun r S' => S = S')) ([.ref q, .int (nI fr), .int (nI t), .int (nI dv)]).toArray s 0 0 (pA S s.heap.size)) (F0 m 12 ls []) := by
    intro kf
    induction kf with
    | zero => intro k md hm; exact absurd hm (Nat.not_lt_zero _)
    | succ kf ihloop12_5 =>
      intro k md hm    H locs ls hk hw hl
      refine lv_iload hx hb dL_rest_12 (lv_at hl 0 rfl) ?_
      refine lv_iload_n hx hb dL_rest_14 rfl (lv_at hl 5 rfl) ?_
      refine lv_iload hx hb dL_rest_15 (lv_at hl 2 rfl) ?_
      refine n_iadd hx hb dL_rest_17 ?_
      refine n_icmp_ge (tgt := 65) hx hb (by omega) (by omega) dL_rest_18 (by decide) (fun h_18 => ?_) (fun h_18 => ?_)
      · skip
        refine lv_iload hx hb dL_rest_65 (lv_at hl 1 rfl) ?_
        exact (p_iret C hw rfl hr hlocks dL_rest_67)
      · skip
        refine lv_iconst (v := nI 2) hx hb dL_rest_21 (by decide) ?_
        refine lv_iload hx hb dL_rest_22 (lv_at hl 1 rfl) ?_
        refine lv_imul hx hb dL_rest_24 ?_
        refine lv_iload hx hb dL_rest_25 (lv_at hl 0 rfl) ?_
        refine lv_iload_n hx hb dL_rest_27 rfl (lv_at hl 5 rfl) ?_
        refine n_icmp_ge (tgt := 40) hx hb (by omega) (by omega) dL_rest_28 (by decide) (fun h_28 => ?_) (fun h_28 => ?_)
        · skip
          refine lv_iconst (v := nI 0) hx hb dL_rest_40 (by decide) ?_
          refine lv_iadd hx hb dL_rest_41 ?_
          refine lv_istore (lv' := [(5, .int (((nI 2) * md) + (nI 0))), (6, .int (nI k)), (4, .int (nI (degN dv 9))), (0, .ref q), (1, .int (nI fr)), (2, .int (nI t)), (3, .int (nI dv))]) hx hb dL_rest_42 hl (by decide) rfl (fun ls hl => ?_)
          refine lv_iload hx hb dL_rest_44 (lv_at hl 0 rfl) ?_
          refine lv_iload hx hb dL_rest_46 (lv_at hl 2 rfl) ?_
          refine lv_ishr hx hb dL_rest_48 ?_
          refine lv_iconst (v := nI 1) hx hb dL_rest_49 (by decide) ?_
          refine z_icmp_ne (tgt := 59) hx hb rfl (nI_toInt (by decide)) dL_rest_50 (by decide) (fun h_50 => ?_) (fun h_50 => ?_)
          · skip
            refine lv_iinc (v := (nI (k + 1))) (lv' := [(6, .int (nI (k + 1))), (5, .int (((nI 2) * md) + (nI 0))), (4, .int (nI (degN dv 9))), (0, .ref q), (1, .int (nI fr)), (2, .int (nI t)), (3, .int (nI dv))]) hx hb dL_rest_59 hl (k := 1) rfl (by rw [show Int32.ofInt 1 = nI 1 from by decide, nI_add]) (by decide) rfl (fun ls hl => ?_)
            refine lv_goto (tgt := 12) hx hb dL_rest_62 (by decide) ?_
            exact ihloop12_5  (k + 1) (((nI 2) * md) + (nI 0)) (by omega)    H locs ls   (by omega) hw (lv_sub hl [0, 1, 2, 3, 4, 5, 6] rfl)
          · skip
            refine lv_iload hx hb dL_rest_53 (lv_at hl 0 rfl) ?_
            refine lv_iload_n hx hb dL_rest_55 rfl (lv_at hl 6 rfl) ?_
            refine lv_ixor hx hb dL_rest_56 ?_
            refine lv_istore (lv' := [(5, .int ((((nI 2) * md) + (nI 0)) ^^^ (nI dv))), (6, .int (nI k)), (4, .int (nI (degN dv 9))), (0, .ref q), (1, .int (nI fr)), (2, .int (nI t)), (3, .int (nI dv))]) hx hb dL_rest_57 hl (by decide) rfl (fun ls hl => ?_)
            refine lv_iinc (v := (nI (k + 1))) (lv' := [(6, .int (nI (k + 1))), (5, .int ((((nI 2) * md) + (nI 0)) ^^^ (nI dv))), (4, .int (nI (degN dv 9))), (0, .ref q), (1, .int (nI fr)), (2, .int (nI t)), (3, .int (nI dv))]) hx hb dL_rest_59 hl (k := 1) rfl (by rw [show Int32.ofInt 1 = nI 1 from by decide, nI_add]) (by decide) rfl (fun ls hl => ?_)
            refine lv_goto (tgt := 12) hx hb dL_rest_62 (by decide) ?_
            exact ihloop12_5  (k + 1) ((((nI 2) * md) + (nI 0)) ^^^ (nI dv)) (by omega)    H locs ls   (by omega) hw (lv_sub hl [0, 1, 2, 3, 4, 5, 6] rfl)
        · skip
          refine lv_aload_n hx hb dL_rest_31 rfl (lv_at hl 3 rfl) ?_
          refine lv_iload_n hx hb dL_rest_32 rfl (lv_at hl 4 rfl) ?_
          refine lv_iload hx hb dL_rest_33 (lv_at hl 0 rfl) ?_
          refine n_iadd hx hb dL_rest_35 ?_
          refine p_ald C hw 0 rfl hA_q.1 hA_q.2 (by omega) (by omega) dL_rest_36 ?_
          refine lv_goto (tgt := 41) hx hb dL_rest_37 (by decide) ?_
          refine lv_iadd hx hb dL_rest_41 ?_
          refine lv_istore (lv' := [(5, .int (((nI 2) * md) + (g (fr + k)))), (6, .int (nI k)), (4, .int (nI (degN dv 9))), (0, .ref q), (1, .int (nI fr)), (2, .int (nI t)), (3, .int (nI dv))]) hx hb dL_rest_42 hl (by decide) rfl (fun ls hl => ?_)
          refine lv_iload hx hb dL_rest_44 (lv_at hl 0 rfl) ?_
          refine lv_iload hx hb dL_rest_46 (lv_at hl 2 rfl) ?_
          refine lv_ishr hx hb dL_rest_48 ?_
          refine lv_iconst (v := nI 1) hx hb dL_rest_49 (by decide) ?_
          refine z_icmp_ne (tgt := 59) hx hb rfl (nI_toInt (by decide)) dL_rest_50 (by decide) (fun h_50 => ?_) (fun h_50 => ?_)
          · skip
            refine lv_iinc (v := (nI (k + 1))) (lv' := [(6, .int (nI (k + 1))), (5, .int (((nI 2) * md) + (g (fr + k)))), (4, .int (nI (degN dv 9))), (0, .ref q), (1, .int (nI fr)), (2, .int (nI t)), (3, .int (nI dv))]) hx hb dL_rest_59 hl (k := 1) rfl (by rw [show Int32.ofInt 1 = nI 1 from by decide, nI_add]) (by decide) rfl (fun ls hl => ?_)
            refine lv_goto (tgt := 12) hx hb dL_rest_62 (by decide) ?_
            exact ihloop12_5  (k + 1) (((nI 2) * md) + (g (fr + k))) (by omega)    H locs ls   (by omega) hw (lv_sub hl [0, 1, 2, 3, 4, 5, 6] rfl)
          · skip
            refine lv_iload hx hb dL_rest_53 (lv_at hl 0 rfl) ?_
            refine lv_iload_n hx hb dL_rest_55 rfl (lv_at hl 6 rfl) ?_
            refine lv_ixor hx hb dL_rest_56 ?_
            refine lv_istore (lv' := [(5, .int ((((nI 2) * md) + (g (fr + k))) ^^^ (nI dv))), (6, .int (nI k)), (4, .int (nI (degN dv 9))), (0, .ref q), (1, .int (nI fr)), (2, .int (nI t)), (3, .int (nI dv))]) hx hb dL_rest_57 hl (by decide) rfl (fun ls hl => ?_)
            refine lv_iinc (v := (nI (k + 1))) (lv' := [(6, .int (nI (k + 1))), (5, .int ((((nI 2) * md) + (g (fr + k))) ^^^ (nI dv))), (4, .int (nI (degN dv 9))), (0, .ref q), (1, .int (nI fr)), (2, .int (nI t)), (3, .int (nI dv))]) hx hb dL_rest_59 hl (k := 1) rfl (by rw [show Int32.ofInt 1 = nI 1 from by decide, nI_add]) (by decide) rfl (fun ls hl => ?_)
            refine lv_goto (tgt := 12) hx hb dL_rest_62 (by decide) ?_
            exact ihloop12_5  (k + 1) ((((nI 2) * md) + (g (fr + k))) ^^^ (nI dv)) (by omega)    H locs ls   (by omega) hw (lv_sub hl [0, 1, 2, 3, 4, 5, 6] rfl)
  exact loop12_5 (t + degN dv 9 - 0 + 1) 0 (nI 0) (by omega)    H locs ls   (by omega) hw (lv_sub hl [0, 1, 2, 3, 4, 5, 6] rfl)

set_option maxHeartbeats 4000000 in
set_option maxRecDepth 100000 in
theorem g_L_bits (l : Launch) (D : va_G) (cy : Nat → ClassId) (S : pS) (sz : Nat)  (v w : Nat) (hv9 : v < 2 ^ 31) (hw16 : w ≤ 16) : Met l yL_bits (Cond.code yL_bits cL_bits 4 (some (.array .int)) :: lwU) ({ frames := 0, cells := 1, slots := 16, locals := 0 }) (pPc D cy S sz [.int (nI v), .int (nI w)]) (pQq D cy S sz (fun r S' => ∃ (q : Nat) (g : Nat → Int32), r = some q ∧ q ∉ S.1 ∧ Grw S S' ∧ Arr cy S' q w g ∧ ∀ j, j < w → g j = nI (v / 2 ^ (w - 1 - j) % 2))) 1 16 (pA S sz) := by
  refine Met.ofW (cc := cL_bits) (maxL := 4) (ret := (some (.array .int))) (by decide) rfl ?_
  intro p e s m args below meth c s₁ B hml hv
  obtain ⟨rfl, rfl, C, hw, hA, hr, hlocks⟩ := p_start B hml hv
  have hx := C.1
  have hb := C.2.1
  have hl := lv_entry ([.int (nI v), .int (nI w)]) (n := 4) (Nat.le_of_ble_eq_true rfl)
  rw [lg_entry_eq]
  generalize (lg_sl ([.int (nI v), .int (nI w)]) ++ List.replicate (4 - (lg_sl ([.int (nI v), .int (nI w)])).length) Slot.unset).toArray = ls at hl ⊢
  have hl : lv_has ls 4 [(0, .int (nI v)), (1, .int (nI w))] := hl
  refine lv_iload_n hx hb dL_bits_0 rfl (lv_at hl 1 rfl) ?_
  refine p_newa C hw hA (mU mw_3) 0 rfl (n := w) (by first | decide | omega) (Nat.le_of_ble_eq_true rfl) (show 0 + w ≤ 16 from by omega) dL_bits_1 (fun q2 H hq_q2 hw => ?_)
  obtain ⟨S1, hS1⟩ : ∃ z, z = pnew S q2 (.inl (cy 0, w, .inl (fun _ => 0))) := ⟨_, rfl⟩
  replace hw : pW D (pA S s.heap.size) s.heap S1 H [] := by rw [hS1]; exact hw
  have hk2 : q2 ∉ S.1 := hq_q2
  have hs3 : Grw S S1 := by rw [hS1]; exact Grw.new hq_q2
  have hA4 : Arr cy S1 q2 w (fun _ => 0) := by rw [hS1]; exact Arr.new
  refine lv_astore_n (lv' := [(2, .ref q2), (0, .int (nI v)), (1, .int (nI w))]) hx hb dL_bits_3 rfl hl (by decide) rfl (fun ls hl => ?_)
  refine lv_iconst (v := nI 0) hx hb dL_bits_4 (by decide) ?_
  refine lv_istore_n (lv' := [(3, .int (nI 0)), (2, .ref q2), (0, .int (nI v)), (1, .int (nI w))]) hx hb dL_bits_5 rfl hl (by decide) rfl (fun ls hl => ?_)
  have loop6_5 : ∀ (kf : Nat) (k : Nat), w - k < kf → ∀ (Sx6 : pS)  (bq : Nat) (bg : Nat → Int32) (H : Heap) (locs : List Loc) (ls : Array Slot), Grw S Sx6 → Arr cy Sx6 bq w bg → bq ∉ S.1 → (k ≤ w) → (∀ j, j < k → bg j = nI (v / 2 ^ (w - 1 - j) % 2)) → pW D (pA S s.heap.size) s.heap Sx6 H locs → lv_has ls 4 [(3, .int (nI k)), (2, .ref bq), (0, .int (nI v)), (1, .int (nI w))] → W p l e (headSpec (Cond.code yL_bits cL_bits 4 (some (.array .int)) :: lwU) ({ frames := 0, cells := 1, slots := 16, locals := 0 } : Room)).room s m ([.int (nI v), .int (nI w)]).toArray below meth c H locs 1 16 (MQ below (pQq D cy S s.heap.size (fun r S' => ∃ (q : Nat) (g : Nat → Int32), r = some q ∧ q ∉ S.1 ∧ Grw S S' ∧ Arr cy S' q w g ∧ ∀ j, j < w → g j = nI (v / 2 ^ (w - 1 - j) % 2))) ([.int (nI v), .int (nI w)]).toArray s 1 16 (pA S s.heap.size)) (F0 m 6 ls []) := by
    intro kf
    induction kf with
    | zero => intro k hm; exact absurd hm (Nat.not_lt_zero _)
    | succ kf ihloop6_5 =>
      intro k hm Sx6  bq bg H locs ls hG7 hA_bqx hk_bqx hk hg hw hl
      refine lv_iload_n hx hb dL_bits_6 rfl (lv_at hl 0 rfl) ?_
      refine lv_iload_n hx hb dL_bits_7 rfl (lv_at hl 3 rfl) ?_
      refine n_icmp_ge (tgt := 29) hx hb (by omega) (by omega) dL_bits_8 (by decide) (fun h_8 => ?_) (fun h_8 => ?_)
      · skip
        refine lv_aload_n hx hb dL_bits_29 rfl (lv_at hl 1 rfl) ?_
        exact (p_qret C hw (v := some bq) ⟨_, _, rfl, hk_bqx, hG7, hA_bqx, (fun j hj => hg j (by omega))⟩ hr (by first | exact Or.inl ⟨_, rfl⟩ | exact Or.inr ⟨_, rfl⟩) hlocks dL_bits_30)
      · skip
        refine lv_aload_n hx hb dL_bits_11 rfl (lv_at hl 1 rfl) ?_
        refine lv_iload_n hx hb dL_bits_12 rfl (lv_at hl 0 rfl) ?_
        refine lv_iload_n hx hb dL_bits_13 rfl (lv_at hl 2 rfl) ?_
        refine lv_iload_n hx hb dL_bits_14 rfl (lv_at hl 3 rfl) ?_
        refine lv_iconst (v := nI 1) hx hb dL_bits_15 (by decide) ?_
        refine n_isub hx hb (by omega) dL_bits_16 ?_
        refine lv_iload_n hx hb dL_bits_17 rfl (lv_at hl 0 rfl) ?_
        refine n_isub hx hb (by omega) dL_bits_18 ?_
        refine n_ishr hx hb (by omega) hv9 dL_bits_19 ?_
        refine lv_iconst (v := nI 1) hx hb dL_bits_20 (by decide) ?_
        refine n_iand hx hb dL_bits_21 ?_
        refine p_ast C hw 0 rfl hA_bqx.1 hA_bqx.2 (by omega) (by omega) dL_bits_22 (fun H locs hw => ?_)
        obtain ⟨S8, hS8⟩ : ∃ z, z = pup Sx6 bq (.inl (cy 0, w, .inl (upd bg k (nI ((v / 2 ^ ((w - 1) - k)) &&& 1))))) := ⟨_, rfl⟩
        replace hw : pW D (pA S s.heap.size) s.heap S8 H locs := by rw [hS8]; exact hw
        have hG9 : Grw S S8 := by rw [hS8]; exact Grw.up hG7 hk_bqx
        have hA10 : Arr cy S8 bq w (upd bg k (nI ((v / 2 ^ ((w - 1) - k)) &&& 1))) := by rw [hS8]; exact hA_bqx.up
        refine lv_iinc (v := (nI (k + 1))) (lv' := [(3, .int (nI (k + 1))), (2, .ref bq), (0, .int (nI v)), (1, .int (nI w))]) hx hb dL_bits_23 hl (k := 0) rfl (by rw [show Int32.ofInt 1 = nI 1 from by decide, nI_add]) (by decide) rfl (fun ls hl => ?_)
        refine lv_goto (tgt := 6) hx hb dL_bits_26 (by decide) ?_
        exact ihloop6_5  (k + 1) (by omega) S8  bq (upd bg k (nI ((v / 2 ^ ((w - 1) - k)) &&& 1))) H locs ls hG9 (hA10.cast (by omega)) hk_bqx (by omega) (fun j hj => dite (j = k) (fun e => by rw [e, upd_at, Nat.and_one_is_mod]) (fun e => by rw [upd_ne e]; exact hg j (by omega))) hw (lv_sub hl [0, 1, 2, 3] rfl)
  refine W.widen (k := 1) (n := 16) (by omega) (by omega) ?_
  exact loop6_5 (w - 0 + 1) 0 (by omega) S1  q2 (fun _ => 0) H [] ls hs3 (hA4.cast (by omega)) hk2 (by omega) (fun j hj => absurd hj (Nat.not_lt_zero _)) hw (lv_sub hl [0, 1, 2, 3] rfl)
