theorem sm1 (i a : Nat) : (i + 1) * a = i * a + a := Nat.succ_mul i a
theorem flt {f B a : Nat} (h : a * f < B * a) : f < B := Nat.lt_of_mul_lt_mul_left (a := a) (by rw [Nat.mul_comm a B]; exact h)
theorem fle {f B a : Nat} (h : f ≤ B) : a * f ≤ B * a := by rw [Nat.mul_comm B a]; exact Nat.mul_le_mul_left a h
theorem fnx {f B a : Nat} (h : f < B) : a * f + a ≤ B * a := fle (f := f + 1) h
theorem fge {f B a : Nat} (ha : 1 ≤ a) (hf : f ≤ B) (h : B * a ≤ a * f) : f = B := by
  rw [Nat.mul_comm B a] at h
  exact Nat.le_antisymm hf (Nat.le_of_mul_le_mul_left h ha)
theorem hdg_L_code0_S_0 : yL_with.cls ≠ "java/lang/invoke/MethodHandle" ∧ yL_with.cls ≠ "java/lang/invoke/VarHandle" ∧ (parseMethodDescriptor yL_with.desc).map (fun d => d.parameters.length) = some 2 := by decide +kernel
set_option maxHeartbeats 4000000 in
set_option maxRecDepth 100000 in
theorem g_L_code0 (l : Launch) (D : va_G) (cy : Nat → ClassId) (S : pS) (sz : Nat)  {st row a b c3 c4 c5 c6 n : Nat} {stg rog : Nat → Int32} (hA_st : Arr cy S st 7 stg) (hsv : Sev stg 0 a b c3 c4 c5 c6) (hA_row : Arr cy S row n rog) (hn : n ≤ 100) (ha : 1 ≤ a) (ha4 : a ≤ 100) (hsz : n * a ≤ 600) : Met l yL_code (Cond.code yL_code cL_code 8 (some (.array .int)) :: lwU) ({ frames := 3, cells := 620, slots := 380000, locals := 104 }) (pPc D cy S sz [.ref st, .ref row]) (pQq D cy S sz (fun r S' => ∃ (q : Nat) (g : Nat → Int32), r = some q ∧ q ∉ S.1 ∧ Grw S S' ∧ Arr cy S' q (n * a) g)) 620 380000 (pA S sz) := by
  refine Met.ofW (cc := cL_code) (maxL := 8) (ret := (some (.array .int))) (by decide) rfl ?_
  intro p e s m args below meth c s₁ B hml hv
  obtain ⟨rfl, rfl, C, hw, hA, hr, hlocks⟩ := p_start B hml hv
  have hx := C.1
  have hb := C.2.1
  have hl := lv_entry ([.ref st, .ref row]) (n := 8) (Nat.le_of_ble_eq_true rfl)
  rw [lg_entry_eq]
  generalize (lg_sl ([.ref st, .ref row]) ++ List.replicate (8 - (lg_sl ([.ref st, .ref row])).length) Slot.unset).toArray = ls at hl ⊢
  have hl : lv_has ls 8 [(0, .ref st), (1, .ref row)] := hl
  refine lv_iconst (v := nI 0) hx hb dL_code_0 (by decide) ?_
  refine p_newa C hw hA (mU mw_3) 0 rfl (n := 0) (by first | decide | omega) (Nat.le_of_ble_eq_true rfl) (Nat.le_of_ble_eq_true rfl) dL_code_1 (fun q2 H hq_q2 hw => ?_)
  obtain ⟨S1, hS1⟩ : ∃ z, z = pnew S q2 (.inl (cy 0, 0, .inl (fun _ => 0))) := ⟨_, rfl⟩
  replace hw : pW D (pA S s.heap.size) s.heap S1 H [] := by rw [hS1]; exact hw
  have hk2 : q2 ∉ S.1 := hq_q2
  have hs3 : Grw S S1 := by rw [hS1]; exact Grw.new hq_q2
  have hA4 : Arr cy S1 q2 0 (fun _ => 0) := by rw [hS1]; exact Arr.new
  refine lv_astore_n (lv' := [(2, .ref q2), (0, .ref st), (1, .ref row)]) hx hb dL_code_3 rfl hl (by decide) rfl (fun ls hl => ?_)
  refine lv_aload_n hx hb dL_code_4 rfl (lv_at hl 1 rfl) ?_
  refine lv_iconst (v := nI 0) hx hb dL_code_5 (by decide) ?_
  refine p_ald C hw 0 rfl (hA_st.grw hs3).1 (hA_st.grw hs3).2 (by first | decide | omega) (by first | decide | omega) dL_code_6 ?_
  refine x_ren (b := nI 0) hsv.1 ?_
  refine n_if_ne (tgt := 62) hx hb (by first | decide | omega) dL_code_7 (by decide) (fun h_7 => ?_) (fun h_7 => ?_)
  · exact absurd h_7 (by first | decide | omega)
  · skip
    refine lv_aload_n hx hb dL_code_10 rfl (lv_at hl 2 rfl) ?_
    refine lv_astore_n (lv' := [(3, .ref row), (2, .ref q2), (0, .ref st), (1, .ref row)]) hx hb dL_code_11 rfl hl (by decide) rfl (fun ls hl => ?_)
    refine lv_aload_n hx hb dL_code_12 rfl (lv_at hl 0 rfl) ?_
    refine n_len C hw 0 rfl (hA_row.grw hs3).1 (hA_row.grw hs3).2 (n := n) rfl dL_code_13 ?_
    refine lv_istore (lv' := [(4, .int (nI n)), (3, .ref row), (2, .ref q2), (0, .ref st), (1, .ref row)]) hx hb dL_code_14 hl (by decide) rfl (fun ls hl => ?_)
    refine lv_iconst (v := nI 0) hx hb dL_code_16 (by decide) ?_
    refine lv_istore (lv' := [(5, .int (nI 0)), (4, .int (nI n)), (3, .ref row), (2, .ref q2), (0, .ref st), (1, .ref row)]) hx hb dL_code_17 hl (by decide) rfl (fun ls hl => ?_)
    have loop19_5 : ∀ (kf : Nat) (i : Nat) (len : Nat), n - i < kf → ∀ (Sx6 : pS)  (mq : Nat) (mg : Nat → Int32) (H : Heap) (locs : List Loc) (ls : Array Slot), Grw S Sx6 → Arr cy Sx6 mq len mg → mq ∉ S.1 → (i ≤ n) → (len = i * a) → pW D (pA S s.heap.size) s.heap Sx6 H locs → lv_has ls 8 [(5, .int (nI i)), (4, .int (nI n)), (3, .ref row), (2, .ref mq), (0, .ref st), (1, .ref row)] → W p l e (headSpec (Cond.code yL_code cL_code 8 (some (.array .int)) :: lwU) ({ frames := 3, cells := 620, slots := 380000, locals := 104 } : Room)).room s m ([.ref st, .ref row]).toArray below meth c H locs (1 + len) (0 + 601 * len) (MQ below (pQq D cy S s.heap.size (fun r S' => ∃ (q : Nat) (g : Nat → Int32), r = some q ∧ q ∉ S.1 ∧ Grw S S' ∧ Arr cy S' q (n * a) g)) ([.ref st, .ref row]).toArray s 620 380000 (pA S s.heap.size)) (F0 m 19 ls []) := by
      intro kf
      induction kf with
      | zero => intro i len hm; exact absurd hm (Nat.not_lt_zero _)
      | succ kf ihloop19_5 =>
        intro i len hm Sx6  mq mg H locs ls hG7 hA_mqx hk_mqx hi hl0 hw hl
        refine lv_iload hx hb dL_code_19 (lv_at hl 0 rfl) ?_
        refine lv_iload hx hb dL_code_21 (lv_at hl 1 rfl) ?_
        refine n_icmp_ge (tgt := 62) hx hb (by omega) (by omega) dL_code_23 (by decide) (fun h_23 => ?_) (fun h_23 => ?_)
        · skip
          have he : i = n := by omega
          rw [he] at hl0
          refine lv_aload_n hx hb dL_code_62 rfl (lv_at hl 4 rfl) ?_
          refine lv_iconst (v := nI 0) hx hb dL_code_63 (by decide) ?_
          refine p_ald C hw 0 rfl (hA_st.grw hG7).1 (hA_st.grw hG7).2 (by first | decide | omega) (by first | decide | omega) dL_code_64 ?_
          refine x_ren (b := nI 0) hsv.1 ?_
          refine lv_iconst (v := nI 1) hx hb dL_code_65 (by decide) ?_
          refine n_icmp_ne (tgt := 166) hx hb (by first | decide | omega) (by first | decide | omega) dL_code_66 (by decide) (fun h_66 => ?_) (fun h_66 => ?_)
          · skip
            refine lv_aload_n hx hb dL_code_166 rfl (lv_at hl 4 rfl) ?_
            refine lv_iconst (v := nI 0) hx hb dL_code_167 (by decide) ?_
            refine p_ald C hw 0 rfl (hA_st.grw hG7).1 (hA_st.grw hG7).2 (by first | decide | omega) (by first | decide | omega) dL_code_168 ?_
            refine x_ren (b := nI 0) hsv.1 ?_
            refine lv_iconst (v := nI 2) hx hb dL_code_169 (by decide) ?_
            refine n_icmp_ne (tgt := 278) hx hb (by first | decide | omega) (by first | decide | omega) dL_code_170 (by decide) (fun h_170 => ?_) (fun h_170 => ?_)
            · skip
              refine lv_aload_n hx hb dL_code_278 rfl (lv_at hl 4 rfl) ?_
              refine lv_iconst (v := nI 0) hx hb dL_code_279 (by decide) ?_
              refine p_ald C hw 0 rfl (hA_st.grw hG7).1 (hA_st.grw hG7).2 (by first | decide | omega) (by first | decide | omega) dL_code_280 ?_
              refine x_ren (b := nI 0) hsv.1 ?_
              refine lv_iconst (v := nI 3) hx hb dL_code_281 (by decide) ?_
              refine n_icmp_ne (tgt := 416) hx hb (by first | decide | omega) (by first | decide | omega) dL_code_282 (by decide) (fun h_282 => ?_) (fun h_282 => ?_)
              · skip
                refine lv_aload_n hx hb dL_code_416 rfl (lv_at hl 4 rfl) ?_
                refine lv_iconst (v := nI 0) hx hb dL_code_417 (by decide) ?_
                refine p_ald C hw 0 rfl (hA_st.grw hG7).1 (hA_st.grw hG7).2 (by first | decide | omega) (by first | decide | omega) dL_code_418 ?_
                refine x_ren (b := nI 0) hsv.1 ?_
                refine lv_iconst (v := nI 4) hx hb dL_code_419 (by decide) ?_
                refine n_icmp_ne (tgt := 513) hx hb (by first | decide | omega) (by first | decide | omega) dL_code_420 (by decide) (fun h_420 => ?_) (fun h_420 => ?_)
                · skip
                  refine lv_aload_n hx hb dL_code_513 rfl (lv_at hl 3 rfl) ?_
                  refine W.widen (k := 620) (n := 380000) (show (1 + len) ≤ 620 from by omega) (show (0 + 601 * len) ≤ 380000 from by omega) ?_
                  exact (p_qret C hw (v := some mq) ⟨_, _, rfl, hk_mqx, hG7, (hA_mqx).cast (by omega)⟩ hr (by first | exact Or.inl ⟨_, rfl⟩ | exact Or.inr ⟨_, rfl⟩) hlocks dL_code_514)
                · exact absurd h_420 (by first | decide | omega)
              · exact absurd h_282 (by first | decide | omega)
            · exact absurd h_170 (by first | decide | omega)
          · exact absurd h_66 (by first | decide | omega)
        · skip
          have hm1 := Nat.mul_le_mul_right a (show i + 1 ≤ n by omega)
          have hm2 := sm1 i a
          refine lv_aload_n hx hb dL_code_26 rfl (lv_at hl 2 rfl) ?_
          refine lv_iload hx hb dL_code_27 (lv_at hl 0 rfl) ?_
          refine p_ald C hw 0 rfl (hA_row.grw hG7).1 (hA_row.grw hG7).2 (by omega) (by omega) dL_code_29 ?_
          refine lv_istore (lv' := [(6, .int (rog i)), (5, .int (nI i)), (4, .int (nI n)), (3, .ref row), (2, .ref mq), (0, .ref st), (1, .ref row)]) hx hb dL_code_30 hl (by decide) rfl (fun ls hl => ?_)
          refine lv_iconst (v := nI 0) hx hb dL_code_32 (by decide) ?_
          refine lv_istore (lv' := [(7, .int (nI 0)), (6, .int (rog i)), (5, .int (nI i)), (4, .int (nI n)), (3, .ref row), (2, .ref mq), (0, .ref st), (1, .ref row)]) hx hb dL_code_33 hl (by decide) rfl (fun ls hl => ?_)
          have loop35_8 : ∀ (kf : Nat) (k : Nat) (len : Nat), a - k < kf → ∀ (Sx9 : pS)  (mq : Nat) (mg : Nat → Int32) (H : Heap) (locs : List Loc) (ls : Array Slot), Grw S Sx9 → Arr cy Sx9 mq len mg → mq ∉ S.1 → (k ≤ a) → (len = i * a + k) → pW D (pA S s.heap.size) s.heap Sx9 H locs → lv_has ls 8 [(7, .int (nI k)), (6, .int (rog i)), (5, .int (nI i)), (4, .int (nI n)), (3, .ref row), (2, .ref mq), (0, .ref st), (1, .ref row)] → W p l e (headSpec (Cond.code yL_code cL_code 8 (some (.array .int)) :: lwU) ({ frames := 3, cells := 620, slots := 380000, locals := 104 } : Room)).room s m ([.ref st, .ref row]).toArray below meth c H locs (1 + len) (0 + 601 * len) (MQ below (pQq D cy S s.heap.size (fun r S' => ∃ (q : Nat) (g : Nat → Int32), r = some q ∧ q ∉ S.1 ∧ Grw S S' ∧ Arr cy S' q (n * a) g)) ([.ref st, .ref row]).toArray s 620 380000 (pA S s.heap.size)) (F0 m 35 ls []) := by
            intro kf
            induction kf with
            | zero => intro k len hm; exact absurd hm (Nat.not_lt_zero _)
            | succ kf ihloop35_8 =>
              intro k len hm Sx9  mq mg H locs ls hG10 hA_mqx hk_mqx hk hlk hw hl
              refine lv_iload hx hb dL_code_35 (lv_at hl 0 rfl) ?_
              refine lv_aload_n hx hb dL_code_37 rfl (lv_at hl 6 rfl) ?_
              refine lv_iconst (v := nI 1) hx hb dL_code_38 (by decide) ?_
              refine p_ald C hw 0 rfl (hA_st.grw hG10).1 (hA_st.grw hG10).2 (by first | decide | omega) (by first | decide | omega) dL_code_39 ?_
              refine x_ren (b := nI a) hsv.2.1 ?_
              refine n_icmp_ge (tgt := 56) hx hb (by omega) (by omega) dL_code_40 (by decide) (fun h_40 => ?_) (fun h_40 => ?_)
              · skip
                refine lv_iinc (v := (nI (i + 1))) (lv' := [(5, .int (nI (i + 1))), (7, .int (nI k)), (6, .int (rog i)), (4, .int (nI n)), (3, .ref row), (2, .ref mq), (0, .ref st), (1, .ref row)]) hx hb dL_code_56 hl (k := 2) rfl (by rw [show Int32.ofInt 1 = nI 1 from by decide, nI_add]) (by decide) rfl (fun ls hl => ?_)
                refine lv_goto (tgt := 19) hx hb dL_code_59 (by decide) ?_
                refine W.widen (k := (1 + (len))) (n := (0 + 601 * (len))) (by omega) (by omega) ?_
                exact ihloop19_5  (i + 1) len (by omega) Sx9  mq mg H locs ls hG10 (hA_mqx.cast (by omega)) hk_mqx (by omega) (by omega) hw (lv_sub hl [0, 3, 4, 5, 6, 7] rfl)
              · skip
                refine lv_aload_n hx hb dL_code_43 rfl (lv_at hl 5 rfl) ?_
                refine lv_iload hx hb dL_code_44 (lv_at hl 1 rfl) ?_
                refine p_callq (va_runS (As := [.ref mq, .int (rog i)]) (rest := []) C.fix (g_L_with l D cy Sx9 H.size hA_mqx (rog i) (by omega)) (va_cwS 2 C.2.2.2.2.1 (gU_S mw_93 mw_94 mw_79 (subU mw_95)) rfl rfl rfl hdg_L_code0_S_0 ⟨Nat.le_of_ble_eq_true rfl, Nat.le_of_ble_eq_true rfl⟩) (p_preS C hw) rfl rfl hl.1 rfl (lv_room (Nat.le_of_ble_eq_true rfl)) dL_code_46 ⟨(show (1 + len) + 1 ≤ 620 from by omega), (show (0 + 601 * len) + 601 ≤ 380000 from by omega)⟩) hw hA (fun r12 S11 H locs hpost hw => ?_)
                obtain ⟨qa13, hr_, hq17, hs15, hA16⟩ := hpost
                subst hr_
                have hk19 : qa13 ∉ S.1 := hG10.nin hq17
                have hA20 := hA_mqx.grw hs15
                have hG21 := hG10.trans hs15
                refine lv_astore_n (lv' := [(2, .ref qa13), (7, .int (nI k)), (6, .int (rog i)), (5, .int (nI i)), (4, .int (nI n)), (3, .ref row), (0, .ref st), (1, .ref row)]) hx hb dL_code_49 rfl hl (by decide) rfl (fun ls hl => ?_)
                refine lv_iinc (v := (nI (k + 1))) (lv' := [(7, .int (nI (k + 1))), (2, .ref qa13), (6, .int (rog i)), (5, .int (nI i)), (4, .int (nI n)), (3, .ref row), (0, .ref st), (1, .ref row)]) hx hb dL_code_50 hl (k := 1) rfl (by rw [show Int32.ofInt 1 = nI 1 from by decide, nI_add]) (by decide) rfl (fun ls hl => ?_)
                refine lv_goto (tgt := 35) hx hb dL_code_53 (by decide) ?_
                refine W.widen (k := (1 + (len + 1))) (n := (0 + 601 * (len + 1))) (by omega) (by omega) ?_
                exact ihloop35_8  (k + 1) (len + 1) (by omega) S11  qa13 (wth mg len (rog i)) H locs ls hG21 (hA16.cast (by omega)) hk19 (by omega) (by omega) hw (lv_sub hl [0, 2, 3, 4, 5, 1, 6, 7] rfl)
          refine W.widen (k := (1 + (len))) (n := (0 + 601 * (len))) (by omega) (by omega) ?_
          exact loop35_8 (a - 0 + 1) 0 len (by omega) Sx6  mq mg H locs ls hG7 (hA_mqx.cast (by omega)) hk_mqx (by omega) (by omega) hw (lv_sub hl [0, 1, 2, 3, 4, 5, 6, 7] rfl)
    refine W.widen (k := (1 + (0))) (n := (0 + 601 * (0))) (by omega) (by omega) ?_
    exact loop19_5 (n - 0 + 1) 0 0 (by omega) S1  q2 (fun _ => 0) H [] ls hs3 (hA4.cast (by omega)) hk2 (by omega) (by omega) hw (lv_sub hl [0, 1, 2, 3, 4, 5] rfl)

theorem hdg_L_code1_S_0 : yL_fill.cls ≠ "java/lang/invoke/MethodHandle" ∧ yL_fill.cls ≠ "java/lang/invoke/VarHandle" ∧ (parseMethodDescriptor yL_fill.desc).map (fun d => d.parameters.length) = some 2 := by decide +kernel
theorem hdg_L_code1_S_1 : yL_word.cls ≠ "java/lang/invoke/MethodHandle" ∧ yL_word.cls ≠ "java/lang/invoke/VarHandle" ∧ (parseMethodDescriptor yL_word.desc).map (fun d => d.parameters.length) = some 2 := by decide +kernel
theorem hdg_L_code1_S_2 : yL_with.cls ≠ "java/lang/invoke/MethodHandle" ∧ yL_with.cls ≠ "java/lang/invoke/VarHandle" ∧ (parseMethodDescriptor yL_with.desc).map (fun d => d.parameters.length) = some 2 := by decide +kernel
set_option maxHeartbeats 4000000 in
set_option maxRecDepth 100000 in
theorem g_L_code1 (l : Launch) (D : va_G) (cy : Nat → ClassId) (S : pS) (sz : Nat)  {st row a b c3 c4 c5 c6 n : Nat} {stg rog : Nat → Int32} (hA_st : Arr cy S st 7 stg) (hsv : Sev stg 1 a b c3 c4 c5 c6) (hA_row : Arr cy S row n rog) (hn : n ≤ 100) (ha : 1 ≤ a) (ha4 : a ≤ 4) (hb9 : b ≤ 100) (hsz : blk n a * b ≤ 600) : Met l yL_code (Cond.code yL_code cL_code 8 (some (.array .int)) :: lwU) ({ frames := 3, cells := 620, slots := 380000, locals := 104 }) (pPc D cy S sz [.ref st, .ref row]) (pQq D cy S sz (fun r S' => ∃ (q : Nat) (g : Nat → Int32), r = some q ∧ q ∉ S.1 ∧ Grw S S' ∧ Arr cy S' q (blk n a * b) g)) 620 380000 (pA S sz) := by
  refine Met.ofW (cc := cL_code) (maxL := 8) (ret := (some (.array .int))) (by decide) rfl ?_
  intro p e s m args below meth c s₁ B hml hv
  obtain ⟨rfl, rfl, C, hw, hA, hr, hlocks⟩ := p_start B hml hv
  have hx := C.1
  have hb := C.2.1
  have hl := lv_entry ([.ref st, .ref row]) (n := 8) (Nat.le_of_ble_eq_true rfl)
  rw [lg_entry_eq]
  generalize (lg_sl ([.ref st, .ref row]) ++ List.replicate (8 - (lg_sl ([.ref st, .ref row])).length) Slot.unset).toArray = ls at hl ⊢
  have hl : lv_has ls 8 [(0, .ref st), (1, .ref row)] := hl
  have hbm := blk_mul_le (n := n) (e := a) ha
  refine lv_iconst (v := nI 0) hx hb dL_code_0 (by decide) ?_
  refine p_newa C hw hA (mU mw_3) 0 rfl (n := 0) (by first | decide | omega) (Nat.le_of_ble_eq_true rfl) (Nat.le_of_ble_eq_true rfl) dL_code_1 (fun q2 H hq_q2 hw => ?_)
  obtain ⟨S1, hS1⟩ : ∃ z, z = pnew S q2 (.inl (cy 0, 0, .inl (fun _ => 0))) := ⟨_, rfl⟩
  replace hw : pW D (pA S s.heap.size) s.heap S1 H [] := by rw [hS1]; exact hw
  have hk2 : q2 ∉ S.1 := hq_q2
  have hs3 : Grw S S1 := by rw [hS1]; exact Grw.new hq_q2
  have hA4 : Arr cy S1 q2 0 (fun _ => 0) := by rw [hS1]; exact Arr.new
  refine lv_astore_n (lv' := [(2, .ref q2), (0, .ref st), (1, .ref row)]) hx hb dL_code_3 rfl hl (by decide) rfl (fun ls hl => ?_)
  refine lv_aload_n hx hb dL_code_4 rfl (lv_at hl 1 rfl) ?_
  refine lv_iconst (v := nI 0) hx hb dL_code_5 (by decide) ?_
  refine p_ald C hw 0 rfl (hA_st.grw hs3).1 (hA_st.grw hs3).2 (by first | decide | omega) (by first | decide | omega) dL_code_6 ?_
  refine x_ren (b := nI 1) hsv.1 ?_
  refine n_if_ne (tgt := 62) hx hb (by first | decide | omega) dL_code_7 (by decide) (fun h_7 => ?_) (fun h_7 => ?_)
  · skip
    refine lv_aload_n hx hb dL_code_62 rfl (lv_at hl 1 rfl) ?_
    refine lv_iconst (v := nI 0) hx hb dL_code_63 (by decide) ?_
    refine p_ald C hw 0 rfl (hA_st.grw hs3).1 (hA_st.grw hs3).2 (by first | decide | omega) (by first | decide | omega) dL_code_64 ?_
    refine x_ren (b := nI 1) hsv.1 ?_
    refine lv_iconst (v := nI 1) hx hb dL_code_65 (by decide) ?_
    refine n_icmp_ne (tgt := 166) hx hb (by first | decide | omega) (by first | decide | omega) dL_code_66 (by decide) (fun h_66 => ?_) (fun h_66 => ?_)
    · exact absurd h_66 (by first | decide | omega)
    · skip
      refine lv_aload_n hx hb dL_code_69 rfl (lv_at hl 2 rfl) ?_
      refine lv_aload_n hx hb dL_code_70 rfl (lv_at hl 1 rfl) ?_
      refine lv_iconst (v := nI 1) hx hb dL_code_71 (by decide) ?_
      refine p_ald C hw 0 rfl (hA_st.grw hs3).1 (hA_st.grw hs3).2 (by first | decide | omega) (by first | decide | omega) dL_code_72 ?_
      refine x_ren (b := nI a) hsv.2.1 ?_
      refine p_callq (va_runS (As := [.ref row, .int (nI a)]) (rest := []) C.fix (g_L_fill l D cy S1 H.size (hA_row.grw hs3) a (by omega) (by omega) (by omega)) (va_cwS 2 C.2.2.2.2.1 (gU_S mw_381 mw_382 mw_79 (subU mw_383)) rfl rfl rfl hdg_L_code1_S_0 ⟨Nat.le_of_ble_eq_true rfl, Nat.le_of_ble_eq_true rfl⟩) (p_preS C hw) rfl rfl hl.1 rfl (lv_room (Nat.le_of_ble_eq_true rfl)) dL_code_73 ⟨(Nat.le_of_ble_eq_true rfl), (Nat.le_of_ble_eq_true rfl)⟩) hw hA (fun r6 S5 H locs hpost hw => ?_)
      obtain ⟨qa7, ga8, hr_, hs9, hA10⟩ := hpost
      subst hr_
      have hA13 := hA4.grw hs9
      have hG14 := hs3.trans hs9
      refine lv_astore_n (lv' := [(3, .ref qa7), (2, .ref q2), (0, .ref st), (1, .ref row)]) hx hb dL_code_76 rfl hl (by decide) rfl (fun ls hl => ?_)
      refine lv_iconst (v := nI 0) hx hb dL_code_77 (by decide) ?_
      refine lv_istore (lv' := [(4, .int (nI 0)), (3, .ref qa7), (2, .ref q2), (0, .ref st), (1, .ref row)]) hx hb dL_code_78 hl (by decide) rfl (fun ls hl => ?_)
      have loop80_15 : ∀ (kf : Nat) (f : Nat) (len : Nat), blk n a - f < kf → ∀ (Sx16 : pS)  (mq : Nat) (mg : Nat → Int32) (H : Heap) (locs : List Loc) (ls : Array Slot), Grw S Sx16 → Arr cy Sx16 mq len mg → mq ∉ S.1 → Arr cy Sx16 qa7 (blk n a * a) ga8 → (f ≤ blk n a) → (len = b * f) → pW D (pA S s.heap.size) s.heap Sx16 H locs → lv_has ls 8 [(4, .int (nI (a * f))), (3, .ref qa7), (2, .ref mq), (0, .ref st), (1, .ref row)] → W p l e (headSpec (Cond.code yL_code cL_code 8 (some (.array .int)) :: lwU) ({ frames := 3, cells := 620, slots := 380000, locals := 104 } : Room)).room s m ([.ref st, .ref row]).toArray below meth c H locs (17 + len) (9616 + 601 * len) (MQ below (pQq D cy S s.heap.size (fun r S' => ∃ (q : Nat) (g : Nat → Int32), r = some q ∧ q ∉ S.1 ∧ Grw S S' ∧ Arr cy S' q (blk n a * b) g)) ([.ref st, .ref row]).toArray s 620 380000 (pA S s.heap.size)) (F0 m 80 ls []) := by
        intro kf
        induction kf with
        | zero => intro f len hm; exact absurd hm (Nat.not_lt_zero _)
        | succ kf ihloop80_15 =>
          intro f len hm Sx16  mq mg H locs ls hG17 hA_mqx hk_mqx hA_qa7x hf hl0 hw hl
          have hfa := fle (a := a) hf
          have hfb := fle (a := b) hf
          refine lv_iload hx hb dL_code_80 (lv_at hl 0 rfl) ?_
          refine lv_aload_n hx hb dL_code_82 rfl (lv_at hl 1 rfl) ?_
          refine n_len C hw 0 rfl hA_qa7x.1 hA_qa7x.2 (n := blk n a * a) rfl dL_code_83 ?_
          refine n_icmp_ge (tgt := 166) hx hb (by omega) (by omega) dL_code_84 (by decide) (fun h_84 => ?_) (fun h_84 => ?_)
          · skip
            have he := fge (f := f) (B := blk n a) (a := a) ha hf (by omega)
            rw [he] at hl0
            have hm4 := Nat.mul_comm b (blk n a)
            refine lv_aload_n hx hb dL_code_166 rfl (lv_at hl 3 rfl) ?_
            refine lv_iconst (v := nI 0) hx hb dL_code_167 (by decide) ?_
            refine p_ald C hw 0 rfl (hA_st.grw hG17).1 (hA_st.grw hG17).2 (by first | decide | omega) (by first | decide | omega) dL_code_168 ?_
            refine x_ren (b := nI 1) hsv.1 ?_
            refine lv_iconst (v := nI 2) hx hb dL_code_169 (by decide) ?_
            refine n_icmp_ne (tgt := 278) hx hb (by first | decide | omega) (by first | decide | omega) dL_code_170 (by decide) (fun h_170 => ?_) (fun h_170 => ?_)
            · skip
              refine lv_aload_n hx hb dL_code_278 rfl (lv_at hl 3 rfl) ?_
              refine lv_iconst (v := nI 0) hx hb dL_code_279 (by decide) ?_
              refine p_ald C hw 0 rfl (hA_st.grw hG17).1 (hA_st.grw hG17).2 (by first | decide | omega) (by first | decide | omega) dL_code_280 ?_
              refine x_ren (b := nI 1) hsv.1 ?_
              refine lv_iconst (v := nI 3) hx hb dL_code_281 (by decide) ?_
              refine n_icmp_ne (tgt := 416) hx hb (by first | decide | omega) (by first | decide | omega) dL_code_282 (by decide) (fun h_282 => ?_) (fun h_282 => ?_)
              · skip
                refine lv_aload_n hx hb dL_code_416 rfl (lv_at hl 3 rfl) ?_
                refine lv_iconst (v := nI 0) hx hb dL_code_417 (by decide) ?_
                refine p_ald C hw 0 rfl (hA_st.grw hG17).1 (hA_st.grw hG17).2 (by first | decide | omega) (by first | decide | omega) dL_code_418 ?_
                refine x_ren (b := nI 1) hsv.1 ?_
                refine lv_iconst (v := nI 4) hx hb dL_code_419 (by decide) ?_
                refine n_icmp_ne (tgt := 513) hx hb (by first | decide | omega) (by first | decide | omega) dL_code_420 (by decide) (fun h_420 => ?_) (fun h_420 => ?_)
                · skip
                  refine lv_aload_n hx hb dL_code_513 rfl (lv_at hl 2 rfl) ?_
                  refine W.widen (k := 620) (n := 380000) (show (17 + len) ≤ 620 from by omega) (show (9616 + 601 * len) ≤ 380000 from by omega) ?_
                  exact (p_qret C hw (v := some mq) ⟨_, _, rfl, hk_mqx, hG17, (hA_mqx).cast (by omega)⟩ hr (by first | exact Or.inl ⟨_, rfl⟩ | exact Or.inr ⟨_, rfl⟩) hlocks dL_code_514)
                · exact absurd h_420 (by first | decide | omega)
              · exact absurd h_282 (by first | decide | omega)
            · exact absurd h_170 (by first | decide | omega)
          · skip
            have hfB := flt (f := f) (B := blk n a) (a := a) (by omega)
            have hm1 := fnx (a := a) hfB
            have hm3 := fnx (a := b) hfB
            have hm4 : b * (f + 1) = b * f + b := rfl
            refine lv_iconst (v := nI 0) hx hb dL_code_87 (by decide) ?_
            refine lv_istore (lv' := [(5, .int (nI 0)), (4, .int (nI (a * f))), (3, .ref qa7), (2, .ref mq), (0, .ref st), (1, .ref row)]) hx hb dL_code_88 hl (by decide) rfl (fun ls hl => ?_)
            refine lv_iconst (v := nI 0) hx hb dL_code_90 (by decide) ?_
            refine lv_istore (lv' := [(6, .int (nI 0)), (5, .int (nI 0)), (4, .int (nI (a * f))), (3, .ref qa7), (2, .ref mq), (0, .ref st), (1, .ref row)]) hx hb dL_code_91 hl (by decide) rfl (fun ls hl => ?_)
            have loop93_18 : ∀ (kf : Nat) (k : Nat) (bk : Int32), a - k < kf → ∀ (H : Heap) (locs : List Loc) (ls : Array Slot), (k ≤ a) → pW D (pA S s.heap.size) s.heap Sx16 H locs → lv_has ls 8 [(6, .int (nI k)), (5, .int bk), (4, .int (nI (a * f))), (3, .ref qa7), (2, .ref mq), (0, .ref st), (1, .ref row)] → W p l e (headSpec (Cond.code yL_code cL_code 8 (some (.array .int)) :: lwU) ({ frames := 3, cells := 620, slots := 380000, locals := 104 } : Room)).room s m ([.ref st, .ref row]).toArray below meth c H locs (17 + len) (9616 + 601 * len) (MQ below (pQq D cy S s.heap.size (fun r S' => ∃ (q : Nat) (g : Nat → Int32), r = some q ∧ q ∉ S.1 ∧ Grw S S' ∧ Arr cy S' q (blk n a * b) g)) ([.ref st, .ref row]).toArray s 620 380000 (pA S s.heap.size)) (F0 m 93 ls []) := by
              intro kf
              induction kf with
              | zero => intro k bk hm; exact absurd hm (Nat.not_lt_zero _)
              | succ kf ihloop93_18 =>
                intro k bk hm    H locs ls hk hw hl
                refine lv_iload hx hb dL_code_93 (lv_at hl 0 rfl) ?_
                refine lv_aload_n hx hb dL_code_95 rfl (lv_at hl 5 rfl) ?_
                refine lv_iconst (v := nI 1) hx hb dL_code_96 (by decide) ?_
                refine p_ald C hw 0 rfl (hA_st.grw hG17).1 (hA_st.grw hG17).2 (by first | decide | omega) (by first | decide | omega) dL_code_97 ?_
                refine x_ren (b := nI a) hsv.2.1 ?_
                refine n_icmp_ge (tgt := 121) hx hb (by omega) (by omega) dL_code_98 (by decide) (fun h_98 => ?_) (fun h_98 => ?_)
                · skip
                  refine lv_aload_n hx hb dL_code_121 rfl (lv_at hl 5 rfl) ?_
                  refine lv_iconst (v := nI 2) hx hb dL_code_122 (by decide) ?_
                  refine p_ald C hw 0 rfl (hA_st.grw hG17).1 (hA_st.grw hG17).2 (by first | decide | omega) (by first | decide | omega) dL_code_123 ?_
                  refine x_ren (b := nI b) hsv.2.2.1 ?_
                  refine lv_iconst (v := nI 1) hx hb dL_code_124 (by decide) ?_
                  refine lv_isub hx hb dL_code_125 ?_
                  refine lv_istore (lv' := [(6, .int ((nI b) - (nI 1))), (5, .int bk), (4, .int (nI (a * f))), (3, .ref qa7), (2, .ref mq), (0, .ref st), (1, .ref row)]) hx hb dL_code_126 hl (by decide) rfl (fun ls hl => ?_)
                  have loop128_20 : ∀ (kf : Nat) (kk : Nat) (len : Nat), kk < kf → ∀ (Sx21 : pS)  (mq : Nat) (mg : Nat → Int32) (H : Heap) (locs : List Loc) (ls : Array Slot), Grw S Sx21 → Arr cy Sx21 mq len mg → mq ∉ S.1 → Arr cy Sx21 qa7 (blk n a * a) ga8 → (kk ≤ b) → (len = b * f + (b - kk)) → pW D (pA S s.heap.size) s.heap Sx21 H locs → lv_has ls 8 [(6, .int (nI kk - nI 1)), (5, .int bk), (4, .int (nI (a * f))), (3, .ref qa7), (2, .ref mq), (0, .ref st), (1, .ref row)] → W p l e (headSpec (Cond.code yL_code cL_code 8 (some (.array .int)) :: lwU) ({ frames := 3, cells := 620, slots := 380000, locals := 104 } : Room)).room s m ([.ref st, .ref row]).toArray below meth c H locs (17 + len) (9616 + 601 * len) (MQ below (pQq D cy S s.heap.size (fun r S' => ∃ (q : Nat) (g : Nat → Int32), r = some q ∧ q ∉ S.1 ∧ Grw S S' ∧ Arr cy S' q (blk n a * b) g)) ([.ref st, .ref row]).toArray s 620 380000 (pA S s.heap.size)) (F0 m 128 ls []) := by
                    intro kf
                    induction kf with
                    | zero => intro kk len hm; exact absurd hm (Nat.not_lt_zero _)
                    | succ kf ihloop128_20 =>
                      intro kk len hm Sx21  mq mg H locs ls hG22 hA_mqx hk_mqx hA_qa7x hk hlk hw hl
                      refine lv_iload hx hb dL_code_128 (lv_at hl 0 rfl) ?_
                      refine lv_if_lt (tgt := 155) hx hb dL_code_130 (by decide) (fun h_130 => ?_) (fun h_130 => ?_)
                      · skip
                        have hk0 : kk = 0 := xneg (by omega) h_130
                        subst hk0
                        refine lv_iload hx hb dL_code_155 (lv_at hl 2 rfl) ?_
                        refine lv_aload_n hx hb dL_code_157 rfl (lv_at hl 5 rfl) ?_
                        refine lv_iconst (v := nI 1) hx hb dL_code_158 (by decide) ?_
                        refine p_ald C hw 0 rfl (hA_st.grw hG22).1 (hA_st.grw hG22).2 (by first | decide | omega) (by first | decide | omega) dL_code_159 ?_
                        refine x_ren (b := nI a) hsv.2.1 ?_
                        refine n_iadd hx hb dL_code_160 ?_
                        refine n_ren (b := a * (f + 1)) rfl ?_
                        refine lv_istore (lv' := [(4, .int (nI (a * (f + 1)))), (6, .int (nI 0 - nI 1)), (5, .int bk), (3, .ref qa7), (2, .ref mq), (0, .ref st), (1, .ref row)]) hx hb dL_code_161 hl (by decide) rfl (fun ls hl => ?_)
                        refine lv_goto (tgt := 80) hx hb dL_code_163 (by decide) ?_
                        refine W.widen (k := (17 + (len))) (n := (9616 + 601 * (len))) (by omega) (by omega) ?_
                        exact ihloop80_15  (f + 1) len (by omega) Sx21  mq mg H locs ls hG22 (hA_mqx.cast (by omega)) hk_mqx hA_qa7x (by omega) (by omega) hw (lv_sub hl [0, 3, 4, 5, 6] rfl)
                      · skip
                        obtain ⟨j, rfl⟩ := xpos h_130
                        rw [xsub1] at hl
                        refine lv_aload_n hx hb dL_code_133 rfl (lv_at hl 4 rfl) ?_
                        refine lv_aload_n hx hb dL_code_134 rfl (lv_at hl 5 rfl) ?_
                        refine lv_iload hx hb dL_code_135 (lv_at hl 1 rfl) ?_
                        refine p_calli (va_runS (As := [.ref st, .int bk]) (rest := [.ref mq]) C.fix (g_L_word l D cy Sx21 H.size (hA_st.grw hG22) hsv bk ha4) (va_cwS 2 C.2.2.2.2.1 (gU_S mw_384 mw_385 mw_79 (subU mw_386)) rfl rfl rfl hdg_L_code1_S_1 ⟨Nat.le_of_ble_eq_true rfl, Nat.le_of_ble_eq_true rfl⟩) (p_preS C hw) rfl rfl hl.1 rfl (lv_room (Nat.le_of_ble_eq_true rfl)) dL_code_137 ⟨(show (17 + len) + 0 ≤ 620 from by omega), (show (9616 + 601 * len) + 0 ≤ 380000 from by omega)⟩) hw hA (fun r24 S23 H locs hpost hw => ?_)
                        subst hpost
                        refine lv_iload hx hb dL_code_140 (lv_at hl 0 rfl) ?_
                        refine lv_ishr hx hb dL_code_142 ?_
                        refine lv_iconst (v := nI 1) hx hb dL_code_143 (by decide) ?_
                        refine lv_iand hx hb dL_code_144 ?_
                        refine p_callq (va_runS (As := [.ref mq, .int ((r24 >>> ((nI j) &&& 31)) &&& (nI 1))]) (rest := []) C.fix (g_L_with l D cy Sx21 H.size hA_mqx ((r24 >>> ((nI j) &&& 31)) &&& (nI 1)) (by omega)) (va_cwS 2 C.2.2.2.2.1 (gU_S mw_93 mw_94 mw_79 (subU mw_95)) rfl rfl rfl hdg_L_code1_S_2 ⟨Nat.le_of_ble_eq_true rfl, Nat.le_of_ble_eq_true rfl⟩) (p_preS C hw) rfl rfl hl.1 rfl (lv_room (Nat.le_of_ble_eq_true rfl)) dL_code_145 ⟨(show (17 + len) + 0 + 1 ≤ 620 from by omega), (show (9616 + 601 * len) + 0 + 601 ≤ 380000 from by omega)⟩) hw hA (fun r26 S25 H locs hpost hw => ?_)
                        obtain ⟨qa27, hr_, hq31, hs29, hA30⟩ := hpost
                        subst hr_
                        have hk33 : qa27 ∉ S.1 := hG22.nin hq31
                        have hA34 := hA_mqx.grw hs29
                        have hA35 := hA_qa7x.grw hs29
                        have hG36 := hG22.trans hs29
                        refine lv_astore_n (lv' := [(2, .ref qa27), (6, .int (nI j)), (5, .int bk), (4, .int (nI (a * f))), (3, .ref qa7), (0, .ref st), (1, .ref row)]) hx hb dL_code_148 rfl hl (by decide) rfl (fun ls hl => ?_)
                        refine lv_iinc (v := (nI j - nI 1)) (lv' := [(6, .int (nI j - nI 1)), (2, .ref qa27), (5, .int bk), (4, .int (nI (a * f))), (3, .ref qa7), (0, .ref st), (1, .ref row)]) hx hb dL_code_149 hl (k := 1) rfl (n_xdec _) (by decide) rfl (fun ls hl => ?_)
                        refine lv_goto (tgt := 128) hx hb dL_code_152 (by decide) ?_
                        refine W.widen (k := (17 + (len + 1))) (n := (9616 + 601 * (len + 1))) (by omega) (by omega) ?_
                        exact ihloop128_20  j (len + 1) (by omega) S25  qa27 (wth mg len ((r24 >>> ((nI j) &&& 31)) &&& (nI 1))) H locs ls hG36 (hA30.cast (by omega)) hk33 hA35 (by omega) (by omega) hw (lv_sub hl [0, 2, 3, 4, 1, 5, 6] rfl)
                  refine W.widen (k := (17 + (len))) (n := (9616 + 601 * (len))) (by omega) (by omega) ?_
                  exact loop128_20 (b + 1) b len (by omega) Sx16  mq mg H locs ls hG17 (hA_mqx.cast (by omega)) hk_mqx hA_qa7x (Nat.le_refl b) (by omega) hw (lv_sub hl [0, 1, 2, 3, 4, 5, 6] rfl)
                · skip
                  refine lv_iconst (v := nI 2) hx hb dL_code_101 (by decide) ?_
                  refine lv_iload hx hb dL_code_102 (lv_at hl 1 rfl) ?_
                  refine lv_imul hx hb dL_code_104 ?_
                  refine lv_aload_n hx hb dL_code_105 rfl (lv_at hl 3 rfl) ?_
                  refine lv_iload hx hb dL_code_106 (lv_at hl 2 rfl) ?_
                  refine lv_iload hx hb dL_code_108 (lv_at hl 0 rfl) ?_
                  refine n_iadd hx hb dL_code_110 ?_
                  refine p_ald C hw 0 rfl hA_qa7x.1 hA_qa7x.2 (by omega) (by omega) dL_code_111 ?_
                  refine lv_iadd hx hb dL_code_112 ?_
                  refine lv_istore (lv' := [(5, .int (((nI 2) * bk) + (ga8 ((a * f) + k)))), (6, .int (nI k)), (4, .int (nI (a * f))), (3, .ref qa7), (2, .ref mq), (0, .ref st), (1, .ref row)]) hx hb dL_code_113 hl (by decide) rfl (fun ls hl => ?_)
                  refine lv_iinc (v := (nI (k + 1))) (lv' := [(6, .int (nI (k + 1))), (5, .int (((nI 2) * bk) + (ga8 ((a * f) + k)))), (4, .int (nI (a * f))), (3, .ref qa7), (2, .ref mq), (0, .ref st), (1, .ref row)]) hx hb dL_code_115 hl (k := 1) rfl (by rw [show Int32.ofInt 1 = nI 1 from by decide, nI_add]) (by decide) rfl (fun ls hl => ?_)
                  refine lv_goto (tgt := 93) hx hb dL_code_118 (by decide) ?_
                  exact ihloop93_18  (k + 1) (((nI 2) * bk) + (ga8 ((a * f) + k))) (by omega)    H locs ls   (by omega) hw (lv_sub hl [0, 1, 2, 3, 4, 5, 6] rfl)
            exact loop93_18 (a - 0 + 1) 0 (nI 0) (by omega)    H locs ls   (by omega) hw (lv_sub hl [0, 1, 2, 3, 4, 5, 6] rfl)
      refine W.widen (k := (17 + (0))) (n := (9616 + 601 * (0))) (by omega) (by omega) ?_
      exact loop80_15 (blk n a - 0 + 1) 0 0 (by omega) S5  q2 (fun _ => 0) H locs ls hG14 (hA13.cast (by omega)) hk2 hA10 (Nat.zero_le _) (by omega) hw (lv_sub hl [0, 1, 2, 3, 4] rfl)
  · exact absurd h_7 (by first | decide | omega)

theorem hdg_L_code2_S_0 : yL_fill.cls ≠ "java/lang/invoke/MethodHandle" ∧ yL_fill.cls ≠ "java/lang/invoke/VarHandle" ∧ (parseMethodDescriptor yL_fill.desc).map (fun d => d.parameters.length) = some 2 := by decide +kernel
theorem hdg_L_code2_S_1 : yL_rest.cls ≠ "java/lang/invoke/MethodHandle" ∧ yL_rest.cls ≠ "java/lang/invoke/VarHandle" ∧ (parseMethodDescriptor yL_rest.desc).map (fun d => d.parameters.length) = some 4 := by decide +kernel
theorem hdg_L_code2_S_2 : yL_length.cls ≠ "java/lang/invoke/MethodHandle" ∧ yL_length.cls ≠ "java/lang/invoke/VarHandle" ∧ (parseMethodDescriptor yL_length.desc).map (fun d => d.parameters.length) = some 1 := by decide +kernel
theorem hdg_L_code2_S_3 : yL_with.cls ≠ "java/lang/invoke/MethodHandle" ∧ yL_with.cls ≠ "java/lang/invoke/VarHandle" ∧ (parseMethodDescriptor yL_with.desc).map (fun d => d.parameters.length) = some 2 := by decide +kernel
set_option maxHeartbeats 4000000 in
set_option maxRecDepth 100000 in
theorem g_L_code2 (l : Launch) (D : va_G) (cy : Nat → ClassId) (S : pS) (sz : Nat)  {st row a b c3 c4 c5 c6 n : Nat} {stg rog : Nat → Int32} (hA_st : Arr cy S st 7 stg) (hsv : Sev stg 2 a b c3 c4 c5 c6) (hA_row : Arr cy S row n rog) (hn : n ≤ 100) (ha : a < 512) (hb1 : 1 ≤ b) (hb9 : b ≤ 16) (hsz : blk n b * (b + degN a 9) ≤ 600) : Met l yL_code (Cond.code yL_code cL_code 8 (some (.array .int)) :: lwU) ({ frames := 3, cells := 620, slots := 380000, locals := 104 }) (pPc D cy S sz [.ref st, .ref row]) (pQq D cy S sz (fun r S' => ∃ (q : Nat) (g : Nat → Int32), r = some q ∧ q ∉ S.1 ∧ Grw S S' ∧ Arr cy S' q (blk n b * (b + degN a 9)) g)) 620 380000 (pA S sz) := by
  refine Met.ofW (cc := cL_code) (maxL := 8) (ret := (some (.array .int))) (by decide) rfl ?_
  intro p e s m args below meth c s₁ B hml hv
  obtain ⟨rfl, rfl, C, hw, hA, hr, hlocks⟩ := p_start B hml hv
  have hx := C.1
  have hb := C.2.1
  have hl := lv_entry ([.ref st, .ref row]) (n := 8) (Nat.le_of_ble_eq_true rfl)
  rw [lg_entry_eq]
  generalize (lg_sl ([.ref st, .ref row]) ++ List.replicate (8 - (lg_sl ([.ref st, .ref row])).length) Slot.unset).toArray = ls at hl ⊢
  have hl : lv_has ls 8 [(0, .ref st), (1, .ref row)] := hl
  have hbm := blk_mul_le (n := n) (e := b) hb1
  have hdg := degN_le (dv := a) 9
  refine lv_iconst (v := nI 0) hx hb dL_code_0 (by decide) ?_
  refine p_newa C hw hA (mU mw_3) 0 rfl (n := 0) (by first | decide | omega) (Nat.le_of_ble_eq_true rfl) (Nat.le_of_ble_eq_true rfl) dL_code_1 (fun q2 H hq_q2 hw => ?_)
  obtain ⟨S1, hS1⟩ : ∃ z, z = pnew S q2 (.inl (cy 0, 0, .inl (fun _ => 0))) := ⟨_, rfl⟩
  replace hw : pW D (pA S s.heap.size) s.heap S1 H [] := by rw [hS1]; exact hw
  have hk2 : q2 ∉ S.1 := hq_q2
  have hs3 : Grw S S1 := by rw [hS1]; exact Grw.new hq_q2
  have hA4 : Arr cy S1 q2 0 (fun _ => 0) := by rw [hS1]; exact Arr.new
  refine lv_astore_n (lv' := [(2, .ref q2), (0, .ref st), (1, .ref row)]) hx hb dL_code_3 rfl hl (by decide) rfl (fun ls hl => ?_)
  refine lv_aload_n hx hb dL_code_4 rfl (lv_at hl 1 rfl) ?_
  refine lv_iconst (v := nI 0) hx hb dL_code_5 (by decide) ?_
  refine p_ald C hw 0 rfl (hA_st.grw hs3).1 (hA_st.grw hs3).2 (by first | decide | omega) (by first | decide | omega) dL_code_6 ?_
  refine x_ren (b := nI 2) hsv.1 ?_
  refine n_if_ne (tgt := 62) hx hb (by first | decide | omega) dL_code_7 (by decide) (fun h_7 => ?_) (fun h_7 => ?_)
  · skip
    refine lv_aload_n hx hb dL_code_62 rfl (lv_at hl 1 rfl) ?_
    refine lv_iconst (v := nI 0) hx hb dL_code_63 (by decide) ?_
    refine p_ald C hw 0 rfl (hA_st.grw hs3).1 (hA_st.grw hs3).2 (by first | decide | omega) (by first | decide | omega) dL_code_64 ?_
    refine x_ren (b := nI 2) hsv.1 ?_
    refine lv_iconst (v := nI 1) hx hb dL_code_65 (by decide) ?_
    refine n_icmp_ne (tgt := 166) hx hb (by first | decide | omega) (by first | decide | omega) dL_code_66 (by decide) (fun h_66 => ?_) (fun h_66 => ?_)
    · skip
      refine lv_aload_n hx hb dL_code_166 rfl (lv_at hl 1 rfl) ?_
      refine lv_iconst (v := nI 0) hx hb dL_code_167 (by decide) ?_
      refine p_ald C hw 0 rfl (hA_st.grw hs3).1 (hA_st.grw hs3).2 (by first | decide | omega) (by first | decide | omega) dL_code_168 ?_
      refine x_ren (b := nI 2) hsv.1 ?_
      refine lv_iconst (v := nI 2) hx hb dL_code_169 (by decide) ?_
      refine n_icmp_ne (tgt := 278) hx hb (by first | decide | omega) (by first | decide | omega) dL_code_170 (by decide) (fun h_170 => ?_) (fun h_170 => ?_)
      · exact absurd h_170 (by first | decide | omega)
      · skip
        refine lv_aload_n hx hb dL_code_173 rfl (lv_at hl 2 rfl) ?_
        refine lv_aload_n hx hb dL_code_174 rfl (lv_at hl 1 rfl) ?_
        refine lv_iconst (v := nI 2) hx hb dL_code_175 (by decide) ?_
        refine p_ald C hw 0 rfl (hA_st.grw hs3).1 (hA_st.grw hs3).2 (by first | decide | omega) (by first | decide | omega) dL_code_176 ?_
        refine x_ren (b := nI b) hsv.2.2.1 ?_
        refine p_callq (va_runS (As := [.ref row, .int (nI b)]) (rest := []) C.fix (g_L_fill l D cy S1 H.size (hA_row.grw hs3) b (by omega) (by omega) (by omega)) (va_cwS 2 C.2.2.2.2.1 (gU_S mw_381 mw_382 mw_79 (subU mw_383)) rfl rfl rfl hdg_L_code2_S_0 ⟨Nat.le_of_ble_eq_true rfl, Nat.le_of_ble_eq_true rfl⟩) (p_preS C hw) rfl rfl hl.1 rfl (lv_room (Nat.le_of_ble_eq_true rfl)) dL_code_177 ⟨(Nat.le_of_ble_eq_true rfl), (Nat.le_of_ble_eq_true rfl)⟩) hw hA (fun r6 S5 H locs hpost hw => ?_)
        obtain ⟨qa7, ga8, hr_, hs9, hA10⟩ := hpost
        subst hr_
        have hA13 := hA4.grw hs9
        have hG14 := hs3.trans hs9
        refine lv_astore_n (lv' := [(3, .ref qa7), (2, .ref q2), (0, .ref st), (1, .ref row)]) hx hb dL_code_180 rfl hl (by decide) rfl (fun ls hl => ?_)
        refine lv_iconst (v := nI 0) hx hb dL_code_181 (by decide) ?_
        refine lv_istore (lv' := [(4, .int (nI 0)), (3, .ref qa7), (2, .ref q2), (0, .ref st), (1, .ref row)]) hx hb dL_code_182 hl (by decide) rfl (fun ls hl => ?_)
        have loop184_15 : ∀ (kf : Nat) (f : Nat) (len : Nat), blk n b - f < kf → ∀ (Sx16 : pS)  (mq : Nat) (mg : Nat → Int32) (H : Heap) (locs : List Loc) (ls : Array Slot), Grw S Sx16 → Arr cy Sx16 mq len mg → mq ∉ S.1 → Arr cy Sx16 qa7 (blk n b * b) ga8 → (f ≤ blk n b) → (len = (b + degN a 9) * f) → pW D (pA S s.heap.size) s.heap Sx16 H locs → lv_has ls 8 [(4, .int (nI (b * f))), (3, .ref qa7), (2, .ref mq), (0, .ref st), (1, .ref row)] → W p l e (headSpec (Cond.code yL_code cL_code 8 (some (.array .int)) :: lwU) ({ frames := 3, cells := 620, slots := 380000, locals := 104 } : Room)).room s m ([.ref st, .ref row]).toArray below meth c H locs (17 + len) (9616 + 601 * len) (MQ below (pQq D cy S s.heap.size (fun r S' => ∃ (q : Nat) (g : Nat → Int32), r = some q ∧ q ∉ S.1 ∧ Grw S S' ∧ Arr cy S' q (blk n b * (b + degN a 9)) g)) ([.ref st, .ref row]).toArray s 620 380000 (pA S s.heap.size)) (F0 m 184 ls []) := by
          intro kf
          induction kf with
          | zero => intro f len hm; exact absurd hm (Nat.not_lt_zero _)
          | succ kf ihloop184_15 =>
            intro f len hm Sx16  mq mg H locs ls hG17 hA_mqx hk_mqx hA_qa7x hf hl0 hw hl
            have hfa := fle (a := b) hf
            have hfb := fle (a := b + degN a 9) hf
            refine lv_iload hx hb dL_code_184 (lv_at hl 0 rfl) ?_
            refine lv_aload_n hx hb dL_code_186 rfl (lv_at hl 1 rfl) ?_
            refine n_len C hw 0 rfl hA_qa7x.1 hA_qa7x.2 (n := blk n b * b) rfl dL_code_187 ?_
            refine n_icmp_ge (tgt := 278) hx hb (by omega) (by omega) dL_code_188 (by decide) (fun h_188 => ?_) (fun h_188 => ?_)
            · skip
              have he := fge (f := f) (B := blk n b) (a := b) hb1 hf (by omega)
              rw [he] at hl0
              have hm4 := Nat.mul_comm (b + degN a 9) (blk n b)
              refine lv_aload_n hx hb dL_code_278 rfl (lv_at hl 3 rfl) ?_
              refine lv_iconst (v := nI 0) hx hb dL_code_279 (by decide) ?_
              refine p_ald C hw 0 rfl (hA_st.grw hG17).1 (hA_st.grw hG17).2 (by first | decide | omega) (by first | decide | omega) dL_code_280 ?_
              refine x_ren (b := nI 2) hsv.1 ?_
              refine lv_iconst (v := nI 3) hx hb dL_code_281 (by decide) ?_
              refine n_icmp_ne (tgt := 416) hx hb (by first | decide | omega) (by first | decide | omega) dL_code_282 (by decide) (fun h_282 => ?_) (fun h_282 => ?_)
              · skip
                refine lv_aload_n hx hb dL_code_416 rfl (lv_at hl 3 rfl) ?_
                refine lv_iconst (v := nI 0) hx hb dL_code_417 (by decide) ?_
                refine p_ald C hw 0 rfl (hA_st.grw hG17).1 (hA_st.grw hG17).2 (by first | decide | omega) (by first | decide | omega) dL_code_418 ?_
                refine x_ren (b := nI 2) hsv.1 ?_
                refine lv_iconst (v := nI 4) hx hb dL_code_419 (by decide) ?_
                refine n_icmp_ne (tgt := 513) hx hb (by first | decide | omega) (by first | decide | omega) dL_code_420 (by decide) (fun h_420 => ?_) (fun h_420 => ?_)
                · skip
                  refine lv_aload_n hx hb dL_code_513 rfl (lv_at hl 2 rfl) ?_
                  refine W.widen (k := 620) (n := 380000) (show (17 + len) ≤ 620 from by omega) (show (9616 + 601 * len) ≤ 380000 from by omega) ?_
                  exact (p_qret C hw (v := some mq) ⟨_, _, rfl, hk_mqx, hG17, (hA_mqx).cast (by omega)⟩ hr (by first | exact Or.inl ⟨_, rfl⟩ | exact Or.inr ⟨_, rfl⟩) hlocks dL_code_514)
                · exact absurd h_420 (by first | decide | omega)
              · exact absurd h_282 (by first | decide | omega)
            · skip
              have hfB := flt (f := f) (B := blk n b) (a := b) (by omega)
              have hm1 := fnx (a := b) hfB
              have hm3 := fnx (a := b + degN a 9) hfB
              have hm4 : (b + degN a 9) * (f + 1) = (b + degN a 9) * f + (b + degN a 9) := rfl
              refine lv_iconst (v := nI 0) hx hb dL_code_191 (by decide) ?_
              refine lv_istore (lv' := [(5, .int (nI 0)), (4, .int (nI (b * f))), (3, .ref qa7), (2, .ref mq), (0, .ref st), (1, .ref row)]) hx hb dL_code_192 hl (by decide) rfl (fun ls hl => ?_)
              have loop194_18 : ∀ (kf : Nat) (k : Nat) (len : Nat), b - k < kf → ∀ (Sx19 : pS)  (mq : Nat) (mg : Nat → Int32) (H : Heap) (locs : List Loc) (ls : Array Slot), Grw S Sx19 → Arr cy Sx19 mq len mg → mq ∉ S.1 → Arr cy Sx19 qa7 (blk n b * b) ga8 → (k ≤ b) → (len = (b + degN a 9) * f + k) → pW D (pA S s.heap.size) s.heap Sx19 H locs → lv_has ls 8 [(5, .int (nI k)), (4, .int (nI (b * f))), (3, .ref qa7), (2, .ref mq), (0, .ref st), (1, .ref row)] → W p l e (headSpec (Cond.code yL_code cL_code 8 (some (.array .int)) :: lwU) ({ frames := 3, cells := 620, slots := 380000, locals := 104 } : Room)).room s m ([.ref st, .ref row]).toArray below meth c H locs (17 + len) (9616 + 601 * len) (MQ below (pQq D cy S s.heap.size (fun r S' => ∃ (q : Nat) (g : Nat → Int32), r = some q ∧ q ∉ S.1 ∧ Grw S S' ∧ Arr cy S' q (blk n b * (b + degN a 9)) g)) ([.ref st, .ref row]).toArray s 620 380000 (pA S s.heap.size)) (F0 m 194 ls []) := by
                intro kf
                induction kf with
                | zero => intro k len hm; exact absurd hm (Nat.not_lt_zero _)
                | succ kf ihloop194_18 =>
                  intro k len hm Sx19  mq mg H locs ls hG20 hA_mqx hk_mqx hA_qa7x hk hlk hw hl
                  refine lv_iload hx hb dL_code_194 (lv_at hl 0 rfl) ?_
                  refine lv_aload_n hx hb dL_code_196 rfl (lv_at hl 4 rfl) ?_
                  refine lv_iconst (v := nI 2) hx hb dL_code_197 (by decide) ?_
                  refine p_ald C hw 0 rfl (hA_st.grw hG20).1 (hA_st.grw hG20).2 (by first | decide | omega) (by first | decide | omega) dL_code_198 ?_
                  refine x_ren (b := nI b) hsv.2.2.1 ?_
                  refine n_icmp_ge (tgt := 220) hx hb (by omega) (by omega) dL_code_199 (by decide) (fun h_199 => ?_) (fun h_199 => ?_)
                  · skip
                    refine lv_aload_n hx hb dL_code_220 rfl (lv_at hl 2 rfl) ?_
                    refine lv_iload hx hb dL_code_221 (lv_at hl 1 rfl) ?_
                    refine lv_aload_n hx hb dL_code_223 rfl (lv_at hl 4 rfl) ?_
                    refine lv_iconst (v := nI 2) hx hb dL_code_224 (by decide) ?_
                    refine p_ald C hw 0 rfl (hA_st.grw hG20).1 (hA_st.grw hG20).2 (by first | decide | omega) (by first | decide | omega) dL_code_225 ?_
                    refine x_ren (b := nI b) hsv.2.2.1 ?_
                    refine lv_aload_n hx hb dL_code_226 rfl (lv_at hl 4 rfl) ?_
                    refine lv_iconst (v := nI 1) hx hb dL_code_227 (by decide) ?_
                    refine p_ald C hw 0 rfl (hA_st.grw hG20).1 (hA_st.grw hG20).2 (by first | decide | omega) (by first | decide | omega) dL_code_228 ?_
                    refine x_ren (b := nI a) hsv.2.1 ?_
                    refine p_calli (va_runS (As := [.ref qa7, .int (nI (b * f)), .int (nI b), .int (nI a)]) (rest := []) C.fix (g_L_rest l D cy Sx19 H.size hA_qa7x (b * f) b a (by omega) (by omega) ha) (va_cwS 4 C.2.2.2.2.1 (gU_S mw_387 mw_388 mw_79 (subU mw_389)) rfl rfl rfl hdg_L_code2_S_1 ⟨Nat.le_of_ble_eq_true rfl, Nat.le_of_ble_eq_true rfl⟩) (p_preS C hw) rfl rfl hl.1 rfl (lv_room (Nat.le_of_ble_eq_true rfl)) dL_code_229 ⟨(show (17 + len) + 0 ≤ 620 from by omega), (show (9616 + 601 * len) + 0 ≤ 380000 from by omega)⟩) hw hA (fun r22 S21 H locs hpost hw => ?_)
                    subst hpost
                    refine lv_istore (lv' := [(5, .int r22), (4, .int (nI (b * f))), (3, .ref qa7), (2, .ref mq), (0, .ref st), (1, .ref row)]) hx hb dL_code_232 hl (by decide) rfl (fun ls hl => ?_)
                    refine lv_aload_n hx hb dL_code_234 rfl (lv_at hl 4 rfl) ?_
                    refine lv_iconst (v := nI 1) hx hb dL_code_235 (by decide) ?_
                    refine p_ald C hw 0 rfl (hA_st.grw hG20).1 (hA_st.grw hG20).2 (by first | decide | omega) (by first | decide | omega) dL_code_236 ?_
                    refine x_ren (b := nI a) hsv.2.1 ?_
                    refine p_calli (va_runS (As := [.int (nI a)]) (rest := []) C.fix (g_L_length l D cy Sx19 H.size a ha) (va_cwS 1 C.2.2.2.2.1 (gU_S mw_390 mw_391 mw_79 (subU mw_392)) rfl rfl rfl hdg_L_code2_S_2 ⟨Nat.le_of_ble_eq_true rfl, Nat.le_of_ble_eq_true rfl⟩) (p_preS C hw) rfl rfl hl.1 rfl (lv_room (Nat.le_of_ble_eq_true rfl)) dL_code_237 ⟨(show (17 + len) + 0 + 0 ≤ 620 from by omega), (show (9616 + 601 * len) + 0 + 0 ≤ 380000 from by omega)⟩) hw hA (fun r24 S23 H locs hpost hw => ?_)
                    obtain ⟨hr_, hS_⟩ := hpost
                    subst hr_
                    subst hS_
                    refine lv_iconst (v := nI 1) hx hb dL_code_240 (by decide) ?_
                    refine lv_isub hx hb dL_code_241 ?_
                    refine lv_istore (lv' := [(6, .int ((nI (degN a 9)) - (nI 1))), (5, .int r22), (4, .int (nI (b * f))), (3, .ref qa7), (2, .ref mq), (0, .ref st), (1, .ref row)]) hx hb dL_code_242 hl (by decide) rfl (fun ls hl => ?_)
                    have loop244_27 : ∀ (kf : Nat) (kk : Nat) (len : Nat), kk < kf → ∀ (Sx28 : pS)  (mq : Nat) (mg : Nat → Int32) (H : Heap) (locs : List Loc) (ls : Array Slot), Grw S Sx28 → Arr cy Sx28 mq len mg → mq ∉ S.1 → Arr cy Sx28 qa7 (blk n b * b) ga8 → (kk ≤ degN a 9) → (len = (b + degN a 9) * f + b + (degN a 9 - kk)) → pW D (pA S s.heap.size) s.heap Sx28 H locs → lv_has ls 8 [(6, .int (nI kk - nI 1)), (5, .int r22), (4, .int (nI (b * f))), (3, .ref qa7), (2, .ref mq), (0, .ref st), (1, .ref row)] → W p l e (headSpec (Cond.code yL_code cL_code 8 (some (.array .int)) :: lwU) ({ frames := 3, cells := 620, slots := 380000, locals := 104 } : Room)).room s m ([.ref st, .ref row]).toArray below meth c H locs (17 + len) (9616 + 601 * len) (MQ below (pQq D cy S s.heap.size (fun r S' => ∃ (q : Nat) (g : Nat → Int32), r = some q ∧ q ∉ S.1 ∧ Grw S S' ∧ Arr cy S' q (blk n b * (b + degN a 9)) g)) ([.ref st, .ref row]).toArray s 620 380000 (pA S s.heap.size)) (F0 m 244 ls []) := by
                      intro kf
                      induction kf with
                      | zero => intro kk len hm; exact absurd hm (Nat.not_lt_zero _)
                      | succ kf ihloop244_27 =>
                        intro kk len hm Sx28  mq mg H locs ls hG29 hA_mqx hk_mqx hA_qa7x hkk hlk2 hw hl
                        refine lv_iload hx hb dL_code_244 (lv_at hl 0 rfl) ?_
                        refine lv_if_lt (tgt := 267) hx hb dL_code_246 (by decide) (fun h_246 => ?_) (fun h_246 => ?_)
                        · skip
                          have hk0 : kk = 0 := xneg (by omega) h_246
                          subst hk0
                          refine lv_iload hx hb dL_code_267 (lv_at hl 2 rfl) ?_
                          refine lv_aload_n hx hb dL_code_269 rfl (lv_at hl 5 rfl) ?_
                          refine lv_iconst (v := nI 2) hx hb dL_code_270 (by decide) ?_
                          refine p_ald C hw 0 rfl (hA_st.grw hG29).1 (hA_st.grw hG29).2 (by first | decide | omega) (by first | decide | omega) dL_code_271 ?_
                          refine x_ren (b := nI b) hsv.2.2.1 ?_
                          refine n_iadd hx hb dL_code_272 ?_
                          refine n_ren (b := b * (f + 1)) rfl ?_
                          refine lv_istore (lv' := [(4, .int (nI (b * (f + 1)))), (6, .int (nI 0 - nI 1)), (5, .int r22), (3, .ref qa7), (2, .ref mq), (0, .ref st), (1, .ref row)]) hx hb dL_code_273 hl (by decide) rfl (fun ls hl => ?_)
                          refine lv_goto (tgt := 184) hx hb dL_code_275 (by decide) ?_
                          refine W.widen (k := (17 + (len))) (n := (9616 + 601 * (len))) (by omega) (by omega) ?_
                          exact ihloop184_15  (f + 1) len (by omega) Sx28  mq mg H locs ls hG29 (hA_mqx.cast (by omega)) hk_mqx hA_qa7x (by omega) (by omega) hw (lv_sub hl [0, 3, 4, 5, 6] rfl)
                        · skip
                          obtain ⟨j, rfl⟩ := xpos h_246
                          rw [xsub1] at hl
                          refine lv_aload_n hx hb dL_code_249 rfl (lv_at hl 4 rfl) ?_
                          refine lv_iload hx hb dL_code_250 (lv_at hl 1 rfl) ?_
                          refine lv_iload hx hb dL_code_252 (lv_at hl 0 rfl) ?_
                          refine lv_ishr hx hb dL_code_254 ?_
                          refine lv_iconst (v := nI 1) hx hb dL_code_255 (by decide) ?_
                          refine lv_iand hx hb dL_code_256 ?_
                          refine p_callq (va_runS (As := [.ref mq, .int ((r22 >>> ((nI j) &&& 31)) &&& (nI 1))]) (rest := []) C.fix (g_L_with l D cy Sx28 H.size hA_mqx ((r22 >>> ((nI j) &&& 31)) &&& (nI 1)) (by omega)) (va_cwS 2 C.2.2.2.2.1 (gU_S mw_93 mw_94 mw_79 (subU mw_95)) rfl rfl rfl hdg_L_code2_S_3 ⟨Nat.le_of_ble_eq_true rfl, Nat.le_of_ble_eq_true rfl⟩) (p_preS C hw) rfl rfl hl.1 rfl (lv_room (Nat.le_of_ble_eq_true rfl)) dL_code_257 ⟨(show (17 + len) + 1 ≤ 620 from by omega), (show (9616 + 601 * len) + 601 ≤ 380000 from by omega)⟩) hw hA (fun r31 S30 H locs hpost hw => ?_)
                          obtain ⟨qa32, hr_, hq36, hs34, hA35⟩ := hpost
                          subst hr_
                          have hk38 : qa32 ∉ S.1 := hG29.nin hq36
                          have hA39 := hA_mqx.grw hs34
                          have hA40 := hA_qa7x.grw hs34
                          have hG41 := hG29.trans hs34
                          refine lv_astore_n (lv' := [(2, .ref qa32), (6, .int (nI j)), (5, .int r22), (4, .int (nI (b * f))), (3, .ref qa7), (0, .ref st), (1, .ref row)]) hx hb dL_code_260 rfl hl (by decide) rfl (fun ls hl => ?_)
                          refine lv_iinc (v := (nI j - nI 1)) (lv' := [(6, .int (nI j - nI 1)), (2, .ref qa32), (5, .int r22), (4, .int (nI (b * f))), (3, .ref qa7), (0, .ref st), (1, .ref row)]) hx hb dL_code_261 hl (k := 1) rfl (n_xdec _) (by decide) rfl (fun ls hl => ?_)
                          refine lv_goto (tgt := 244) hx hb dL_code_264 (by decide) ?_
                          refine W.widen (k := (17 + (len + 1))) (n := (9616 + 601 * (len + 1))) (by omega) (by omega) ?_
                          exact ihloop244_27  j (len + 1) (by omega) S30  qa32 (wth mg len ((r22 >>> ((nI j) &&& 31)) &&& (nI 1))) H locs ls hG41 (hA35.cast (by omega)) hk38 hA40 (by omega) (by omega) hw (lv_sub hl [0, 2, 3, 4, 1, 5, 6] rfl)
                    refine W.widen (k := (17 + (len))) (n := (9616 + 601 * (len))) (by omega) (by omega) ?_
                    exact loop244_27 (degN a 9 + 1) (degN a 9) len (by omega) Sx19  mq mg H locs ls hG20 (hA_mqx.cast (by omega)) hk_mqx hA_qa7x (Nat.le_refl _) (by omega) hw (lv_sub hl [0, 1, 2, 3, 4, 5, 6] rfl)
                  · skip
                    refine lv_aload_n hx hb dL_code_202 rfl (lv_at hl 3 rfl) ?_
                    refine lv_aload_n hx hb dL_code_203 rfl (lv_at hl 2 rfl) ?_
                    refine lv_iload hx hb dL_code_204 (lv_at hl 1 rfl) ?_
                    refine lv_iload hx hb dL_code_206 (lv_at hl 0 rfl) ?_
                    refine n_iadd hx hb dL_code_208 ?_
                    refine p_ald C hw 0 rfl hA_qa7x.1 hA_qa7x.2 (by omega) (by omega) dL_code_209 ?_
                    refine p_callq (va_runS (As := [.ref mq, .int (ga8 ((b * f) + k))]) (rest := []) C.fix (g_L_with l D cy Sx19 H.size hA_mqx (ga8 ((b * f) + k)) (by omega)) (va_cwS 2 C.2.2.2.2.1 (gU_S mw_93 mw_94 mw_79 (subU mw_95)) rfl rfl rfl hdg_L_code2_S_3 ⟨Nat.le_of_ble_eq_true rfl, Nat.le_of_ble_eq_true rfl⟩) (p_preS C hw) rfl rfl hl.1 rfl (lv_room (Nat.le_of_ble_eq_true rfl)) dL_code_210 ⟨(show (17 + len) + 1 ≤ 620 from by omega), (show (9616 + 601 * len) + 601 ≤ 380000 from by omega)⟩) hw hA (fun r43 S42 H locs hpost hw => ?_)
                    obtain ⟨qa44, hr_, hq48, hs46, hA47⟩ := hpost
                    subst hr_
                    have hk50 : qa44 ∉ S.1 := hG20.nin hq48
                    have hA51 := hA_mqx.grw hs46
                    have hA52 := hA_qa7x.grw hs46
                    have hG53 := hG20.trans hs46
                    refine lv_astore_n (lv' := [(2, .ref qa44), (5, .int (nI k)), (4, .int (nI (b * f))), (3, .ref qa7), (0, .ref st), (1, .ref row)]) hx hb dL_code_213 rfl hl (by decide) rfl (fun ls hl => ?_)
                    refine lv_iinc (v := (nI (k + 1))) (lv' := [(5, .int (nI (k + 1))), (2, .ref qa44), (4, .int (nI (b * f))), (3, .ref qa7), (0, .ref st), (1, .ref row)]) hx hb dL_code_214 hl (k := 1) rfl (by rw [show Int32.ofInt 1 = nI 1 from by decide, nI_add]) (by decide) rfl (fun ls hl => ?_)
                    refine lv_goto (tgt := 194) hx hb dL_code_217 (by decide) ?_
                    refine W.widen (k := (17 + (len + 1))) (n := (9616 + 601 * (len + 1))) (by omega) (by omega) ?_
                    exact ihloop194_18  (k + 1) (len + 1) (by omega) S42  qa44 (wth mg len (ga8 ((b * f) + k))) H locs ls hG53 (hA47.cast (by omega)) hk50 hA52 (by omega) (by omega) hw (lv_sub hl [0, 2, 3, 1, 4, 5] rfl)
              refine W.widen (k := (17 + (len))) (n := (9616 + 601 * (len))) (by omega) (by omega) ?_
              exact loop194_18 (b - 0 + 1) 0 len (by omega) Sx16  mq mg H locs ls hG17 (hA_mqx.cast (by omega)) hk_mqx hA_qa7x (by omega) (by omega) hw (lv_sub hl [0, 1, 2, 3, 4, 5] rfl)
        refine W.widen (k := (17 + (0))) (n := (9616 + 601 * (0))) (by omega) (by omega) ?_
        exact loop184_15 (blk n b - 0 + 1) 0 0 (by omega) S5  q2 (fun _ => 0) H locs ls hG14 (hA13.cast (by omega)) hk2 hA10 (Nat.zero_le _) (by omega) hw (lv_sub hl [0, 1, 2, 3, 4] rfl)
    · exact absurd h_66 (by first | decide | omega)
  · exact absurd h_7 (by first | decide | omega)

theorem hdg_L_code3_S_0 : yL_odd.cls ≠ "java/lang/invoke/MethodHandle" ∧ yL_odd.cls ≠ "java/lang/invoke/VarHandle" ∧ (parseMethodDescriptor yL_odd.desc).map (fun d => d.parameters.length) = some 1 := by decide +kernel
theorem hdg_L_code3_S_1 : yL_with.cls ≠ "java/lang/invoke/MethodHandle" ∧ yL_with.cls ≠ "java/lang/invoke/VarHandle" ∧ (parseMethodDescriptor yL_with.desc).map (fun d => d.parameters.length) = some 2 := by decide +kernel
set_option maxHeartbeats 4000000 in
set_option maxRecDepth 100000 in
theorem g_L_code3 (l : Launch) (D : va_G) (cy : Nat → ClassId) (S : pS) (sz : Nat)  {st row a b c3 c4 c5 c6 n : Nat} {stg rog : Nat → Int32} (hA_st : Arr cy S st 7 stg) (hsv : Sev stg 3 a b c3 c4 c5 c6) (hA_row : Arr cy S row n rog) (hn : n ≤ 100) (hn1 : 1 ≤ n) (ha4 : a ≤ 4) (hc5 : c5 < 1000) (hsz : stp a n * mk3 c5 ≤ 600) : Met l yL_code (Cond.code yL_code cL_code 8 (some (.array .int)) :: lwU) ({ frames := 3, cells := 620, slots := 380000, locals := 104 }) (pPc D cy S sz [.ref st, .ref row]) (pQq D cy S sz (fun r S' => ∃ (q : Nat) (g : Nat → Int32), r = some q ∧ q ∉ S.1 ∧ Grw S S' ∧ Arr cy S' q (stp a n * mk3 c5) g)) 620 380000 (pA S sz) := by
  refine Met.ofW (cc := cL_code) (maxL := 8) (ret := (some (.array .int))) (by decide) rfl ?_
  intro p e s m args below meth c s₁ B hml hv
  obtain ⟨rfl, rfl, C, hw, hA, hr, hlocks⟩ := p_start B hml hv
  have hx := C.1
  have hb := C.2.1
  have hl := lv_entry ([.ref st, .ref row]) (n := 8) (Nat.le_of_ble_eq_true rfl)
  rw [lg_entry_eq]
  generalize (lg_sl ([.ref st, .ref row]) ++ List.replicate (8 - (lg_sl ([.ref st, .ref row])).length) Slot.unset).toArray = ls at hl ⊢
  have hl : lv_has ls 8 [(0, .ref st), (1, .ref row)] := hl
  have hst : stp a n = n + a := by unfold stp; rw [if_neg (by omega)]
  have hmk2 : 2 ≤ mk3 c5 := by unfold mk3; split <;> omega
  have hmk3 : mk3 c5 ≤ 3 := by unfold mk3; split <;> omega
  refine lv_iconst (v := nI 0) hx hb dL_code_0 (by decide) ?_
  refine p_newa C hw hA (mU mw_3) 0 rfl (n := 0) (by first | decide | omega) (Nat.le_of_ble_eq_true rfl) (Nat.le_of_ble_eq_true rfl) dL_code_1 (fun q2 H hq_q2 hw => ?_)
  obtain ⟨S1, hS1⟩ : ∃ z, z = pnew S q2 (.inl (cy 0, 0, .inl (fun _ => 0))) := ⟨_, rfl⟩
  replace hw : pW D (pA S s.heap.size) s.heap S1 H [] := by rw [hS1]; exact hw
  have hk2 : q2 ∉ S.1 := hq_q2
  have hs3 : Grw S S1 := by rw [hS1]; exact Grw.new hq_q2
  have hA4 : Arr cy S1 q2 0 (fun _ => 0) := by rw [hS1]; exact Arr.new
  refine lv_astore_n (lv' := [(2, .ref q2), (0, .ref st), (1, .ref row)]) hx hb dL_code_3 rfl hl (by decide) rfl (fun ls hl => ?_)
  refine lv_aload_n hx hb dL_code_4 rfl (lv_at hl 1 rfl) ?_
  refine lv_iconst (v := nI 0) hx hb dL_code_5 (by decide) ?_
  refine p_ald C hw 0 rfl (hA_st.grw hs3).1 (hA_st.grw hs3).2 (by first | decide | omega) (by first | decide | omega) dL_code_6 ?_
  refine x_ren (b := nI 3) hsv.1 ?_
  refine n_if_ne (tgt := 62) hx hb (by first | decide | omega) dL_code_7 (by decide) (fun h_7 => ?_) (fun h_7 => ?_)
  · skip
    refine lv_aload_n hx hb dL_code_62 rfl (lv_at hl 1 rfl) ?_
    refine lv_iconst (v := nI 0) hx hb dL_code_63 (by decide) ?_
    refine p_ald C hw 0 rfl (hA_st.grw hs3).1 (hA_st.grw hs3).2 (by first | decide | omega) (by first | decide | omega) dL_code_64 ?_
    refine x_ren (b := nI 3) hsv.1 ?_
    refine lv_iconst (v := nI 1) hx hb dL_code_65 (by decide) ?_
    refine n_icmp_ne (tgt := 166) hx hb (by first | decide | omega) (by first | decide | omega) dL_code_66 (by decide) (fun h_66 => ?_) (fun h_66 => ?_)
    · skip
      refine lv_aload_n hx hb dL_code_166 rfl (lv_at hl 1 rfl) ?_
      refine lv_iconst (v := nI 0) hx hb dL_code_167 (by decide) ?_
      refine p_ald C hw 0 rfl (hA_st.grw hs3).1 (hA_st.grw hs3).2 (by first | decide | omega) (by first | decide | omega) dL_code_168 ?_
      refine x_ren (b := nI 3) hsv.1 ?_
      refine lv_iconst (v := nI 2) hx hb dL_code_169 (by decide) ?_
      refine n_icmp_ne (tgt := 278) hx hb (by first | decide | omega) (by first | decide | omega) dL_code_170 (by decide) (fun h_170 => ?_) (fun h_170 => ?_)
      · skip
        refine lv_aload_n hx hb dL_code_278 rfl (lv_at hl 1 rfl) ?_
        refine lv_iconst (v := nI 0) hx hb dL_code_279 (by decide) ?_
        refine p_ald C hw 0 rfl (hA_st.grw hs3).1 (hA_st.grw hs3).2 (by first | decide | omega) (by first | decide | omega) dL_code_280 ?_
        refine x_ren (b := nI 3) hsv.1 ?_
        refine lv_iconst (v := nI 3) hx hb dL_code_281 (by decide) ?_
        refine n_icmp_ne (tgt := 416) hx hb (by first | decide | omega) (by first | decide | omega) dL_code_282 (by decide) (fun h_282 => ?_) (fun h_282 => ?_)
        · exact absurd h_282 (by first | decide | omega)
        · skip
          refine lv_aload_n hx hb dL_code_285 rfl (lv_at hl 2 rfl) ?_
          refine n_len C hw 0 rfl (hA_row.grw hs3).1 (hA_row.grw hs3).2 (n := n) rfl dL_code_286 ?_
          refine n_if_le (tgt := 416) hx hb (by omega) dL_code_287 (by decide) (fun h_287 => ?_) (fun h_287 => ?_)
          · omega
          · skip
            refine lv_aload_n hx hb dL_code_290 rfl (lv_at hl 1 rfl) ?_
            refine lv_iconst (v := nI 5) hx hb dL_code_291 (by decide) ?_
            refine p_ald C hw 0 rfl (hA_st.grw hs3).1 (hA_st.grw hs3).2 (by first | decide | omega) (by first | decide | omega) dL_code_292 ?_
            refine x_ren (b := nI c5) hsv.2.2.2.2.2.1 ?_
            have join301_5 : ∀  (mk : Nat), ∀ (Sx6 : pS)   (H : Heap) (locs : List Loc) (ls : Array Slot), Grw S Sx6 → Arr cy Sx6 q2 0 (fun _ => 0) → (mk = mk3 c5) → pW D (pA S s.heap.size) s.heap Sx6 H locs → lv_has ls 8 [(2, .ref q2), (0, .ref st), (1, .ref row)] → W p l e (headSpec (Cond.code yL_code cL_code 8 (some (.array .int)) :: lwU) ({ frames := 3, cells := 620, slots := 380000, locals := 104 } : Room)).room s m ([.ref st, .ref row]).toArray below meth c H locs 1 0 (MQ below (pQq D cy S s.heap.size (fun r S' => ∃ (q : Nat) (g : Nat → Int32), r = some q ∧ q ∉ S.1 ∧ Grw S S' ∧ Arr cy S' q (stp a n * mk3 c5) g)) ([.ref st, .ref row]).toArray s 620 380000 (pA S s.heap.size)) (F0 m 301 ls [.int (nI mk)]) := by
              intro mk  Sx6   H locs ls hG7 hA_q2x hmk hw hl
              have hsz2 : (n + a) * mk ≤ 600 := by rw [hmk, ← hst]; exact hsz
              have hmk23 : 2 ≤ mk ∧ mk ≤ 3 := by omega
              refine lv_istore_n (lv' := [(3, .int (nI mk)), (2, .ref q2), (0, .ref st), (1, .ref row)]) hx hb dL_code_301 rfl hl (by decide) rfl (fun ls hl => ?_)
              refine lv_iconst (v := nI 0) hx hb dL_code_302 (by decide) ?_
              refine lv_istore (lv' := [(4, .int (nI 0)), (3, .int (nI mk)), (2, .ref q2), (0, .ref st), (1, .ref row)]) hx hb dL_code_303 hl (by decide) rfl (fun ls hl => ?_)
              have loop305_8 : ∀ (kf : Nat) (k : Nat) (len : Nat), n + a - k < kf → ∀ (Sx9 : pS)  (mq : Nat) (mg : Nat → Int32) (H : Heap) (locs : List Loc) (ls : Array Slot), Grw S Sx9 → Arr cy Sx9 mq len mg → mq ∉ S.1 → (k ≤ n + a) → (len = k * mk) → pW D (pA S s.heap.size) s.heap Sx9 H locs → lv_has ls 8 [(4, .int (nI k)), (3, .int (nI mk)), (2, .ref mq), (0, .ref st), (1, .ref row)] → W p l e (headSpec (Cond.code yL_code cL_code 8 (some (.array .int)) :: lwU) ({ frames := 3, cells := 620, slots := 380000, locals := 104 } : Room)).room s m ([.ref st, .ref row]).toArray below meth c H locs (1 + len) (0 + 601 * len) (MQ below (pQq D cy S s.heap.size (fun r S' => ∃ (q : Nat) (g : Nat → Int32), r = some q ∧ q ∉ S.1 ∧ Grw S S' ∧ Arr cy S' q (stp a n * mk3 c5) g)) ([.ref st, .ref row]).toArray s 620 380000 (pA S s.heap.size)) (F0 m 305 ls []) := by
                intro kf
                induction kf with
                | zero => intro k len hm; exact absurd hm (Nat.not_lt_zero _)
                | succ kf ihloop305_8 =>
                  intro k len hm Sx9  mq mg H locs ls hG10 hA_mqx hk_mqx hk hl0 hw hl
                  refine lv_iload hx hb dL_code_305 (lv_at hl 0 rfl) ?_
                  refine lv_aload_n hx hb dL_code_307 rfl (lv_at hl 4 rfl) ?_
                  refine n_len C hw 0 rfl (hA_row.grw hG10).1 (hA_row.grw hG10).2 (n := n) rfl dL_code_308 ?_
                  refine lv_aload_n hx hb dL_code_309 rfl (lv_at hl 3 rfl) ?_
                  refine lv_iconst (v := nI 1) hx hb dL_code_310 (by decide) ?_
                  refine p_ald C hw 0 rfl (hA_st.grw hG10).1 (hA_st.grw hG10).2 (by first | decide | omega) (by first | decide | omega) dL_code_311 ?_
                  refine x_ren (b := nI a) hsv.2.1 ?_
                  refine n_iadd hx hb dL_code_312 ?_
                  refine n_icmp_ge (tgt := 416) hx hb (by omega) (by omega) dL_code_313 (by decide) (fun h_313 => ?_) (fun h_313 => ?_)
                  · skip
                    have he : k = n + a := by omega
                    rw [he] at hl0
                    refine lv_aload_n hx hb dL_code_416 rfl (lv_at hl 3 rfl) ?_
                    refine lv_iconst (v := nI 0) hx hb dL_code_417 (by decide) ?_
                    refine p_ald C hw 0 rfl (hA_st.grw hG10).1 (hA_st.grw hG10).2 (by first | decide | omega) (by first | decide | omega) dL_code_418 ?_
                    refine x_ren (b := nI 3) hsv.1 ?_
                    refine lv_iconst (v := nI 4) hx hb dL_code_419 (by decide) ?_
                    refine n_icmp_ne (tgt := 513) hx hb (by first | decide | omega) (by first | decide | omega) dL_code_420 (by decide) (fun h_420 => ?_) (fun h_420 => ?_)
                    · skip
                      refine lv_aload_n hx hb dL_code_513 rfl (lv_at hl 2 rfl) ?_
                      refine W.widen (k := 620) (n := 380000) (show (1 + len) ≤ 620 from by omega) (show (0 + 601 * len) ≤ 380000 from by omega) ?_
                      exact (p_qret C hw (v := some mq) ⟨_, _, rfl, hk_mqx, hG10, (hA_mqx).cast (by rw [hst, ← hmk]; omega)⟩ hr (by first | exact Or.inl ⟨_, rfl⟩ | exact Or.inr ⟨_, rfl⟩) hlocks dL_code_514)
                    · exact absurd h_420 (by first | decide | omega)
                  · skip
                    have hm3 := Nat.mul_le_mul_right mk (show k + 1 ≤ n + a by omega)
                    have hm4 := sm1 k mk
                    refine lv_iconst (v := nI 0) hx hb dL_code_316 (by decide) ?_
                    refine lv_istore (lv' := [(5, .int (nI 0)), (4, .int (nI k)), (3, .int (nI mk)), (2, .ref mq), (0, .ref st), (1, .ref row)]) hx hb dL_code_317 hl (by decide) rfl (fun ls hl => ?_)
                    refine lv_iconst (v := nI 0) hx hb dL_code_319 (by decide) ?_
                    refine lv_istore (lv' := [(6, .int (nI 0)), (5, .int (nI 0)), (4, .int (nI k)), (3, .int (nI mk)), (2, .ref mq), (0, .ref st), (1, .ref row)]) hx hb dL_code_320 hl (by decide) rfl (fun ls hl => ?_)
                    have loop322_11 : ∀ (kf : Nat) (bk : Nat) (wv : Int32), a + 1 - bk < kf → ∀ (H : Heap) (locs : List Loc) (ls : Array Slot), (bk ≤ a + 1) → pW D (pA S s.heap.size) s.heap Sx9 H locs → lv_has ls 8 [(6, .int (nI bk)), (5, .int wv), (4, .int (nI k)), (3, .int (nI mk)), (2, .ref mq), (0, .ref st), (1, .ref row)] → W p l e (headSpec (Cond.code yL_code cL_code 8 (some (.array .int)) :: lwU) ({ frames := 3, cells := 620, slots := 380000, locals := 104 } : Room)).room s m ([.ref st, .ref row]).toArray below meth c H locs (1 + len) (0 + 601 * len) (MQ below (pQq D cy S s.heap.size (fun r S' => ∃ (q : Nat) (g : Nat → Int32), r = some q ∧ q ∉ S.1 ∧ Grw S S' ∧ Arr cy S' q (stp a n * mk3 c5) g)) ([.ref st, .ref row]).toArray s 620 380000 (pA S s.heap.size)) (F0 m 322 ls []) := by
                      intro kf
                      induction kf with
                      | zero => intro bk wv hm; exact absurd hm (Nat.not_lt_zero _)
                      | succ kf ihloop322_11 =>
                        intro bk wv hm    H locs ls hbk hw hl
                        refine lv_iload hx hb dL_code_322 (lv_at hl 0 rfl) ?_
                        refine lv_aload_n hx hb dL_code_324 rfl (lv_at hl 5 rfl) ?_
                        refine lv_iconst (v := nI 1) hx hb dL_code_325 (by decide) ?_
                        refine p_ald C hw 0 rfl (hA_st.grw hG10).1 (hA_st.grw hG10).2 (by first | decide | omega) (by first | decide | omega) dL_code_326 ?_
                        refine x_ren (b := nI a) hsv.2.1 ?_
                        refine n_icmp_gt (tgt := 378) hx hb (by omega) (by omega) dL_code_327 (by decide) (fun h_327 => ?_) (fun h_327 => ?_)
                        · skip
                          refine lv_iconst (v := nI 0) hx hb dL_code_378 (by decide) ?_
                          refine lv_istore (lv' := [(6, .int (nI 0)), (5, .int wv), (4, .int (nI k)), (3, .int (nI mk)), (2, .ref mq), (0, .ref st), (1, .ref row)]) hx hb dL_code_379 hl (by decide) rfl (fun ls hl => ?_)
                          have loop381_13 : ∀ (kf : Nat) (i : Nat) (len : Nat), mk - i < kf → ∀ (Sx14 : pS)  (mq : Nat) (mg : Nat → Int32) (H : Heap) (locs : List Loc) (ls : Array Slot), Grw S Sx14 → Arr cy Sx14 mq len mg → mq ∉ S.1 → (i ≤ mk) → (len = k * mk + i) → pW D (pA S s.heap.size) s.heap Sx14 H locs → lv_has ls 8 [(6, .int (nI i)), (5, .int wv), (4, .int (nI k)), (3, .int (nI mk)), (2, .ref mq), (0, .ref st), (1, .ref row)] → W p l e (headSpec (Cond.code yL_code cL_code 8 (some (.array .int)) :: lwU) ({ frames := 3, cells := 620, slots := 380000, locals := 104 } : Room)).room s m ([.ref st, .ref row]).toArray below meth c H locs (1 + len) (0 + 601 * len) (MQ below (pQq D cy S s.heap.size (fun r S' => ∃ (q : Nat) (g : Nat → Int32), r = some q ∧ q ∉ S.1 ∧ Grw S S' ∧ Arr cy S' q (stp a n * mk3 c5) g)) ([.ref st, .ref row]).toArray s 620 380000 (pA S s.heap.size)) (F0 m 381 ls []) := by
                            intro kf
                            induction kf with
                            | zero => intro i len hm; exact absurd hm (Nat.not_lt_zero _)
                            | succ kf ihloop381_13 =>
                              intro i len hm Sx14  mq mg H locs ls hG15 hA_mqx hk_mqx hi hli hw hl
                              refine lv_iload hx hb dL_code_381 (lv_at hl 0 rfl) ?_
                              refine lv_iload_n hx hb dL_code_383 rfl (lv_at hl 3 rfl) ?_
                              refine n_icmp_ge (tgt := 410) hx hb (by omega) (by omega) dL_code_384 (by decide) (fun h_384 => ?_) (fun h_384 => ?_)
                              · skip
                                refine lv_iinc (v := (nI (k + 1))) (lv' := [(4, .int (nI (k + 1))), (6, .int (nI i)), (5, .int wv), (3, .int (nI mk)), (2, .ref mq), (0, .ref st), (1, .ref row)]) hx hb dL_code_410 hl (k := 2) rfl (by rw [show Int32.ofInt 1 = nI 1 from by decide, nI_add]) (by decide) rfl (fun ls hl => ?_)
                                refine lv_goto (tgt := 305) hx hb dL_code_413 (by decide) ?_
                                refine W.widen (k := (1 + (len))) (n := (0 + 601 * (len))) (by omega) (by omega) ?_
                                exact ihloop305_8  (k + 1) len (by omega) Sx14  mq mg H locs ls hG15 (hA_mqx.cast (by omega)) hk_mqx (by omega) (by omega) hw (lv_sub hl [0, 3, 4, 5, 6] rfl)
                              · skip
                                refine lv_aload_n hx hb dL_code_387 rfl (lv_at hl 4 rfl) ?_
                                refine lv_iload hx hb dL_code_388 (lv_at hl 1 rfl) ?_
                                refine lv_aload_n hx hb dL_code_390 rfl (lv_at hl 5 rfl) ?_
                                refine lv_iconst (v := nI 3) hx hb dL_code_391 (by decide) ?_
                                refine lv_iload hx hb dL_code_392 (lv_at hl 0 rfl) ?_
                                refine n_iadd hx hb dL_code_394 ?_
                                refine p_ald C hw 0 rfl (hA_st.grw hG15).1 (hA_st.grw hG15).2 (by omega) (by omega) dL_code_395 ?_
                                refine lv_iand hx hb dL_code_396 ?_
                                refine p_calli (va_runS (As := [.int (wv &&& (stg (3 + i)))]) (rest := [.ref mq]) C.fix (g_L_odd l D cy Sx14 H.size (wv &&& (stg (3 + i)))) (va_cwS 1 C.2.2.2.2.1 (gU_S mw_393 mw_394 mw_79 (subU mw_395)) rfl rfl rfl hdg_L_code3_S_0 ⟨Nat.le_of_ble_eq_true rfl, Nat.le_of_ble_eq_true rfl⟩) (p_preS C hw) rfl rfl hl.1 rfl (lv_room (Nat.le_of_ble_eq_true rfl)) dL_code_397 ⟨(show (1 + len) + 0 ≤ 620 from by omega), (show (0 + 601 * len) + 0 ≤ 380000 from by omega)⟩) hw hA (fun r17 S16 H locs hpost hw => ?_)
                                subst hpost
                                refine p_callq (va_runS (As := [.ref mq, .int r17]) (rest := []) C.fix (g_L_with l D cy Sx14 H.size hA_mqx r17 (by omega)) (va_cwS 2 C.2.2.2.2.1 (gU_S mw_93 mw_94 mw_79 (subU mw_95)) rfl rfl rfl hdg_L_code3_S_1 ⟨Nat.le_of_ble_eq_true rfl, Nat.le_of_ble_eq_true rfl⟩) (p_preS C hw) rfl rfl hl.1 rfl (lv_room (Nat.le_of_ble_eq_true rfl)) dL_code_400 ⟨(show (1 + len) + 0 + 1 ≤ 620 from by omega), (show (0 + 601 * len) + 0 + 601 ≤ 380000 from by omega)⟩) hw hA (fun r19 S18 H locs hpost hw => ?_)
                                obtain ⟨qa20, hr_, hq24, hs22, hA23⟩ := hpost
                                subst hr_
                                have hk26 : qa20 ∉ S.1 := hG15.nin hq24
                                have hA27 := hA_mqx.grw hs22
                                have hG28 := hG15.trans hs22
                                refine lv_astore_n (lv' := [(2, .ref qa20), (6, .int (nI i)), (5, .int wv), (4, .int (nI k)), (3, .int (nI mk)), (0, .ref st), (1, .ref row)]) hx hb dL_code_403 rfl hl (by decide) rfl (fun ls hl => ?_)
                                refine lv_iinc (v := (nI (i + 1))) (lv' := [(6, .int (nI (i + 1))), (2, .ref qa20), (5, .int wv), (4, .int (nI k)), (3, .int (nI mk)), (0, .ref st), (1, .ref row)]) hx hb dL_code_404 hl (k := 1) rfl (by rw [show Int32.ofInt 1 = nI 1 from by decide, nI_add]) (by decide) rfl (fun ls hl => ?_)
                                refine lv_goto (tgt := 381) hx hb dL_code_407 (by decide) ?_
                                refine W.widen (k := (1 + (len + 1))) (n := (0 + 601 * (len + 1))) (by omega) (by omega) ?_
                                exact ihloop381_13  (i + 1) (len + 1) (by omega) S18  qa20 (wth mg len r17) H locs ls hG28 (hA23.cast (by omega)) hk26 (by omega) (by omega) hw (lv_sub hl [0, 2, 3, 4, 1, 5, 6] rfl)
                          refine W.widen (k := (1 + (len))) (n := (0 + 601 * (len))) (by omega) (by omega) ?_
                          exact loop381_13 (mk - 0 + 1) 0 len (by omega) Sx9  mq mg H locs ls hG10 (hA_mqx.cast (by omega)) hk_mqx (by omega) (by omega) hw (lv_sub hl [0, 1, 2, 3, 4, 5, 6] rfl)
                        · skip
                          refine lv_iload hx hb dL_code_330 (lv_at hl 2 rfl) ?_
                          refine lv_iload hx hb dL_code_332 (lv_at hl 0 rfl) ?_
                          refine lv_isub hx hb dL_code_334 ?_
                          refine lv_if_lt (tgt := 372) hx hb dL_code_335 (by decide) (fun h_335 => ?_) (fun h_335 => ?_)
                          · skip
                            refine lv_iinc (v := (nI (bk + 1))) (lv' := [(6, .int (nI (bk + 1))), (5, .int wv), (4, .int (nI k)), (3, .int (nI mk)), (2, .ref mq), (0, .ref st), (1, .ref row)]) hx hb dL_code_372 hl (k := 0) rfl (by rw [show Int32.ofInt 1 = nI 1 from by decide, nI_add]) (by decide) rfl (fun ls hl => ?_)
                            refine lv_goto (tgt := 322) hx hb dL_code_375 (by decide) ?_
                            exact ihloop322_11  (bk + 1) wv (by omega)    H locs ls   (by omega) hw (lv_sub hl [0, 1, 2, 3, 4, 5, 6] rfl)
                          · skip
                            have hkb : bk ≤ k := sub_nn (by omega) (by omega) h_335
                            refine lv_iload hx hb dL_code_338 (lv_at hl 2 rfl) ?_
                            refine lv_iload hx hb dL_code_340 (lv_at hl 0 rfl) ?_
                            refine n_isub hx hb (by omega) dL_code_342 ?_
                            refine lv_aload_n hx hb dL_code_343 rfl (lv_at hl 6 rfl) ?_
                            refine n_len C hw 0 rfl (hA_row.grw hG10).1 (hA_row.grw hG10).2 (n := n) rfl dL_code_344 ?_
                            refine n_icmp_ge (tgt := 372) hx hb (by omega) (by omega) dL_code_345 (by decide) (fun h_345 => ?_) (fun h_345 => ?_)
                            · skip
                              refine lv_iinc (v := (nI (bk + 1))) (lv' := [(6, .int (nI (bk + 1))), (5, .int wv), (4, .int (nI k)), (3, .int (nI mk)), (2, .ref mq), (0, .ref st), (1, .ref row)]) hx hb dL_code_372 hl (k := 0) rfl (by rw [show Int32.ofInt 1 = nI 1 from by decide, nI_add]) (by decide) rfl (fun ls hl => ?_)
                              refine lv_goto (tgt := 322) hx hb dL_code_375 (by decide) ?_
                              exact ihloop322_11  (bk + 1) wv (by omega)    H locs ls   (by omega) hw (lv_sub hl [0, 1, 2, 3, 4, 5, 6] rfl)
                            · skip
                              refine lv_aload_n hx hb dL_code_348 rfl (lv_at hl 6 rfl) ?_
                              refine lv_iload hx hb dL_code_349 (lv_at hl 2 rfl) ?_
                              refine lv_iload hx hb dL_code_351 (lv_at hl 0 rfl) ?_
                              refine n_isub hx hb (by omega) dL_code_353 ?_
                              refine p_ald C hw 0 rfl (hA_row.grw hG10).1 (hA_row.grw hG10).2 (by omega) (by omega) dL_code_354 ?_
                              refine lv_iconst (v := nI 1) hx hb dL_code_355 (by decide) ?_
                              refine z_icmp_ne (tgt := 372) hx hb rfl (nI_toInt (by decide)) dL_code_356 (by decide) (fun h_356 => ?_) (fun h_356 => ?_)
                              · skip
                                refine lv_iinc (v := (nI (bk + 1))) (lv' := [(6, .int (nI (bk + 1))), (5, .int wv), (4, .int (nI k)), (3, .int (nI mk)), (2, .ref mq), (0, .ref st), (1, .ref row)]) hx hb dL_code_372 hl (k := 0) rfl (by rw [show Int32.ofInt 1 = nI 1 from by decide, nI_add]) (by decide) rfl (fun ls hl => ?_)
                                refine lv_goto (tgt := 322) hx hb dL_code_375 (by decide) ?_
                                exact ihloop322_11  (bk + 1) wv (by omega)    H locs ls   (by omega) hw (lv_sub hl [0, 1, 2, 3, 4, 5, 6] rfl)
                              · skip
                                refine lv_iload hx hb dL_code_359 (lv_at hl 1 rfl) ?_
                                refine lv_iconst (v := nI 1) hx hb dL_code_361 (by decide) ?_
                                refine lv_aload_n hx hb dL_code_362 rfl (lv_at hl 5 rfl) ?_
                                refine lv_iconst (v := nI 1) hx hb dL_code_363 (by decide) ?_
                                refine p_ald C hw 0 rfl (hA_st.grw hG10).1 (hA_st.grw hG10).2 (by first | decide | omega) (by first | decide | omega) dL_code_364 ?_
                                refine x_ren (b := nI a) hsv.2.1 ?_
                                refine lv_iload hx hb dL_code_365 (lv_at hl 0 rfl) ?_
                                refine n_isub hx hb (by omega) dL_code_367 ?_
                                refine n_ishl hx hb (by omega) (by have := two_pow_4 (show a - bk ≤ 4 by omega); omega) dL_code_368 ?_
                                refine lv_ior hx hb dL_code_369 ?_
                                refine lv_istore (lv' := [(5, .int (wv ||| (nI (1 * 2 ^ (a - bk))))), (6, .int (nI bk)), (4, .int (nI k)), (3, .int (nI mk)), (2, .ref mq), (0, .ref st), (1, .ref row)]) hx hb dL_code_370 hl (by decide) rfl (fun ls hl => ?_)
                                refine lv_iinc (v := (nI (bk + 1))) (lv' := [(6, .int (nI (bk + 1))), (5, .int (wv ||| (nI (1 * 2 ^ (a - bk))))), (4, .int (nI k)), (3, .int (nI mk)), (2, .ref mq), (0, .ref st), (1, .ref row)]) hx hb dL_code_372 hl (k := 1) rfl (by rw [show Int32.ofInt 1 = nI 1 from by decide, nI_add]) (by decide) rfl (fun ls hl => ?_)
                                refine lv_goto (tgt := 322) hx hb dL_code_375 (by decide) ?_
                                exact ihloop322_11  (bk + 1) (wv ||| (nI (1 * 2 ^ (a - bk)))) (by omega)    H locs ls   (by omega) hw (lv_sub hl [0, 1, 2, 3, 4, 5, 6] rfl)
                    exact loop322_11 (a + 1 - 0 + 1) 0 (nI 0) (by omega)    H locs ls   (by omega) hw (lv_sub hl [0, 1, 2, 3, 4, 5, 6] rfl)
              refine W.widen (k := (1 + (0))) (n := (0 + 601 * (0))) (by omega) (by omega) ?_
              exact loop305_8 (n + a - 0 + 1) 0 0 (by omega) Sx6  q2 (fun _ => 0) H locs ls hG7 (hA_q2x.cast (by omega)) hk2 (by omega) (by omega) hw (lv_sub hl [0, 1, 2, 3, 4] rfl)
            refine n_if_ne (tgt := 300) hx hb (by omega) dL_code_293 (by decide) (fun h_293 => ?_) (fun h_293 => ?_)
            · skip
              refine lv_iconst (v := nI 3) hx hb dL_code_300 (by decide) ?_
              exact join301_5  3  S1   H [] ls hs3 hA4 (by unfold mk3; first | rw [if_neg (by omega)] | rw [if_pos (by omega)]) hw (lv_sub hl [0, 1, 2] rfl)
            · skip
              refine lv_iconst (v := nI 2) hx hb dL_code_296 (by decide) ?_
              refine lv_goto (tgt := 301) hx hb dL_code_297 (by decide) ?_
              exact join301_5  2  S1   H [] ls hs3 hA4 (by unfold mk3; first | rw [if_neg (by omega)] | rw [if_pos (by omega)]) hw (lv_sub hl [0, 1, 2] rfl)
      · exact absurd h_170 (by first | decide | omega)
    · exact absurd h_66 (by first | decide | omega)
  · exact absurd h_7 (by first | decide | omega)

theorem hdg_L_code4_S_0 : yL_fill.cls ≠ "java/lang/invoke/MethodHandle" ∧ yL_fill.cls ≠ "java/lang/invoke/VarHandle" ∧ (parseMethodDescriptor yL_fill.desc).map (fun d => d.parameters.length) = some 2 := by decide +kernel
theorem hdg_L_code4_S_1 : yL_with.cls ≠ "java/lang/invoke/MethodHandle" ∧ yL_with.cls ≠ "java/lang/invoke/VarHandle" ∧ (parseMethodDescriptor yL_with.desc).map (fun d => d.parameters.length) = some 2 := by decide +kernel
set_option maxHeartbeats 4000000 in
set_option maxRecDepth 100000 in
theorem g_L_code4 (l : Launch) (D : va_G) (cy : Nat → ClassId) (S : pS) (sz : Nat)  {st row a b c3 c4 c5 c6 n : Nat} {stg rog : Nat → Int32} (hA_st : Arr cy S st 7 stg) (hsv : Sev stg 4 a b c3 c4 c5 c6) (hA_row : Arr cy S row n rog) (hn : n ≤ 100) (ha1 : 1 ≤ a) (hb1 : 1 ≤ b) (hab : a * b ≤ 16) (hsz : blk n (a * b) * (a * b) ≤ 600) : Met l yL_code (Cond.code yL_code cL_code 8 (some (.array .int)) :: lwU) ({ frames := 3, cells := 620, slots := 380000, locals := 104 }) (pPc D cy S sz [.ref st, .ref row]) (pQq D cy S sz (fun r S' => ∃ (q : Nat) (g : Nat → Int32), r = some q ∧ q ∉ S.1 ∧ Grw S S' ∧ Arr cy S' q (blk n (a * b) * (a * b)) g)) 620 380000 (pA S sz) := by
  refine Met.ofW (cc := cL_code) (maxL := 8) (ret := (some (.array .int))) (by decide) rfl ?_
  intro p e s m args below meth c s₁ B hml hv
  obtain ⟨rfl, rfl, C, hw, hA, hr, hlocks⟩ := p_start B hml hv
  have hx := C.1
  have hb := C.2.1
  have hl := lv_entry ([.ref st, .ref row]) (n := 8) (Nat.le_of_ble_eq_true rfl)
  rw [lg_entry_eq]
  generalize (lg_sl ([.ref st, .ref row]) ++ List.replicate (8 - (lg_sl ([.ref st, .ref row])).length) Slot.unset).toArray = ls at hl ⊢
  have hl : lv_has ls 8 [(0, .ref st), (1, .ref row)] := hl
  have hab1 : 1 ≤ a * b := Nat.mul_pos ha1 hb1
  have hb16 : b ≤ 16 := Nat.le_trans (Nat.le_mul_of_pos_left b ha1) hab
  have ha16 : a ≤ 16 := Nat.le_trans (Nat.le_mul_of_pos_right a hb1) hab
  have hbm := blk_mul_le (n := n) (e := a * b) hab1
  refine lv_iconst (v := nI 0) hx hb dL_code_0 (by decide) ?_
  refine p_newa C hw hA (mU mw_3) 0 rfl (n := 0) (by first | decide | omega) (Nat.le_of_ble_eq_true rfl) (Nat.le_of_ble_eq_true rfl) dL_code_1 (fun q2 H hq_q2 hw => ?_)
  obtain ⟨S1, hS1⟩ : ∃ z, z = pnew S q2 (.inl (cy 0, 0, .inl (fun _ => 0))) := ⟨_, rfl⟩
  replace hw : pW D (pA S s.heap.size) s.heap S1 H [] := by rw [hS1]; exact hw
  have hk2 : q2 ∉ S.1 := hq_q2
  have hs3 : Grw S S1 := by rw [hS1]; exact Grw.new hq_q2
  have hA4 : Arr cy S1 q2 0 (fun _ => 0) := by rw [hS1]; exact Arr.new
  refine lv_astore_n (lv' := [(2, .ref q2), (0, .ref st), (1, .ref row)]) hx hb dL_code_3 rfl hl (by decide) rfl (fun ls hl => ?_)
  refine lv_aload_n hx hb dL_code_4 rfl (lv_at hl 1 rfl) ?_
  refine lv_iconst (v := nI 0) hx hb dL_code_5 (by decide) ?_
  refine p_ald C hw 0 rfl (hA_st.grw hs3).1 (hA_st.grw hs3).2 (by first | decide | omega) (by first | decide | omega) dL_code_6 ?_
  refine x_ren (b := nI 4) hsv.1 ?_
  refine n_if_ne (tgt := 62) hx hb (by first | decide | omega) dL_code_7 (by decide) (fun h_7 => ?_) (fun h_7 => ?_)
  · skip
    refine lv_aload_n hx hb dL_code_62 rfl (lv_at hl 1 rfl) ?_
    refine lv_iconst (v := nI 0) hx hb dL_code_63 (by decide) ?_
    refine p_ald C hw 0 rfl (hA_st.grw hs3).1 (hA_st.grw hs3).2 (by first | decide | omega) (by first | decide | omega) dL_code_64 ?_
    refine x_ren (b := nI 4) hsv.1 ?_
    refine lv_iconst (v := nI 1) hx hb dL_code_65 (by decide) ?_
    refine n_icmp_ne (tgt := 166) hx hb (by first | decide | omega) (by first | decide | omega) dL_code_66 (by decide) (fun h_66 => ?_) (fun h_66 => ?_)
    · skip
      refine lv_aload_n hx hb dL_code_166 rfl (lv_at hl 1 rfl) ?_
      refine lv_iconst (v := nI 0) hx hb dL_code_167 (by decide) ?_
      refine p_ald C hw 0 rfl (hA_st.grw hs3).1 (hA_st.grw hs3).2 (by first | decide | omega) (by first | decide | omega) dL_code_168 ?_
      refine x_ren (b := nI 4) hsv.1 ?_
      refine lv_iconst (v := nI 2) hx hb dL_code_169 (by decide) ?_
      refine n_icmp_ne (tgt := 278) hx hb (by first | decide | omega) (by first | decide | omega) dL_code_170 (by decide) (fun h_170 => ?_) (fun h_170 => ?_)
      · skip
        refine lv_aload_n hx hb dL_code_278 rfl (lv_at hl 1 rfl) ?_
        refine lv_iconst (v := nI 0) hx hb dL_code_279 (by decide) ?_
        refine p_ald C hw 0 rfl (hA_st.grw hs3).1 (hA_st.grw hs3).2 (by first | decide | omega) (by first | decide | omega) dL_code_280 ?_
        refine x_ren (b := nI 4) hsv.1 ?_
        refine lv_iconst (v := nI 3) hx hb dL_code_281 (by decide) ?_
        refine n_icmp_ne (tgt := 416) hx hb (by first | decide | omega) (by first | decide | omega) dL_code_282 (by decide) (fun h_282 => ?_) (fun h_282 => ?_)
        · skip
          refine lv_aload_n hx hb dL_code_416 rfl (lv_at hl 1 rfl) ?_
          refine lv_iconst (v := nI 0) hx hb dL_code_417 (by decide) ?_
          refine p_ald C hw 0 rfl (hA_st.grw hs3).1 (hA_st.grw hs3).2 (by first | decide | omega) (by first | decide | omega) dL_code_418 ?_
          refine x_ren (b := nI 4) hsv.1 ?_
          refine lv_iconst (v := nI 4) hx hb dL_code_419 (by decide) ?_
          refine n_icmp_ne (tgt := 513) hx hb (by first | decide | omega) (by first | decide | omega) dL_code_420 (by decide) (fun h_420 => ?_) (fun h_420 => ?_)
          · exact absurd h_420 (by first | decide | omega)
          · skip
            refine lv_aload_n hx hb dL_code_423 rfl (lv_at hl 2 rfl) ?_
            refine lv_aload_n hx hb dL_code_424 rfl (lv_at hl 1 rfl) ?_
            refine lv_iconst (v := nI 1) hx hb dL_code_425 (by decide) ?_
            refine p_ald C hw 0 rfl (hA_st.grw hs3).1 (hA_st.grw hs3).2 (by first | decide | omega) (by first | decide | omega) dL_code_426 ?_
            refine x_ren (b := nI a) hsv.2.1 ?_
            refine lv_aload_n hx hb dL_code_427 rfl (lv_at hl 1 rfl) ?_
            refine lv_iconst (v := nI 2) hx hb dL_code_428 (by decide) ?_
            refine p_ald C hw 0 rfl (hA_st.grw hs3).1 (hA_st.grw hs3).2 (by first | decide | omega) (by first | decide | omega) dL_code_429 ?_
            refine x_ren (b := nI b) hsv.2.2.1 ?_
            refine n_imul hx hb dL_code_430 ?_
            refine p_callq (va_runS (As := [.ref row, .int (nI (a * b))]) (rest := []) C.fix (g_L_fill l D cy S1 H.size (hA_row.grw hs3) (a * b) (by omega) (by omega) (by omega)) (va_cwS 2 C.2.2.2.2.1 (gU_S mw_381 mw_382 mw_79 (subU mw_383)) rfl rfl rfl hdg_L_code4_S_0 ⟨Nat.le_of_ble_eq_true rfl, Nat.le_of_ble_eq_true rfl⟩) (p_preS C hw) rfl rfl hl.1 rfl (lv_room (Nat.le_of_ble_eq_true rfl)) dL_code_431 ⟨(Nat.le_of_ble_eq_true rfl), (Nat.le_of_ble_eq_true rfl)⟩) hw hA (fun r6 S5 H locs hpost hw => ?_)
            obtain ⟨qa7, ga8, hr_, hs9, hA10⟩ := hpost
            subst hr_
            have hA13 := hA4.grw hs9
            have hG14 := hs3.trans hs9
            refine lv_astore_n (lv' := [(3, .ref qa7), (2, .ref q2), (0, .ref st), (1, .ref row)]) hx hb dL_code_434 rfl hl (by decide) rfl (fun ls hl => ?_)
            refine lv_iconst (v := nI 0) hx hb dL_code_435 (by decide) ?_
            refine lv_istore (lv' := [(4, .int (nI 0)), (3, .ref qa7), (2, .ref q2), (0, .ref st), (1, .ref row)]) hx hb dL_code_436 hl (by decide) rfl (fun ls hl => ?_)
            have loop438_15 : ∀ (kf : Nat) (f : Nat) (len : Nat), blk n (a * b) - f < kf → ∀ (Sx16 : pS)  (mq : Nat) (mg : Nat → Int32) (H : Heap) (locs : List Loc) (ls : Array Slot), Grw S Sx16 → Arr cy Sx16 mq len mg → mq ∉ S.1 → Arr cy Sx16 qa7 (blk n (a * b) * (a * b)) ga8 → (f ≤ blk n (a * b)) → (len = a * b * f) → pW D (pA S s.heap.size) s.heap Sx16 H locs → lv_has ls 8 [(4, .int (nI (a * b * f))), (3, .ref qa7), (2, .ref mq), (0, .ref st), (1, .ref row)] → W p l e (headSpec (Cond.code yL_code cL_code 8 (some (.array .int)) :: lwU) ({ frames := 3, cells := 620, slots := 380000, locals := 104 } : Room)).room s m ([.ref st, .ref row]).toArray below meth c H locs (17 + len) (9616 + 601 * len) (MQ below (pQq D cy S s.heap.size (fun r S' => ∃ (q : Nat) (g : Nat → Int32), r = some q ∧ q ∉ S.1 ∧ Grw S S' ∧ Arr cy S' q (blk n (a * b) * (a * b)) g)) ([.ref st, .ref row]).toArray s 620 380000 (pA S s.heap.size)) (F0 m 438 ls []) := by
              intro kf
              induction kf with
              | zero => intro f len hm; exact absurd hm (Nat.not_lt_zero _)
              | succ kf ihloop438_15 =>
                intro f len hm Sx16  mq mg H locs ls hG17 hA_mqx hk_mqx hA_qa7x hf hl0 hw hl
                have hfa := fle (a := a * b) hf
                refine lv_iload hx hb dL_code_438 (lv_at hl 0 rfl) ?_
                refine lv_aload_n hx hb dL_code_440 rfl (lv_at hl 1 rfl) ?_
                refine n_len C hw 0 rfl hA_qa7x.1 hA_qa7x.2 (n := blk n (a * b) * (a * b)) rfl dL_code_441 ?_
                refine n_icmp_ge (tgt := 513) hx hb (by omega) (by omega) dL_code_442 (by decide) (fun h_442 => ?_) (fun h_442 => ?_)
                · skip
                  have he := fge (f := f) (B := blk n (a * b)) (a := a * b) hab1 hf (by omega)
                  rw [he] at hl0
                  have hm4 := Nat.mul_comm (a * b) (blk n (a * b))
                  refine lv_aload_n hx hb dL_code_513 rfl (lv_at hl 2 rfl) ?_
                  refine W.widen (k := 620) (n := 380000) (show (17 + len) ≤ 620 from by omega) (show (9616 + 601 * len) ≤ 380000 from by omega) ?_
                  exact (p_qret C hw (v := some mq) ⟨_, _, rfl, hk_mqx, hG17, (hA_mqx).cast (by omega)⟩ hr (by first | exact Or.inl ⟨_, rfl⟩ | exact Or.inr ⟨_, rfl⟩) hlocks dL_code_514)
                · skip
                  have hfB := flt (f := f) (B := blk n (a * b)) (a := a * b) (by omega)
                  have hm1 := fnx (a := a * b) hfB
                  have hm2 : a * b * (f + 1) = a * b * f + a * b := rfl
                  refine lv_iconst (v := nI 0) hx hb dL_code_445 (by decide) ?_
                  refine lv_istore (lv' := [(5, .int (nI 0)), (4, .int (nI (a * b * f))), (3, .ref qa7), (2, .ref mq), (0, .ref st), (1, .ref row)]) hx hb dL_code_446 hl (by decide) rfl (fun ls hl => ?_)
                  have loop448_18 : ∀ (kf : Nat) (cc9 : Nat) (len : Nat), b - cc9 < kf → ∀ (Sx19 : pS)  (mq : Nat) (mg : Nat → Int32) (H : Heap) (locs : List Loc) (ls : Array Slot), Grw S Sx19 → Arr cy Sx19 mq len mg → mq ∉ S.1 → Arr cy Sx19 qa7 (blk n (a * b) * (a * b)) ga8 → (cc9 ≤ b) → (len = a * b * f + cc9 * a) → pW D (pA S s.heap.size) s.heap Sx19 H locs → lv_has ls 8 [(5, .int (nI cc9)), (4, .int (nI (a * b * f))), (3, .ref qa7), (2, .ref mq), (0, .ref st), (1, .ref row)] → W p l e (headSpec (Cond.code yL_code cL_code 8 (some (.array .int)) :: lwU) ({ frames := 3, cells := 620, slots := 380000, locals := 104 } : Room)).room s m ([.ref st, .ref row]).toArray below meth c H locs (17 + len) (9616 + 601 * len) (MQ below (pQq D cy S s.heap.size (fun r S' => ∃ (q : Nat) (g : Nat → Int32), r = some q ∧ q ∉ S.1 ∧ Grw S S' ∧ Arr cy S' q (blk n (a * b) * (a * b)) g)) ([.ref st, .ref row]).toArray s 620 380000 (pA S s.heap.size)) (F0 m 448 ls []) := by
                    intro kf
                    induction kf with
                    | zero => intro cc9 len hm; exact absurd hm (Nat.not_lt_zero _)
                    | succ kf ihloop448_18 =>
                      intro cc9 len hm Sx19  mq mg H locs ls hG20 hA_mqx hk_mqx hA_qa7x hc9 hlc hw hl
                      refine lv_iload hx hb dL_code_448 (lv_at hl 0 rfl) ?_
                      refine lv_aload_n hx hb dL_code_450 rfl (lv_at hl 4 rfl) ?_
                      refine lv_iconst (v := nI 2) hx hb dL_code_451 (by decide) ?_
                      refine p_ald C hw 0 rfl (hA_st.grw hG20).1 (hA_st.grw hG20).2 (by first | decide | omega) (by first | decide | omega) dL_code_452 ?_
                      refine x_ren (b := nI b) hsv.2.2.1 ?_
                      refine n_icmp_ge (tgt := 498) hx hb (by omega) (by omega) dL_code_453 (by decide) (fun h_453 => ?_) (fun h_453 => ?_)
                      · skip
                        have hm6 : cc9 = b := by omega
                        have hm5 := Nat.mul_comm a b
                        rw [hm6] at hlc
                        refine lv_iload hx hb dL_code_498 (lv_at hl 1 rfl) ?_
                        refine lv_aload_n hx hb dL_code_500 rfl (lv_at hl 4 rfl) ?_
                        refine lv_iconst (v := nI 1) hx hb dL_code_501 (by decide) ?_
                        refine p_ald C hw 0 rfl (hA_st.grw hG20).1 (hA_st.grw hG20).2 (by first | decide | omega) (by first | decide | omega) dL_code_502 ?_
                        refine x_ren (b := nI a) hsv.2.1 ?_
                        refine lv_aload_n hx hb dL_code_503 rfl (lv_at hl 4 rfl) ?_
                        refine lv_iconst (v := nI 2) hx hb dL_code_504 (by decide) ?_
                        refine p_ald C hw 0 rfl (hA_st.grw hG20).1 (hA_st.grw hG20).2 (by first | decide | omega) (by first | decide | omega) dL_code_505 ?_
                        refine x_ren (b := nI b) hsv.2.2.1 ?_
                        refine n_imul hx hb dL_code_506 ?_
                        refine n_iadd hx hb dL_code_507 ?_
                        refine n_ren (b := a * b * (f + 1)) rfl ?_
                        refine lv_istore (lv' := [(4, .int (nI (a * b * (f + 1)))), (5, .int (nI cc9)), (3, .ref qa7), (2, .ref mq), (0, .ref st), (1, .ref row)]) hx hb dL_code_508 hl (by decide) rfl (fun ls hl => ?_)
                        refine lv_goto (tgt := 438) hx hb dL_code_510 (by decide) ?_
                        refine W.widen (k := (17 + (len))) (n := (9616 + 601 * (len))) (by omega) (by omega) ?_
                        exact ihloop438_15  (f + 1) len (by omega) Sx19  mq mg H locs ls hG20 (hA_mqx.cast (by omega)) hk_mqx hA_qa7x (by omega) (by omega) hw (lv_sub hl [0, 2, 3, 4, 5] rfl)
                      · skip
                        have hm3 := Nat.mul_le_mul_right a (show cc9 + 1 ≤ b by omega)
                        have hm4 := sm1 cc9 a
                        have hm5 := Nat.mul_comm a b
                        refine lv_iconst (v := nI 0) hx hb dL_code_456 (by decide) ?_
                        refine lv_istore (lv' := [(6, .int (nI 0)), (5, .int (nI cc9)), (4, .int (nI (a * b * f))), (3, .ref qa7), (2, .ref mq), (0, .ref st), (1, .ref row)]) hx hb dL_code_457 hl (by decide) rfl (fun ls hl => ?_)
                        have loop459_21 : ∀ (kf : Nat) (rr9 : Nat) (len : Nat), a - rr9 < kf → ∀ (Sx22 : pS)  (mq : Nat) (mg : Nat → Int32) (H : Heap) (locs : List Loc) (ls : Array Slot), Grw S Sx22 → Arr cy Sx22 mq len mg → mq ∉ S.1 → Arr cy Sx22 qa7 (blk n (a * b) * (a * b)) ga8 → (rr9 ≤ a) → (len = a * b * f + cc9 * a + rr9) → pW D (pA S s.heap.size) s.heap Sx22 H locs → lv_has ls 8 [(6, .int (nI rr9)), (5, .int (nI cc9)), (4, .int (nI (a * b * f))), (3, .ref qa7), (2, .ref mq), (0, .ref st), (1, .ref row)] → W p l e (headSpec (Cond.code yL_code cL_code 8 (some (.array .int)) :: lwU) ({ frames := 3, cells := 620, slots := 380000, locals := 104 } : Room)).room s m ([.ref st, .ref row]).toArray below meth c H locs (17 + len) (9616 + 601 * len) (MQ below (pQq D cy S s.heap.size (fun r S' => ∃ (q : Nat) (g : Nat → Int32), r = some q ∧ q ∉ S.1 ∧ Grw S S' ∧ Arr cy S' q (blk n (a * b) * (a * b)) g)) ([.ref st, .ref row]).toArray s 620 380000 (pA S s.heap.size)) (F0 m 459 ls []) := by
                          intro kf
                          induction kf with
                          | zero => intro rr9 len hm; exact absurd hm (Nat.not_lt_zero _)
                          | succ kf ihloop459_21 =>
                            intro rr9 len hm Sx22  mq mg H locs ls hG23 hA_mqx hk_mqx hA_qa7x hr9 hlr hw hl
                            refine lv_iload hx hb dL_code_459 (lv_at hl 0 rfl) ?_
                            refine lv_aload_n hx hb dL_code_461 rfl (lv_at hl 5 rfl) ?_
                            refine lv_iconst (v := nI 1) hx hb dL_code_462 (by decide) ?_
                            refine p_ald C hw 0 rfl (hA_st.grw hG23).1 (hA_st.grw hG23).2 (by first | decide | omega) (by first | decide | omega) dL_code_463 ?_
                            refine x_ren (b := nI a) hsv.2.1 ?_
                            refine n_icmp_ge (tgt := 492) hx hb (by omega) (by omega) dL_code_464 (by decide) (fun h_464 => ?_) (fun h_464 => ?_)
                            · skip
                              refine lv_iinc (v := (nI (cc9 + 1))) (lv' := [(5, .int (nI (cc9 + 1))), (6, .int (nI rr9)), (4, .int (nI (a * b * f))), (3, .ref qa7), (2, .ref mq), (0, .ref st), (1, .ref row)]) hx hb dL_code_492 hl (k := 1) rfl (by rw [show Int32.ofInt 1 = nI 1 from by decide, nI_add]) (by decide) rfl (fun ls hl => ?_)
                              refine lv_goto (tgt := 448) hx hb dL_code_495 (by decide) ?_
                              refine W.widen (k := (17 + (len))) (n := (9616 + 601 * (len))) (by omega) (by omega) ?_
                              exact ihloop448_18  (cc9 + 1) len (by omega) Sx22  mq mg H locs ls hG23 (hA_mqx.cast (by omega)) hk_mqx hA_qa7x (by omega) (by omega) hw (lv_sub hl [0, 2, 3, 4, 5, 6] rfl)
                            · skip
                              have hm7 := Nat.mul_le_mul_right b (show rr9 + 1 ≤ a by omega)
                              have hm8 := sm1 rr9 b
                              refine lv_aload_n hx hb dL_code_467 rfl (lv_at hl 4 rfl) ?_
                              refine lv_aload_n hx hb dL_code_468 rfl (lv_at hl 3 rfl) ?_
                              refine lv_iload hx hb dL_code_469 (lv_at hl 2 rfl) ?_
                              refine lv_iload hx hb dL_code_471 (lv_at hl 0 rfl) ?_
                              refine lv_aload_n hx hb dL_code_473 rfl (lv_at hl 5 rfl) ?_
                              refine lv_iconst (v := nI 2) hx hb dL_code_474 (by decide) ?_
                              refine p_ald C hw 0 rfl (hA_st.grw hG23).1 (hA_st.grw hG23).2 (by first | decide | omega) (by first | decide | omega) dL_code_475 ?_
                              refine x_ren (b := nI b) hsv.2.2.1 ?_
                              refine n_imul hx hb dL_code_476 ?_
                              refine n_iadd hx hb dL_code_477 ?_
                              refine lv_iload hx hb dL_code_478 (lv_at hl 1 rfl) ?_
                              refine n_iadd hx hb dL_code_480 ?_
                              refine p_ald C hw 0 rfl hA_qa7x.1 hA_qa7x.2 (by omega) (by omega) dL_code_481 ?_
                              refine p_callq (va_runS (As := [.ref mq, .int (ga8 (((a * b * f) + (rr9 * b)) + cc9))]) (rest := []) C.fix (g_L_with l D cy Sx22 H.size hA_mqx (ga8 (((a * b * f) + (rr9 * b)) + cc9)) (by omega)) (va_cwS 2 C.2.2.2.2.1 (gU_S mw_93 mw_94 mw_79 (subU mw_95)) rfl rfl rfl hdg_L_code4_S_1 ⟨Nat.le_of_ble_eq_true rfl, Nat.le_of_ble_eq_true rfl⟩) (p_preS C hw) rfl rfl hl.1 rfl (lv_room (Nat.le_of_ble_eq_true rfl)) dL_code_482 ⟨(show (17 + len) + 1 ≤ 620 from by omega), (show (9616 + 601 * len) + 601 ≤ 380000 from by omega)⟩) hw hA (fun r25 S24 H locs hpost hw => ?_)
                              obtain ⟨qa26, hr_, hq30, hs28, hA29⟩ := hpost
                              subst hr_
                              have hk32 : qa26 ∉ S.1 := hG23.nin hq30
                              have hA33 := hA_mqx.grw hs28
                              have hA34 := hA_qa7x.grw hs28
                              have hG35 := hG23.trans hs28
                              refine lv_astore_n (lv' := [(2, .ref qa26), (6, .int (nI rr9)), (5, .int (nI cc9)), (4, .int (nI (a * b * f))), (3, .ref qa7), (0, .ref st), (1, .ref row)]) hx hb dL_code_485 rfl hl (by decide) rfl (fun ls hl => ?_)
                              refine lv_iinc (v := (nI (rr9 + 1))) (lv' := [(6, .int (nI (rr9 + 1))), (2, .ref qa26), (5, .int (nI cc9)), (4, .int (nI (a * b * f))), (3, .ref qa7), (0, .ref st), (1, .ref row)]) hx hb dL_code_486 hl (k := 1) rfl (by rw [show Int32.ofInt 1 = nI 1 from by decide, nI_add]) (by decide) rfl (fun ls hl => ?_)
                              refine lv_goto (tgt := 459) hx hb dL_code_489 (by decide) ?_
                              refine W.widen (k := (17 + (len + 1))) (n := (9616 + 601 * (len + 1))) (by omega) (by omega) ?_
                              exact ihloop459_21  (rr9 + 1) (len + 1) (by omega) S24  qa26 (wth mg len (ga8 (((a * b * f) + (rr9 * b)) + cc9))) H locs ls hG35 (hA29.cast (by omega)) hk32 hA34 (by omega) (by omega) hw (lv_sub hl [0, 2, 3, 4, 1, 5, 6] rfl)
                        refine W.widen (k := (17 + (len))) (n := (9616 + 601 * (len))) (by omega) (by omega) ?_
                        exact loop459_21 (a - 0 + 1) 0 len (by omega) Sx19  mq mg H locs ls hG20 (hA_mqx.cast (by omega)) hk_mqx hA_qa7x (by omega) (by omega) hw (lv_sub hl [0, 1, 2, 3, 4, 5, 6] rfl)
                  refine W.widen (k := (17 + (len))) (n := (9616 + 601 * (len))) (by omega) (by omega) ?_
                  exact loop448_18 (b - 0 + 1) 0 len (by omega) Sx16  mq mg H locs ls hG17 (hA_mqx.cast (by omega)) hk_mqx hA_qa7x (by omega) (by omega) hw (lv_sub hl [0, 1, 2, 3, 4, 5] rfl)
            refine W.widen (k := (17 + (0))) (n := (9616 + 601 * (0))) (by omega) (by omega) ?_
            exact loop438_15 (blk n (a * b) - 0 + 1) 0 0 (by omega) S5  q2 (fun _ => 0) H locs ls hG14 (hA13.cast (by omega)) hk2 hA10 (Nat.zero_le _) (by omega) hw (lv_sub hl [0, 1, 2, 3, 4] rfl)
        · exact absurd h_282 (by first | decide | omega)
      · exact absurd h_170 (by first | decide | omega)
    · exact absurd h_66 (by first | decide | omega)
  · exact absurd h_7 (by first | decide | omega)
