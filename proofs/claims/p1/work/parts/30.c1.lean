def okW (n m : Int32) : Prop := 1 ≤ m.toInt ∧ m.toInt ≤ 16 ∧ 0 ≤ n.toInt ∧ n.toInt < 2 ^ m.toInt.toNat
theorem fitsB_z {x : Int32} {k : Nat} (hk : k ≤ 16) : (fitsB x k = true) = (0 ≤ x.toInt ∧ x.toInt < 2 ^ k) := by
  have hp : 2 ^ k ≤ 2 ^ 16 := Nat.pow_le_pow_right (by decide) hk
  have e1 : (nI (1 * 2 ^ k)).toInt = ((1 * 2 ^ k : Nat) : Int) := nI_toInt (by omega)
  have e2 : ((2 ^ k : Nat) : Int) = (2 : Int) ^ k := by simp
  unfold fitsB
  rw [decide_eq_true_eq, Int32.lt_iff_toInt_lt, Int32.le_iff_toInt_le, e1, Nat.one_mul, e2]
  show (¬ x.toInt < 0 ∧ _) = _
  refine propext ⟨fun h => ⟨by omega, by omega⟩, fun h => ⟨by omega, by omega⟩⟩
theorem cnt_z {f : Nat → Bool} (h : ∀ q, f q = false) : ∀ k, cnt f k = 0
  | 0 => rfl
  | k + 1 => by rw [cnt_f (h k)]; exact cnt_z h k
theorem cnt_one {p : Nat} (hp : p < 320) : ∀ k, cnt (isOne (rturn (fun _ => 0) 320 p) 320) k = if p < k then 1 else 0
  | 0 => by simp [cnt]
  | k + 1 => by
    have ih := cnt_one hp k
    by_cases e : k = p
    · subst e
      rw [cnt_t (by simp [isOne, rg, rturn, hp]), ih]; simp
    · rw [cnt_f (by simp [isOne, rg, rturn, e]), ih]
      by_cases h : p < k
      · rw [if_pos h, if_pos (by omega)]
      · rw [if_neg h, if_neg (by omega)]
set_option maxHeartbeats 4000000 in
set_option maxRecDepth 100000 in
/-- Row.unlike of an empty row -/
theorem e_X7_unlike0 (l : Launch) (D : va_G) (cy : Nat → ClassId) (S : pS) (sz : Nat) (h : Nat) (o : Nat) (b : Nat) (hL_h : h ∈ S.1) (hf_h : S.2 h = .inr (8, [.ref b, .int (nI 0)]))  : Met l yX7_unlike (Cond.code yX7_unlike cX7_unlike 4 (some .int) :: lwU) ({ frames := 0, cells := 0, slots := 0, locals := 0 }) (pPc D cy S sz [.ref h, .ref o]) (pQi D cy S sz (fun r S' => r = (nI 0) ∧ S = S')) 0 0 (pA S sz) := by
  refine Met.ofW (cc := cX7_unlike) (maxL := 4) (ret := (some .int)) (by decide) rfl ?_
  intro p e s m args below meth c s₁ B hml hv
  obtain ⟨rfl, rfl, C, hw, hA, hr, hlocks⟩ := p_start B hml hv
  have hx := C.1
  have hb := C.2.1
  have hl := lv_entry ([.ref h, .ref o]) (n := 4) (Nat.le_of_ble_eq_true rfl)
  rw [lg_entry_eq]
  generalize (lg_sl ([.ref h, .ref o]) ++ List.replicate (4 - (lg_sl ([.ref h, .ref o])).length) Slot.unset).toArray = ls at hl ⊢
  have hl : lv_has ls 4 [(0, .ref h), (1, .ref o)] := hl
  have hin_RX7 : ∀ w ∈ u_ws RX7 TX7 2, w ∈ (Cond.code yX7_unlike cX7_unlike 4 (some .int) :: lwU) := fun w h => mU (sub_RX7 w h)
  refine lv_iconst (v := nI 0) hx hb dX7_unlike_0 (by decide) ?_
  refine lv_istore_n (lv' := [(2, .int (nI 0)), (0, .ref h), (1, .ref o)]) hx hb dX7_unlike_1 rfl hl (by decide) rfl (fun ls hl => ?_)
  refine lv_iconst (v := nI 0) hx hb dX7_unlike_2 (by decide) ?_
  refine lv_istore_n (lv' := [(3, .int (nI 0)), (2, .int (nI 0)), (0, .ref h), (1, .ref o)]) hx hb dX7_unlike_3 rfl hl (by decide) rfl (fun ls hl => ?_)
  refine lv_iload_n hx hb dX7_unlike_4 rfl (lv_at hl 0 rfl) ?_
  refine lv_aload_n hx hb dX7_unlike_5 rfl (lv_at hl 2 rfl) ?_
  refine p_get C hw (ci := 8) (Cn := RX7) (T := TX7) (N := 2) hL_h hf_h rfl hin_RX7 1 (by decide) (mU mw_54) rfl rfl dX7_unlike_6 ?_
  refine n_icmp_ge (tgt := 34) hx hb (by first | decide | omega) (by first | decide | omega) dX7_unlike_9 (by decide) (fun h_9 => ?_) (fun h_9 => ?_)
  · skip
    refine lv_iload_n hx hb dX7_unlike_34 rfl (lv_at hl 1 rfl) ?_
    exact (p_iret C hw (⟨rfl, rfl⟩) hr hlocks dX7_unlike_35)
  · exact absurd h_9 (by first | decide | omega)

set_option maxHeartbeats 4000000 in
set_option maxRecDepth 100000 in
/-- blocksOf(0, e) -/
theorem e_X11_blocksOf0 (l : Launch) (D : va_G) (cy : Nat → ClassId) (S : pS) (sz : Nat) (e1 : Nat)  (he : e1 < 2 ^ 31) : Met l yX11_blocksOf (Cond.code yX11_blocksOf cX11_blocksOf 2 (some .int) :: lwU) ({ frames := 0, cells := 0, slots := 0, locals := 0 }) (pPc D cy S sz [.int (nI 0), .int (nI e1)]) (pQi D cy S sz (fun r S' => r = (nI 0) ∧ S = S')) 0 0 (pA S sz) := by
  refine Met.ofW (cc := cX11_blocksOf) (maxL := 2) (ret := (some .int)) (by decide) rfl ?_
  intro p e s m args below meth c s₁ B hml hv
  obtain ⟨rfl, rfl, C, hw, hA, hr, hlocks⟩ := p_start B hml hv
  have hx := C.1
  have hb := C.2.1
  have hl := lv_entry ([.int (nI 0), .int (nI e1)]) (n := 2) (Nat.le_of_ble_eq_true rfl)
  rw [lg_entry_eq]
  generalize (lg_sl ([.int (nI 0), .int (nI e1)]) ++ List.replicate (2 - (lg_sl ([.int (nI 0), .int (nI e1)])).length) Slot.unset).toArray = ls at hl ⊢
  have hl : lv_has ls 2 [(0, .int (nI 0)), (1, .int (nI e1))] := hl
  refine lv_iload_n hx hb dX11_blocksOf_0 rfl (lv_at hl 0 rfl) ?_
  refine n_if_le (tgt := 8) hx hb (by first | decide | omega) dX11_blocksOf_1 (by decide) (fun h_1 => ?_) (fun h_1 => ?_)
  · skip
    refine lv_iconst (v := nI 0) hx hb dX11_blocksOf_8 (by decide) ?_
    refine lv_goto (tgt := 19) hx hb dX11_blocksOf_9 (by decide) ?_
    exact (p_iret C hw (⟨rfl, rfl⟩) hr hlocks dX11_blocksOf_19)
  · exact absurd h_1 (by first | decide | omega)

set_option maxHeartbeats 4000000 in
set_option maxRecDepth 100000 in
/-- no stage -/
theorem e_X1_stageAt0 (l : Launch) (D : va_G) (cy : Nat → ClassId) (S : pS) (sz : Nat) (ch : Nat) (lk : Nat) (j : Int32) (hL_ch : ch ∈ S.1) (hf_ch : S.2 ch = .inr (2, [.ref lk, .int (nI 0)]))  : Met l yX1_stageAt (Cond.code yX1_stageAt cX1_stageAt 2 (some (.object "SoundingLine$Stage")) :: lwU) ({ frames := 0, cells := 0, slots := 0, locals := 0 }) (pPc D cy S sz [.ref ch, .int j]) (pQq D cy S sz (fun r S' => r = none ∧ S = S')) 0 0 (pA S sz) := by
  refine Met.ofW (cc := cX1_stageAt) (maxL := 2) (ret := (some (.object "SoundingLine$Stage"))) (by decide) rfl ?_
  intro p e s m args below meth c s₁ B hml hv
  obtain ⟨rfl, rfl, C, hw, hA, hr, hlocks⟩ := p_start B hml hv
  have hx := C.1
  have hb := C.2.1
  have hl := lv_entry ([.ref ch, .int j]) (n := 2) (Nat.le_of_ble_eq_true rfl)
  rw [lg_entry_eq]
  generalize (lg_sl ([.ref ch, .int j]) ++ List.replicate (2 - (lg_sl ([.ref ch, .int j])).length) Slot.unset).toArray = ls at hl ⊢
  have hl : lv_has ls 2 [(0, .ref ch), (1, .int j)] := hl
  have hin_RX1 : ∀ w ∈ u_ws RX1 TX1 2, w ∈ (Cond.code yX1_stageAt cX1_stageAt 2 (some (.object "SoundingLine$Stage")) :: lwU) := fun w h => mU (sub_RX1 w h)
  refine lv_iload_n hx hb dX1_stageAt_0 rfl (lv_at hl 1 rfl) ?_
  refine z_if_lt (tgt := 21) hx hb rfl dX1_stageAt_1 (by decide) (fun h_1 => ?_) (fun h_1 => ?_)
  · skip
    refine lv_null hx hb dX1_stageAt_21 ?_
    refine lv_goto (tgt := 31) hx hb dX1_stageAt_22 (by decide) ?_
    exact (p_qret C hw (v := none) (⟨rfl, rfl⟩) hr (by first | exact Or.inl ⟨_, rfl⟩ | exact Or.inr ⟨_, rfl⟩) hlocks dX1_stageAt_31)
  · skip
    refine lv_iload_n hx hb dX1_stageAt_4 rfl (lv_at hl 1 rfl) ?_
    refine lv_aload_n hx hb dX1_stageAt_5 rfl (lv_at hl 0 rfl) ?_
    refine p_get C hw (ci := 2) (Cn := RX1) (T := TX1) (N := 2) hL_ch hf_ch rfl hin_RX1 1 (by decide) (mU mw_42) rfl rfl dX1_stageAt_6 ?_
    refine z_icmp_ge (tgt := 21) hx hb rfl (nI_toInt (by first | decide | omega)) dX1_stageAt_9 (by decide) (fun h_9 => ?_) (fun h_9 => ?_)
    · skip
      refine lv_null hx hb dX1_stageAt_21 ?_
      refine lv_goto (tgt := 31) hx hb dX1_stageAt_22 (by decide) ?_
      exact (p_qret C hw (v := none) (⟨rfl, rfl⟩) hr (by first | exact Or.inl ⟨_, rfl⟩ | exact Or.inr ⟨_, rfl⟩) hlocks dX1_stageAt_31)
    · exact absurd h_9 (by omega)

set_option maxHeartbeats 4000000 in
set_option maxRecDepth 100000 in
/-- the one stage -/
theorem e_X1_stageAt1 (l : Launch) (D : va_G) (cy : Nat → ClassId) (S : pS) (sz : Nat) (ch : Nat) (lk : Nat) (lq : Nat → Option Nat) (st : Nat) (hL_ch : ch ∈ S.1) (hf_ch : S.2 ch = .inr (2, [.ref lk, .int (nI 1)])) (hL_lk : lk ∈ S.1) (hf_lk : S.2 lk = aQ (cy 3) 4 lq) (hq : lq 0 = some st) : Met l yX1_stageAt (Cond.code yX1_stageAt cX1_stageAt 2 (some (.object "SoundingLine$Stage")) :: lwU) ({ frames := 0, cells := 0, slots := 0, locals := 0 }) (pPc D cy S sz [.ref ch, .int (nI 0)]) (pQq D cy S sz (fun r S' => r = some st ∧ S = S')) 0 0 (pA S sz) := by
  refine Met.ofW (cc := cX1_stageAt) (maxL := 2) (ret := (some (.object "SoundingLine$Stage"))) (by decide) rfl ?_
  intro p e s m args below meth c s₁ B hml hv
  obtain ⟨rfl, rfl, C, hw, hA, hr, hlocks⟩ := p_start B hml hv
  have hx := C.1
  have hb := C.2.1
  have hl := lv_entry ([.ref ch, .int (nI 0)]) (n := 2) (Nat.le_of_ble_eq_true rfl)
  rw [lg_entry_eq]
  generalize (lg_sl ([.ref ch, .int (nI 0)]) ++ List.replicate (2 - (lg_sl ([.ref ch, .int (nI 0)])).length) Slot.unset).toArray = ls at hl ⊢
  have hl : lv_has ls 2 [(0, .ref ch), (1, .int (nI 0))] := hl
  have hin_RX1 : ∀ w ∈ u_ws RX1 TX1 2, w ∈ (Cond.code yX1_stageAt cX1_stageAt 2 (some (.object "SoundingLine$Stage")) :: lwU) := fun w h => mU (sub_RX1 w h)
  refine lv_iload_n hx hb dX1_stageAt_0 rfl (lv_at hl 1 rfl) ?_
  refine n_if_lt (tgt := 21) hx hb (by first | decide | omega) dX1_stageAt_1 (by decide) ?_
  refine lv_iload_n hx hb dX1_stageAt_4 rfl (lv_at hl 1 rfl) ?_
  refine lv_aload_n hx hb dX1_stageAt_5 rfl (lv_at hl 0 rfl) ?_
  refine p_get C hw (ci := 2) (Cn := RX1) (T := TX1) (N := 2) hL_ch hf_ch rfl hin_RX1 1 (by decide) (mU mw_42) rfl rfl dX1_stageAt_6 ?_
  refine n_icmp_ge (tgt := 21) hx hb (by first | decide | omega) (by first | decide | omega) dX1_stageAt_9 (by decide) (fun h_9 => ?_) (fun h_9 => ?_)
  · exact absurd h_9 (by first | decide | omega)
  · skip
    refine lv_iload_n hx hb dX1_stageAt_12 rfl (lv_at hl 1 rfl) ?_
    refine lv_aload_n hx hb dX1_stageAt_13 rfl (lv_at hl 0 rfl) ?_
    refine p_get C hw (ci := 2) (Cn := RX1) (T := TX1) (N := 2) hL_ch hf_ch rfl hin_RX1 0 (by decide) (mU mw_41) rfl rfl dX1_stageAt_14 ?_
    refine n_len C hw 3 rfl hL_lk hf_lk (n := 4) rfl dX1_stageAt_17 ?_
    refine n_icmp_lt (tgt := 25) hx hb (by first | decide | omega) (by first | decide | omega) dX1_stageAt_18 (by decide) (fun h_18 => ?_) (fun h_18 => ?_)
    · skip
      refine lv_aload_n hx hb dX1_stageAt_25 rfl (lv_at hl 0 rfl) ?_
      refine p_get C hw (ci := 2) (Cn := RX1) (T := TX1) (N := 2) hL_ch hf_ch rfl hin_RX1 0 (by decide) (mU mw_41) rfl rfl dX1_stageAt_26 ?_
      refine lv_iload_n hx hb dX1_stageAt_29 rfl (lv_at hl 1 rfl) ?_
      refine p_aldq C hw 3 rfl hL_lk hf_lk (by first | decide | omega) (by first | decide | omega) (r := some st) hq dX1_stageAt_30 ?_
      exact (p_qret C hw (v := some st) (⟨rfl, rfl⟩) hr (by first | exact Or.inl ⟨_, rfl⟩ | exact Or.inr ⟨_, rfl⟩) hlocks dX1_stageAt_31)
    · exact absurd h_18 (by first | decide | omega)

set_option maxHeartbeats 4000000 in
set_option maxRecDepth 100000 in
theorem e_X1_sizeAtEnd0 (l : Launch) (D : va_G) (cy : Nat → ClassId) (S : pS) (sz : Nat) (ch : Nat) (lk : Nat) (w : Nat) (hL_ch : ch ∈ S.1) (hf_ch : S.2 ch = .inr (2, [.ref lk, .int (nI 0)]))  : Met l yX1_sizeAtEnd (Cond.code yX1_sizeAtEnd cX1_sizeAtEnd 5 (some .int) :: lwU) ({ frames := 0, cells := 0, slots := 0, locals := 0 }) (pPc D cy S sz [.ref ch, .int (nI w)]) (pQi D cy S sz (fun r S' => r = (nI w) ∧ S = S')) 0 0 (pA S sz) := by
  refine Met.ofW (cc := cX1_sizeAtEnd) (maxL := 5) (ret := (some .int)) (by decide) rfl ?_
  intro p e s m args below meth c s₁ B hml hv
  obtain ⟨rfl, rfl, C, hw, hA, hr, hlocks⟩ := p_start B hml hv
  have hx := C.1
  have hb := C.2.1
  have hl := lv_entry ([.ref ch, .int (nI w)]) (n := 5) (Nat.le_of_ble_eq_true rfl)
  rw [lg_entry_eq]
  generalize (lg_sl ([.ref ch, .int (nI w)]) ++ List.replicate (5 - (lg_sl ([.ref ch, .int (nI w)])).length) Slot.unset).toArray = ls at hl ⊢
  have hl : lv_has ls 5 [(0, .ref ch), (1, .int (nI w))] := hl
  have hin_RX1 : ∀ w ∈ u_ws RX1 TX1 2, w ∈ (Cond.code yX1_sizeAtEnd cX1_sizeAtEnd 5 (some .int) :: lwU) := fun w h => mU (sub_RX1 w h)
  refine lv_iload_n hx hb dX1_sizeAtEnd_0 rfl (lv_at hl 1 rfl) ?_
  refine lv_istore_n (lv' := [(2, .int (nI w)), (0, .ref ch), (1, .int (nI w))]) hx hb dX1_sizeAtEnd_1 rfl hl (by decide) rfl (fun ls hl => ?_)
  refine lv_iconst (v := nI 0) hx hb dX1_sizeAtEnd_2 (by decide) ?_
  refine lv_istore_n (lv' := [(3, .int (nI 0)), (2, .int (nI w)), (0, .ref ch), (1, .int (nI w))]) hx hb dX1_sizeAtEnd_3 rfl hl (by decide) rfl (fun ls hl => ?_)
  refine lv_iload_n hx hb dX1_sizeAtEnd_4 rfl (lv_at hl 0 rfl) ?_
  refine lv_aload_n hx hb dX1_sizeAtEnd_5 rfl (lv_at hl 2 rfl) ?_
  refine p_get C hw (ci := 2) (Cn := RX1) (T := TX1) (N := 2) hL_ch hf_ch rfl hin_RX1 1 (by decide) (mU mw_42) rfl rfl dX1_sizeAtEnd_6 ?_
  refine n_icmp_ge (tgt := 37) hx hb (by first | decide | omega) (by first | decide | omega) dX1_sizeAtEnd_9 (by decide) (fun h_9 => ?_) (fun h_9 => ?_)
  · skip
    refine lv_iload_n hx hb dX1_sizeAtEnd_37 rfl (lv_at hl 1 rfl) ?_
    exact (p_iret C hw (⟨rfl, rfl⟩) hr hlocks dX1_sizeAtEnd_38)
  · exact absurd h_9 (by first | decide | omega)

set_option maxHeartbeats 4000000 in
set_option maxRecDepth 100000 in
theorem e_X1_code0 (l : Launch) (D : va_G) (cy : Nat → ClassId) (S : pS) (sz : Nat) (ch : Nat) (v : Nat) (lk : Nat) (hL_ch : ch ∈ S.1) (hf_ch : S.2 ch = .inr (2, [.ref lk, .int (nI 0)]))  : Met l yX1_code (Cond.code yX1_code cX1_code 6 none :: lwU) ({ frames := 0, cells := 0, slots := 0, locals := 0 }) (pPc D cy S sz [.ref ch, .ref v]) (pQv D cy S sz (fun S' => S = S')) 0 0 (pA S sz) := by
  refine Met.ofW (cc := cX1_code) (maxL := 6) (ret := none) (by decide) rfl ?_
  intro p e s m args below meth c s₁ B hml hv
  obtain ⟨rfl, rfl, C, hw, hA, hr, hlocks⟩ := p_start B hml hv
  have hx := C.1
  have hb := C.2.1
  have hl := lv_entry ([.ref ch, .ref v]) (n := 6) (Nat.le_of_ble_eq_true rfl)
  rw [lg_entry_eq]
  generalize (lg_sl ([.ref ch, .ref v]) ++ List.replicate (6 - (lg_sl ([.ref ch, .ref v])).length) Slot.unset).toArray = ls at hl ⊢
  have hl : lv_has ls 6 [(0, .ref ch), (1, .ref v)] := hl
  have hin_RX1 : ∀ w ∈ u_ws RX1 TX1 2, w ∈ (Cond.code yX1_code cX1_code 6 none :: lwU) := fun w h => mU (sub_RX1 w h)
  refine lv_iconst (v := nI 0) hx hb dX1_code_0 (by decide) ?_
  refine lv_istore_n (lv' := [(2, .int (nI 0)), (0, .ref ch), (1, .ref v)]) hx hb dX1_code_1 rfl hl (by decide) rfl (fun ls hl => ?_)
  refine lv_iload_n hx hb dX1_code_2 rfl (lv_at hl 0 rfl) ?_
  refine lv_aload_n hx hb dX1_code_3 rfl (lv_at hl 1 rfl) ?_
  refine p_get C hw (ci := 2) (Cn := RX1) (T := TX1) (N := 2) hL_ch hf_ch rfl hin_RX1 1 (by decide) (mU mw_42) rfl rfl dX1_code_4 ?_
  refine n_icmp_ge (tgt := 64) hx hb (by first | decide | omega) (by first | decide | omega) dX1_code_7 (by decide) (fun h_7 => ?_) (fun h_7 => ?_)
  · skip
    exact (p_vret C hw (rfl) hr hlocks dX1_code_64)
  · exact absurd h_7 (by first | decide | omega)

set_option maxHeartbeats 4000000 in
set_option maxRecDepth 100000 in
theorem e_X1_decode0 (l : Launch) (D : va_G) (cy : Nat → ClassId) (S : pS) (sz : Nat) (ch : Nat) (v : Nat) (u : Nat) (lk : Nat) (hL_ch : ch ∈ S.1) (hf_ch : S.2 ch = .inr (2, [.ref lk, .int (nI 0)]))  : Met l yX1_decode (Cond.code yX1_decode cX1_decode 6 none :: lwU) ({ frames := 0, cells := 0, slots := 0, locals := 0 }) (pPc D cy S sz [.ref ch, .ref v, .ref u]) (pQv D cy S sz (fun S' => S = S')) 0 0 (pA S sz) := by
  refine Met.ofW (cc := cX1_decode) (maxL := 6) (ret := none) (by decide) rfl ?_
  intro p e s m args below meth c s₁ B hml hv
  obtain ⟨rfl, rfl, C, hw, hA, hr, hlocks⟩ := p_start B hml hv
  have hx := C.1
  have hb := C.2.1
  have hl := lv_entry ([.ref ch, .ref v, .ref u]) (n := 6) (Nat.le_of_ble_eq_true rfl)
  rw [lg_entry_eq]
  generalize (lg_sl ([.ref ch, .ref v, .ref u]) ++ List.replicate (6 - (lg_sl ([.ref ch, .ref v, .ref u])).length) Slot.unset).toArray = ls at hl ⊢
  have hl : lv_has ls 6 [(0, .ref ch), (1, .ref v), (2, .ref u)] := hl
  have hin_RX1 : ∀ w ∈ u_ws RX1 TX1 2, w ∈ (Cond.code yX1_decode cX1_decode 6 none :: lwU) := fun w h => mU (sub_RX1 w h)
  refine lv_aload_n hx hb dX1_decode_0 rfl (lv_at hl 0 rfl) ?_
  refine p_get C hw (ci := 2) (Cn := RX1) (T := TX1) (N := 2) hL_ch hf_ch rfl hin_RX1 1 (by decide) (mU mw_42) rfl rfl dX1_decode_1 ?_
  refine lv_iconst (v := nI 1) hx hb dX1_decode_4 (by decide) ?_
  refine lv_isub hx hb dX1_decode_5 ?_
  refine x_ren (b := (-1)) (by decide) ?_
  refine lv_istore_n (lv' := [(3, .int (-1)), (0, .ref ch), (1, .ref v), (2, .ref u)]) hx hb dX1_decode_6 rfl hl (by decide) rfl (fun ls hl => ?_)
  refine lv_iload_n hx hb dX1_decode_7 rfl (lv_at hl 0 rfl) ?_
  refine z_if_lt (tgt := 63) hx hb (show (-1 : Int32).toInt = -1 from by decide) dX1_decode_8 (by decide) (fun h_8 => ?_) (fun h_8 => ?_)
  · skip
    exact (p_vret C hw (rfl) hr hlocks dX1_decode_63)
  · exact absurd h_8 (by first | decide | omega)

theorem hde_X11_last0_V_0 : yX1_count.cls = RX1 ∧ yX1_count.cls ≠ "java/lang/invoke/MethodHandle" ∧ yX1_count.cls ≠ "java/lang/invoke/VarHandle" ∧ (parseMethodDescriptor yX1_count.desc).map (fun d => d.parameters.length) = some 0 := by decide +kernel
theorem hde_X11_last0_V_1 : yX4_at.cls = RX4 ∧ yX4_at.cls ≠ "java/lang/invoke/MethodHandle" ∧ yX4_at.cls ≠ "java/lang/invoke/VarHandle" ∧ (parseMethodDescriptor yX4_at.desc).map (fun d => d.parameters.length) = some 1 := by decide +kernel
set_option maxHeartbeats 4000000 in
set_option maxRecDepth 100000 in
/-- last() with 0 stages -/
theorem e_X11_last0 (l : Launch) (D : va_G) (cy : Nat → ClassId) (S : pS) (sz : Nat) (x : Nat) (v : Nat) (ch : Nat) (ln : Nat) (sl : Nat) (mk : Nat) (co : Nat) (ca : Nat) (su : Nat) (lt : Nat) (lk : Nat) (vl : Nat) (vn : Nat) (rq : Nat → Option Nat) (vr : Nat) (hL_x : x ∈ S.1) (hf_x : S.2 x = .inr (11, [.ref ch, .ref ln, .ref sl, .ref mk, .ref co, .ref ca, .ref su, .ref lt])) (hL_ch : ch ∈ S.1) (hf_ch : S.2 ch = .inr (2, [.ref lk, .int (nI 0)])) (hL_v : v ∈ S.1) (hf_v : S.2 v = .inr (5, [.ref vl, .ref vn])) (hL_vl : vl ∈ S.1) (hf_vl : S.2 vl = aQ (cy 2) 5 rq) (hq : rq 0 = some vr) : Met l yX11_last (Cond.code yX11_last cX11_last 2 (some (.object "SoundingLine$Row")) :: lwU) ({ frames := 1, cells := 0, slots := 0, locals := 22 }) (pPc D cy S sz [.ref x, .ref v]) (pQq D cy S sz (fun r S' => r = some vr ∧ S = S')) 0 0 (pA S sz) := by
  refine Met.ofW (cc := cX11_last) (maxL := 2) (ret := (some (.object "SoundingLine$Row"))) (by decide) rfl ?_
  intro p e s m args below meth c s₁ B hml hv
  obtain ⟨rfl, rfl, C, hw, hA, hr, hlocks⟩ := p_start B hml hv
  have hx := C.1
  have hb := C.2.1
  have hl := lv_entry ([.ref x, .ref v]) (n := 2) (Nat.le_of_ble_eq_true rfl)
  rw [lg_entry_eq]
  generalize (lg_sl ([.ref x, .ref v]) ++ List.replicate (2 - (lg_sl ([.ref x, .ref v])).length) Slot.unset).toArray = ls at hl ⊢
  have hl : lv_has ls 2 [(0, .ref x), (1, .ref v)] := hl
  have hin_RX11 : ∀ w ∈ u_ws RX11 TX11 8, w ∈ (Cond.code yX11_last cX11_last 2 (some (.object "SoundingLine$Row")) :: lwU) := fun w h => mU (sub_RX11 w h)
  refine lv_aload_n hx hb dX11_last_0 rfl (lv_at hl 1 rfl) ?_
  refine lv_aload_n hx hb dX11_last_1 rfl (lv_at hl 0 rfl) ?_
  refine p_get C hw (ci := 11) (Cn := RX11) (T := TX11) (N := 8) hL_x hf_x rfl hin_RX11 0 (by decide) (mU mw_17) rfl rfl dX11_last_2 ?_
  refine p_calli (va_runV (As := []) (rest := [.ref v]) C.fix (c_X1_count l D cy S s.heap.size ch lk 0 hL_ch hf_ch) (cwV 0 C.2.2.2.2.1 (gU_V mw_260 mw_261 mw_262 mw_16 sub_X1_count) rfl rfl rfl hde_X11_last0_V_0 ⟨Nat.le_of_ble_eq_true rfl, Nat.le_of_ble_eq_true rfl⟩) (p_preV C hw hL_ch hf_ch rfl) rfl rfl hl.1 rfl (lv_room (Nat.le_of_ble_eq_true rfl)) dX11_last_5 ⟨Nat.le_of_ble_eq_true rfl, Nat.le_of_ble_eq_true rfl⟩) hw hA (fun r2 S1 H locs hpost hw => ?_)
  obtain ⟨hr_, hS_⟩ := hpost
  subst hr_
  subst hS_
  refine p_callq (va_runV (As := [.int (nI 0)]) (rest := []) C.fix (c_X4_at l D cy S H.size v vl vn 0 vr rq hL_v hf_v hL_vl hf_vl (by first | assumption | decide | omega) (by first | assumption | rfl | simp [va_up])) (cwV 1 C.2.2.2.2.1 (gU_V mw_126 mw_127 mw_128 mw_29 sub_X4_at) rfl rfl rfl hde_X11_last0_V_1 ⟨Nat.le_of_ble_eq_true rfl, Nat.le_of_ble_eq_true rfl⟩) (p_preV C hw hL_v hf_v rfl) rfl rfl hl.1 rfl (lv_room (Nat.le_of_ble_eq_true rfl)) dX11_last_8 ⟨Nat.le_of_ble_eq_true rfl, Nat.le_of_ble_eq_true rfl⟩) hw hA (fun r4 S3 H locs hpost hw => ?_)
  obtain ⟨hr_, hS_⟩ := hpost
  subst hr_
  subst hS_
  exact (p_qret C hw (v := some vr) (⟨rfl, rfl⟩) hr (by first | exact Or.inl ⟨_, rfl⟩ | exact Or.inr ⟨_, rfl⟩) hlocks dX11_last_11)

theorem hde_X11_last1_V_0 : yX1_count.cls = RX1 ∧ yX1_count.cls ≠ "java/lang/invoke/MethodHandle" ∧ yX1_count.cls ≠ "java/lang/invoke/VarHandle" ∧ (parseMethodDescriptor yX1_count.desc).map (fun d => d.parameters.length) = some 0 := by decide +kernel
theorem hde_X11_last1_V_1 : yX4_at.cls = RX4 ∧ yX4_at.cls ≠ "java/lang/invoke/MethodHandle" ∧ yX4_at.cls ≠ "java/lang/invoke/VarHandle" ∧ (parseMethodDescriptor yX4_at.desc).map (fun d => d.parameters.length) = some 1 := by decide +kernel
set_option maxHeartbeats 4000000 in
set_option maxRecDepth 100000 in
/-- last() with 1 stages -/
theorem e_X11_last1 (l : Launch) (D : va_G) (cy : Nat → ClassId) (S : pS) (sz : Nat) (x : Nat) (v : Nat) (ch : Nat) (ln : Nat) (sl : Nat) (mk : Nat) (co : Nat) (ca : Nat) (su : Nat) (lt : Nat) (lk : Nat) (vl : Nat) (vn : Nat) (rq : Nat → Option Nat) (vr : Nat) (hL_x : x ∈ S.1) (hf_x : S.2 x = .inr (11, [.ref ch, .ref ln, .ref sl, .ref mk, .ref co, .ref ca, .ref su, .ref lt])) (hL_ch : ch ∈ S.1) (hf_ch : S.2 ch = .inr (2, [.ref lk, .int (nI 1)])) (hL_v : v ∈ S.1) (hf_v : S.2 v = .inr (5, [.ref vl, .ref vn])) (hL_vl : vl ∈ S.1) (hf_vl : S.2 vl = aQ (cy 2) 5 rq) (hq : rq 1 = some vr) : Met l yX11_last (Cond.code yX11_last cX11_last 2 (some (.object "SoundingLine$Row")) :: lwU) ({ frames := 1, cells := 0, slots := 0, locals := 22 }) (pPc D cy S sz [.ref x, .ref v]) (pQq D cy S sz (fun r S' => r = some vr ∧ S = S')) 0 0 (pA S sz) := by
  refine Met.ofW (cc := cX11_last) (maxL := 2) (ret := (some (.object "SoundingLine$Row"))) (by decide) rfl ?_
  intro p e s m args below meth c s₁ B hml hv
  obtain ⟨rfl, rfl, C, hw, hA, hr, hlocks⟩ := p_start B hml hv
  have hx := C.1
  have hb := C.2.1
  have hl := lv_entry ([.ref x, .ref v]) (n := 2) (Nat.le_of_ble_eq_true rfl)
  rw [lg_entry_eq]
  generalize (lg_sl ([.ref x, .ref v]) ++ List.replicate (2 - (lg_sl ([.ref x, .ref v])).length) Slot.unset).toArray = ls at hl ⊢
  have hl : lv_has ls 2 [(0, .ref x), (1, .ref v)] := hl
  have hin_RX11 : ∀ w ∈ u_ws RX11 TX11 8, w ∈ (Cond.code yX11_last cX11_last 2 (some (.object "SoundingLine$Row")) :: lwU) := fun w h => mU (sub_RX11 w h)
  refine lv_aload_n hx hb dX11_last_0 rfl (lv_at hl 1 rfl) ?_
  refine lv_aload_n hx hb dX11_last_1 rfl (lv_at hl 0 rfl) ?_
  refine p_get C hw (ci := 11) (Cn := RX11) (T := TX11) (N := 8) hL_x hf_x rfl hin_RX11 0 (by decide) (mU mw_17) rfl rfl dX11_last_2 ?_
  refine p_calli (va_runV (As := []) (rest := [.ref v]) C.fix (c_X1_count l D cy S s.heap.size ch lk 1 hL_ch hf_ch) (cwV 0 C.2.2.2.2.1 (gU_V mw_260 mw_261 mw_262 mw_16 sub_X1_count) rfl rfl rfl hde_X11_last1_V_0 ⟨Nat.le_of_ble_eq_true rfl, Nat.le_of_ble_eq_true rfl⟩) (p_preV C hw hL_ch hf_ch rfl) rfl rfl hl.1 rfl (lv_room (Nat.le_of_ble_eq_true rfl)) dX11_last_5 ⟨Nat.le_of_ble_eq_true rfl, Nat.le_of_ble_eq_true rfl⟩) hw hA (fun r2 S1 H locs hpost hw => ?_)
  obtain ⟨hr_, hS_⟩ := hpost
  subst hr_
  subst hS_
  refine p_callq (va_runV (As := [.int (nI 1)]) (rest := []) C.fix (c_X4_at l D cy S H.size v vl vn 1 vr rq hL_v hf_v hL_vl hf_vl (by first | assumption | decide | omega) (by first | assumption | rfl | simp [va_up])) (cwV 1 C.2.2.2.2.1 (gU_V mw_126 mw_127 mw_128 mw_29 sub_X4_at) rfl rfl rfl hde_X11_last1_V_1 ⟨Nat.le_of_ble_eq_true rfl, Nat.le_of_ble_eq_true rfl⟩) (p_preV C hw hL_v hf_v rfl) rfl rfl hl.1 rfl (lv_room (Nat.le_of_ble_eq_true rfl)) dX11_last_8 ⟨Nat.le_of_ble_eq_true rfl, Nat.le_of_ble_eq_true rfl⟩) hw hA (fun r4 S3 H locs hpost hw => ?_)
  obtain ⟨hr_, hS_⟩ := hpost
  subst hr_
  subst hS_
  exact (p_qret C hw (v := some vr) (⟨rfl, rfl⟩) hr (by first | exact Or.inl ⟨_, rfl⟩ | exact Or.inr ⟨_, rfl⟩) hlocks dX11_last_11)

theorem hde_X11_send0_V_0 : yX11_last.cls = RX11 ∧ yX11_last.cls ≠ "java/lang/invoke/MethodHandle" ∧ yX11_last.cls ≠ "java/lang/invoke/VarHandle" ∧ (parseMethodDescriptor yX11_last.desc).map (fun d => d.parameters.length) = some 1 := by decide +kernel
theorem hde_X11_send0_V_1 : yX7_copy.cls = RX7 ∧ yX7_copy.cls ≠ "java/lang/invoke/MethodHandle" ∧ yX7_copy.cls ≠ "java/lang/invoke/VarHandle" ∧ (parseMethodDescriptor yX7_copy.desc).map (fun d => d.parameters.length) = some 1 := by decide +kernel
theorem hde_X11_send0_V_2 : yX5_harm.cls = RX5 ∧ yX5_harm.cls ≠ "java/lang/invoke/MethodHandle" ∧ yX5_harm.cls ≠ "java/lang/invoke/VarHandle" ∧ (parseMethodDescriptor yX5_harm.desc).map (fun d => d.parameters.length) = some 1 := by decide +kernel
theorem hde_X11_send0_V_3 : yX7_turnWhere.cls = RX7 ∧ yX7_turnWhere.cls ≠ "java/lang/invoke/MethodHandle" ∧ yX7_turnWhere.cls ≠ "java/lang/invoke/VarHandle" ∧ (parseMethodDescriptor yX7_turnWhere.desc).map (fun d => d.parameters.length) = some 1 := by decide +kernel
set_option maxHeartbeats 4000000 in
set_option maxRecDepth 100000 in
/-- send -/
theorem e_X11_send0 (l : Launch) (D : va_G) (cy : Nat → ClassId) (S : pS) (sz : Nat) (x : Nat) (h : Nat) (v : Nat) (ch : Nat) (ln : Nat) (sl : Nat) (mk : Nat) (co : Nat) (ca : Nat) (su : Nat) (lt : Nat) (lk : Nat) (mb : Nat) (col : Nat) (con : Nat) (vl : Nat) (vn : Nat) (cr : Nat) (cb : Nat) (vr : Nat) (vb : Nat) (cq : Nat → Option Nat) (vq : Nat → Option Nat) (mg : Nat → Nat) (cg : Nat → Nat) (vg : Nat → Nat) (an : Nat) (k0 : Nat) (fa : Int32) (fb : Int32) (fc : Int32) (ya : Nat) (yb : Nat) (yc : Nat) (cn : Nat) (hL_x : x ∈ S.1) (hf_x : S.2 x = .inr (11, [.ref ch, .ref ln, .ref sl, .ref mk, .ref co, .ref ca, .ref su, .ref lt])) (hL_ch : ch ∈ S.1) (hf_ch : S.2 ch = .inr (2, [.ref lk, .int (nI 0)])) (hL_mk : mk ∈ S.1) (hf_mk : S.2 mk = .inr (8, [.ref mb, .int (nI 320)])) (hL_mb : mb ∈ S.1) (hf_mb : S.2 mb = aN (cy 0) 320 mg) (hL_h : h ∈ S.1) (hf_h : S.2 h = .inr (6, [.int (nI k0), .int fa, .int fb, .int fc])) (hL_co : co ∈ S.1) (hf_co : S.2 co = .inr (5, [.ref col, .ref con])) (hL_col : col ∈ S.1) (hf_col : S.2 col = aQ (cy 2) 5 cq) (hL_v : v ∈ S.1) (hf_v : S.2 v = .inr (5, [.ref vl, .ref vn])) (hL_vl : vl ∈ S.1) (hf_vl : S.2 vl = aQ (cy 2) 5 vq) (hL_cr : cr ∈ S.1) (hf_cr : S.2 cr = .inr (8, [.ref cb, .int (nI cn)])) (hL_cb : cb ∈ S.1) (hf_cb : S.2 cb = aN (cy 0) 32 cg) (hL_vr : vr ∈ S.1) (hf_vr : S.2 vr = .inr (8, [.ref vb, .int (nI an)])) (hL_vb : vb ∈ S.1) (hf_vb : S.2 vb = aN (cy 0) 32 vg) (hne_cb_vb : cb ≠ vb) (hne_cr_vr : cr ≠ vr) (hne_mk_vr : mk ≠ vr) (hne_mb_vb : mb ≠ vb) (hcq : cq 0 = some cr) (hvq : vq 0 = some vr) (hmg : ∀ q, mg q ≤ 2) (hcg : ∀ q, cg q ≤ 2) (hvg : ∀ q, vg q ≤ 2) (han : an ≤ 32) (hk : k0 ≤ 3) (ha : ya < 2 ^ 30) (hbb : yb < 2 ^ 30) (hcc : yc < 2 ^ 30) (h2 : k0 = 2 → fa = nI ya ∧ fb = nI yb ∧ fc = nI yc) (h13 : k0 = 1 ∨ k0 = 3 → fa = nI ya ∧ fb = nI yb) (hcn : cn ≤ 32) : Met l yX11_send (Cond.code yX11_send cX11_send 4 none :: lwU) ({ frames := 4, cells := 0, slots := 0, locals := 88 }) (pPc D cy S sz [.ref x, .ref h, .ref v]) (pQv D cy S sz (fun S' => ∃ (wg : Nat → Nat), (∀ q, wg q ≤ 2) ∧ S'.1 = S.1 ++ [] ∧ (∀ a_, a_ ∈ S.1 → a_ ≠ vr → a_ ≠ vb → S'.2 a_ = S.2 a_) ∧ S'.2 vr = .inr (8, [.ref vb, .int (nI (min cn 32))]) ∧ S'.2 vb = aN (cy 0) 32 wg)) 0 0 (pA S sz) := by
  refine Met.ofW (cc := cX11_send) (maxL := 4) (ret := none) (by decide) rfl ?_
  intro p e s m args below meth c s₁ B hml hv
  obtain ⟨rfl, rfl, C, hw, hA, hr, hlocks⟩ := p_start B hml hv
  have hx := C.1
  have hb := C.2.1
  have hl := lv_entry ([.ref x, .ref h, .ref v]) (n := 4) (Nat.le_of_ble_eq_true rfl)
  rw [lg_entry_eq]
  generalize (lg_sl ([.ref x, .ref h, .ref v]) ++ List.replicate (4 - (lg_sl ([.ref x, .ref h, .ref v])).length) Slot.unset).toArray = ls at hl ⊢
  have hl : lv_has ls 4 [(0, .ref x), (1, .ref h), (2, .ref v)] := hl
  have hin_RX11 : ∀ w ∈ u_ws RX11 TX11 8, w ∈ (Cond.code yX11_send cX11_send 4 none :: lwU) := fun w h => mU (sub_RX11 w h)
  refine lv_aload_n hx hb dX11_send_0 rfl (lv_at hl 0 rfl) ?_
  refine lv_aload_n hx hb dX11_send_1 rfl (lv_at hl 2 rfl) ?_
  refine p_callq (va_runV (As := [.ref v]) (rest := []) C.fix (e_X11_last0 l D cy S s.heap.size x v ch ln sl mk co ca su lt lk vl vn vq vr hL_x hf_x hL_ch hf_ch hL_v hf_v hL_vl hf_vl (by first | assumption | rfl | simp [va_up])) (cwV 1 C.2.2.2.2.1 (gU_V mw_256 mw_257 mw_258 mw_2 (subU mw_259)) rfl rfl rfl hde_X11_send0_V_0 ⟨Nat.le_of_ble_eq_true rfl, Nat.le_of_ble_eq_true rfl⟩) (p_preV C hw hL_x hf_x rfl) rfl rfl hl.1 rfl (lv_room (Nat.le_of_ble_eq_true rfl)) dX11_send_2 ⟨Nat.le_of_ble_eq_true rfl, Nat.le_of_ble_eq_true rfl⟩) hw hA (fun r2 S1 H locs hpost hw => ?_)
  obtain ⟨hr_, hS_⟩ := hpost
  subst hr_
  subst hS_
  refine lv_astore_n (lv' := [(3, .ref vr), (0, .ref x), (1, .ref h), (2, .ref v)]) hx hb dX11_send_5 rfl hl (by decide) rfl (fun ls hl => ?_)
  refine lv_aload_n hx hb dX11_send_6 rfl (lv_at hl 0 rfl) ?_
  refine lv_aload_n hx hb dX11_send_7 rfl (lv_at hl 1 rfl) ?_
  refine lv_aload_n hx hb dX11_send_8 rfl (lv_at hl 1 rfl) ?_
  refine p_get C hw (ci := 11) (Cn := RX11) (T := TX11) (N := 8) hL_x hf_x rfl hin_RX11 4 (by decide) (mU mw_30) rfl rfl dX11_send_9 ?_
  refine p_callq (va_runV (As := [.ref co]) (rest := [.ref vr]) C.fix (e_X11_last0 l D cy S H.size x co ch ln sl mk co ca su lt lk col con cq cr hL_x hf_x hL_ch hf_ch hL_co hf_co hL_col hf_col (by first | assumption | rfl | simp [va_up])) (cwV 1 C.2.2.2.2.1 (gU_V mw_256 mw_257 mw_258 mw_2 (subU mw_259)) rfl rfl rfl hde_X11_send0_V_0 ⟨Nat.le_of_ble_eq_true rfl, Nat.le_of_ble_eq_true rfl⟩) (p_preV C hw hL_x hf_x rfl) rfl rfl hl.1 rfl (lv_room (Nat.le_of_ble_eq_true rfl)) dX11_send_12 ⟨Nat.le_of_ble_eq_true rfl, Nat.le_of_ble_eq_true rfl⟩) hw hA (fun r4 S3 H locs hpost hw => ?_)
  obtain ⟨hr_, hS_⟩ := hpost
  subst hr_
  subst hS_
  refine p_callv (va_runV (As := [.ref cr]) (rest := []) C.fix (c_X7_copy l D cy S H.size vr vb 32 an cr cb 32 cn vg cg hL_vr hf_vr hL_vb hf_vb hL_cr hf_cr hL_cb hf_cb (by first | assumption | decide | omega) (by first | assumption | decide | omega) (by first | assumption | decide | omega) (by first | assumption | decide | omega) hne_cb_vb hne_cr_vr) (cwV 1 C.2.2.2.2.1 (gU_V mw_264 mw_265 mw_266 mw_25 sub_X7_copy) rfl rfl rfl hde_X11_send0_V_1 ⟨Nat.le_of_ble_eq_true rfl, Nat.le_of_ble_eq_true rfl⟩) (p_preV C hw hL_vr hf_vr rfl) rfl rfl hl.1 rfl (lv_room (Nat.le_of_ble_eq_true rfl)) dX11_send_15 ⟨Nat.le_of_ble_eq_true rfl, Nat.le_of_ble_eq_true rfl⟩) hw hA (fun S5 H locs hpost hw => ?_)
  have hS_ := hpost
  obtain ⟨S7, hS7⟩ : ∃ z, z = pup S vr (.inr (8, [.ref vb, .int (nI (min cn 32))])) := ⟨_, rfl⟩
  rw [← hS7] at hS_
  have hL8 : vr ∈ S7.1 := by rw [hS7]; exact hL_vr
  have hf9 : S7.2 vr = .inr (8, [.ref vb, .int (nI (min cn 32))]) := by rw [hS7]; exact pup_s
  have hL10 : vb ∈ S7.1 := by rw [hS7]; exact hL_vb
  have hf11 : S7.2 vb = aN (cy 0) 32 vg := by rw [hS7]; exact (pup_n (ne_cells hf_vb hf_vr (by nofun))).trans hf_vb
  have hS12 := hS_
  have hL13 : vb ∈ S5.1 := by rw [hS12]; exact hL10
  have hf14 : S5.2 vb = aN (cy 0) 32 (rcop vg cg cn (min cn 32)) := by rw [hS12]; exact pup_s
  refine lv_aload_n hx hb dX11_send_18 rfl (lv_at hl 2 rfl) ?_
  refine lv_aload_n hx hb dX11_send_19 rfl (lv_at hl 0 rfl) ?_
  have hL15 : h ∈ S7.1 := by rw [hS7]; exact hL_h
  have hf16 : S7.2 h = .inr (6, [.int (nI k0), .int fa, .int fb, .int fc]) := by rw [hS7]; exact (pup_n (ne_cells hf_h hf_vr (by nofun))).trans hf_h
  have hL17 : h ∈ S5.1 := by rw [hS12]; exact hL15
  have hf18 : S5.2 h = .inr (6, [.int (nI k0), .int fa, .int fb, .int fc]) := by rw [hS12]; exact (pup_n (ne_cells hf16 hf11 (by nofun))).trans hf16
  have hL19 : vr ∈ S5.1 := by rw [hS12]; exact hL8
  have hf20 : S5.2 vr = .inr (8, [.ref vb, .int (nI (min cn 32))]) := by rw [hS12]; exact (pup_n (ne_cells hf9 hf11 (by nofun))).trans hf9
  refine p_callv (va_runV (As := [.ref vr]) (rest := []) C.fix (c_X5_harm l D cy S5 H.size h k0 fa fb fc ya yb yc vr vb 32 (min cn 32) (rcop vg cg cn (min cn 32)) hL17 hf18 hL19 hf20 hL13 hf14 (by first | assumption | decide | omega) (by first | assumption | decide | omega) (by first | assumption | exact (fun _ => Nat.zero_le 2) | exact rnum_le (fun _ => Nat.zero_le 2) | exact rcop_le (by first | assumption | exact (fun _ => Nat.zero_le 2)) (by first | assumption | exact (fun _ => Nat.zero_le 2)) | exact rharm_le (rcop_le (by first | assumption | exact (fun _ => Nat.zero_le 2)) (by first | assumption | exact (fun _ => Nat.zero_le 2))) | exact rturn_le (fun _ => Nat.zero_le 2)) (by first | assumption | decide | omega) (by first | assumption | decide | omega) (by first | assumption | decide | omega) (by first | assumption | decide | omega) (by first | assumption | (intro h; exact absurd h (by decide)) | (intro h; exact absurd h (by omega))) (by first | assumption | (intro h; exact absurd h (by decide)) | (intro h; exact absurd h (by omega)))) (cwV 1 C.2.2.2.2.1 (gU_V mw_270 mw_271 mw_272 mw_20 sub_X5_harm) rfl rfl rfl hde_X11_send0_V_2 ⟨Nat.le_of_ble_eq_true rfl, Nat.le_of_ble_eq_true rfl⟩) (p_preV C hw hL17 hf18 rfl) rfl rfl hl.1 rfl (lv_room (Nat.le_of_ble_eq_true rfl)) dX11_send_20 ⟨Nat.le_of_ble_eq_true rfl, Nat.le_of_ble_eq_true rfl⟩) hw hA (fun S21 H locs hpost hw => ?_)
  have hS_ := hpost
  have hS23 := hS_
  have hL24 : vb ∈ S21.1 := by rw [hS23]; exact hL13
  have hf25 : S21.2 vb = aN (cy 0) 32 (rharm (rcop vg cg cn (min cn 32)) (min cn 32) k0 ya yb yc) := by rw [hS23]; exact pup_s
  refine lv_aload_n hx hb dX11_send_23 rfl (lv_at hl 0 rfl) ?_
  refine lv_aload_n hx hb dX11_send_24 rfl (lv_at hl 1 rfl) ?_
  have hL26 : x ∈ S7.1 := by rw [hS7]; exact hL_x
  have hf27 : S7.2 x = .inr (11, [.ref ch, .ref ln, .ref sl, .ref mk, .ref co, .ref ca, .ref su, .ref lt]) := by rw [hS7]; exact (pup_n (ne_cells hf_x hf_vr (by nofun))).trans hf_x
  have hL28 : x ∈ S5.1 := by rw [hS12]; exact hL26
  have hf29 : S5.2 x = .inr (11, [.ref ch, .ref ln, .ref sl, .ref mk, .ref co, .ref ca, .ref su, .ref lt]) := by rw [hS12]; exact (pup_n (ne_cells hf27 hf11 (by nofun))).trans hf27
  have hL30 : x ∈ S21.1 := by rw [hS23]; exact hL28
  have hf31 : S21.2 x = .inr (11, [.ref ch, .ref ln, .ref sl, .ref mk, .ref co, .ref ca, .ref su, .ref lt]) := by rw [hS23]; exact (pup_n (ne_cells hf29 hf14 (by nofun))).trans hf29
  refine p_get C hw (ci := 11) (Cn := RX11) (T := TX11) (N := 8) hL30 hf31 rfl hin_RX11 3 (by decide) (mU mw_26) rfl rfl dX11_send_25 ?_
  have hL32 : vr ∈ S21.1 := by rw [hS23]; exact hL19
  have hf33 : S21.2 vr = .inr (8, [.ref vb, .int (nI (min cn 32))]) := by rw [hS23]; exact (pup_n (ne_cells hf20 hf14 (by nofun))).trans hf20
  have hL34 : mk ∈ S7.1 := by rw [hS7]; exact hL_mk
  have hf35 : S7.2 mk = .inr (8, [.ref mb, .int (nI 320)]) := by rw [hS7]; exact (pup_n hne_mk_vr).trans hf_mk
  have hL36 : mk ∈ S5.1 := by rw [hS12]; exact hL34
  have hf37 : S5.2 mk = .inr (8, [.ref mb, .int (nI 320)]) := by rw [hS12]; exact (pup_n (ne_cells hf35 hf11 (by nofun))).trans hf35
  have hL38 : mk ∈ S21.1 := by rw [hS23]; exact hL36
  have hf39 : S21.2 mk = .inr (8, [.ref mb, .int (nI 320)]) := by rw [hS23]; exact (pup_n (ne_cells hf37 hf14 (by nofun))).trans hf37
  have hL40 : mb ∈ S7.1 := by rw [hS7]; exact hL_mb
  have hf41 : S7.2 mb = aN (cy 0) 320 mg := by rw [hS7]; exact (pup_n (ne_cells hf_mb hf_vr (by nofun))).trans hf_mb
  have hL42 : mb ∈ S5.1 := by rw [hS12]; exact hL40
  have hf43 : S5.2 mb = aN (cy 0) 320 mg := by rw [hS12]; exact (pup_n hne_mb_vb).trans hf41
  have hL44 : mb ∈ S21.1 := by rw [hS23]; exact hL42
  have hf45 : S21.2 mb = aN (cy 0) 320 mg := by rw [hS23]; exact (pup_n hne_mb_vb).trans hf43
  refine p_callv (va_runV (As := [.ref mk]) (rest := []) C.fix (c_X7_turnWhere l D cy S21 H.size vr vb 32 (min cn 32) mk mb 320 320 (rharm (rcop vg cg cn (min cn 32)) (min cn 32) k0 ya yb yc) mg hL32 hf33 hL24 hf25 hL38 hf39 hL44 hf45 (by first | assumption | decide | omega) (by first | assumption | decide | omega) (by first | assumption | exact (fun _ => Nat.zero_le 2) | exact rnum_le (fun _ => Nat.zero_le 2) | exact rcop_le (by first | assumption | exact (fun _ => Nat.zero_le 2)) (by first | assumption | exact (fun _ => Nat.zero_le 2)) | exact rharm_le (rcop_le (by first | assumption | exact (fun _ => Nat.zero_le 2)) (by first | assumption | exact (fun _ => Nat.zero_le 2))) | exact rturn_le (fun _ => Nat.zero_le 2)) (by first | assumption | decide | omega) (by first | assumption | decide | omega) (by first | assumption | exact (fun _ => Nat.zero_le 2) | exact rnum_le (fun _ => Nat.zero_le 2) | exact rcop_le (by first | assumption | exact (fun _ => Nat.zero_le 2)) (by first | assumption | exact (fun _ => Nat.zero_le 2)) | exact rharm_le (rcop_le (by first | assumption | exact (fun _ => Nat.zero_le 2)) (by first | assumption | exact (fun _ => Nat.zero_le 2))) | exact rturn_le (fun _ => Nat.zero_le 2)) hne_mb_vb) (cwV 1 C.2.2.2.2.1 (gU_V mw_294 mw_295 mw_296 mw_25 sub_X7_turnWhere) rfl rfl rfl hde_X11_send0_V_3 ⟨Nat.le_of_ble_eq_true rfl, Nat.le_of_ble_eq_true rfl⟩) (p_preV C hw hL32 hf33 rfl) rfl rfl hl.1 rfl (lv_room (Nat.le_of_ble_eq_true rfl)) dX11_send_28 ⟨Nat.le_of_ble_eq_true rfl, Nat.le_of_ble_eq_true rfl⟩) hw hA (fun S46 H locs hpost hw => ?_)
  have hS_ := hpost
  have hS48 := hS_
  have hL49 : vb ∈ S46.1 := by rw [hS48]; exact hL24
  have hf50 : S46.2 vb = aN (cy 0) 32 (rtw (rharm (rcop vg cg cn (min cn 32)) (min cn 32) k0 ya yb yc) (min cn 32) mg 320 (min cn 32)) := by rw [hS48]; exact pup_s
  have hL51 : vr ∈ S46.1 := by rw [hS48]; exact hL32
  have hf52 : S46.2 vr = .inr (8, [.ref vb, .int (nI (min cn 32))]) := by rw [hS48]; exact (pup_n (ne_cells hf33 hf25 (by nofun))).trans hf33
  exact (p_vret C hw (⟨rtw (rharm (rcop vg cg cn (min cn 32)) (min cn 32) k0 ya yb yc) (min cn 32) mg 320 (min cn 32), (rtw_le (rharm_le (rcop_le hvg hcg))), (by simp only [hS48, hS23, hS12, hS7, pup, pnew, List.append_nil, List.append_assoc, List.cons_append, List.nil_append]), (fun a_ ha_ hn_0 hn_1 => ((show S46.2 a_ = S21.2 a_ from by rw [hS48]; exact pup_n hn_1).trans ((show S21.2 a_ = S5.2 a_ from by rw [hS23]; exact pup_n hn_1).trans ((show S5.2 a_ = S7.2 a_ from by rw [hS12]; exact pup_n hn_1).trans (show S7.2 a_ = S.2 a_ from by rw [hS7]; exact pup_n hn_0))))), hf52, hf50⟩) hr hlocks dX11_send_31)

theorem hde_X11_settle0_V_0 : yX1_code.cls = RX1 ∧ yX1_code.cls ≠ "java/lang/invoke/MethodHandle" ∧ yX1_code.cls ≠ "java/lang/invoke/VarHandle" ∧ (parseMethodDescriptor yX1_code.desc).map (fun d => d.parameters.length) = some 1 := by decide +kernel
theorem hde_X11_settle0_V_1 : yX11_send.cls = RX11 ∧ yX11_send.cls ≠ "java/lang/invoke/MethodHandle" ∧ yX11_send.cls ≠ "java/lang/invoke/VarHandle" ∧ (parseMethodDescriptor yX11_send.desc).map (fun d => d.parameters.length) = some 2 := by decide +kernel
theorem hde_X11_settle0_V_2 : yX1_decode.cls = RX1 ∧ yX1_decode.cls ≠ "java/lang/invoke/MethodHandle" ∧ yX1_decode.cls ≠ "java/lang/invoke/VarHandle" ∧ (parseMethodDescriptor yX1_decode.desc).map (fun d => d.parameters.length) = some 2 := by decide +kernel
set_option maxHeartbeats 4000000 in
set_option maxRecDepth 100000 in
/-- settle without stages -/
theorem e_X11_settle0 (l : Launch) (D : va_G) (cy : Nat → ClassId) (S : pS) (sz : Nat) (x : Nat) (ch : Nat) (ln : Nat) (sl : Nat) (mk : Nat) (co : Nat) (ca : Nat) (su : Nat) (lt : Nat) (lk : Nat) (mb : Nat) (col : Nat) (con : Nat) (cal : Nat) (can : Nat) (cr : Nat) (cb : Nat) (vr : Nat) (vb : Nat) (cq : Nat → Option Nat) (vq : Nat → Option Nat) (mg : Nat → Nat) (cg : Nat → Nat) (vg : Nat → Nat) (an : Nat) (cn : Nat) (k0 : Nat) (fa : Int32) (fb : Int32) (fc : Int32) (ya : Nat) (yb : Nat) (yc : Nat) (hL_x : x ∈ S.1) (hf_x : S.2 x = .inr (11, [.ref ch, .ref ln, .ref sl, .ref mk, .ref co, .ref ca, .ref su, .ref lt])) (hL_ch : ch ∈ S.1) (hf_ch : S.2 ch = .inr (2, [.ref lk, .int (nI 0)])) (hL_mk : mk ∈ S.1) (hf_mk : S.2 mk = .inr (8, [.ref mb, .int (nI 320)])) (hL_mb : mb ∈ S.1) (hf_mb : S.2 mb = aN (cy 0) 320 mg) (hL_ln : ln ∈ S.1) (hf_ln : S.2 ln = .inr (6, [.int (nI k0), .int fa, .int fb, .int fc])) (hL_co : co ∈ S.1) (hf_co : S.2 co = .inr (5, [.ref col, .ref con])) (hL_col : col ∈ S.1) (hf_col : S.2 col = aQ (cy 2) 5 cq) (hL_ca : ca ∈ S.1) (hf_ca : S.2 ca = .inr (5, [.ref cal, .ref can])) (hL_cal : cal ∈ S.1) (hf_cal : S.2 cal = aQ (cy 2) 5 vq) (hL_cr : cr ∈ S.1) (hf_cr : S.2 cr = .inr (8, [.ref cb, .int (nI cn)])) (hL_cb : cb ∈ S.1) (hf_cb : S.2 cb = aN (cy 0) 32 cg) (hL_vr : vr ∈ S.1) (hf_vr : S.2 vr = .inr (8, [.ref vb, .int (nI an)])) (hL_vb : vb ∈ S.1) (hf_vb : S.2 vb = aN (cy 0) 32 vg) (hne_cb_vb : cb ≠ vb) (hne_cr_vr : cr ≠ vr) (hne_mk_vr : mk ≠ vr) (hne_mb_vb : mb ≠ vb) (hcq : cq 0 = some cr) (hvq : vq 0 = some vr) (hmg : ∀ q, mg q ≤ 2) (hcg : ∀ q, cg q ≤ 2) (hvg : ∀ q, vg q ≤ 2) (han : an ≤ 32) (hcn : cn ≤ 32) (hk : k0 ≤ 3) (ha : ya < 2 ^ 30) (hbb : yb < 2 ^ 30) (hcc : yc < 2 ^ 30) (h2 : k0 = 2 → fa = nI ya ∧ fb = nI yb ∧ fc = nI yc) (h13 : k0 = 1 ∨ k0 = 3 → fa = nI ya ∧ fb = nI yb) : Met l yX11_settle (Cond.code yX11_settle cX11_settle 1 none :: lwU) ({ frames := 5, cells := 0, slots := 0, locals := 111 }) (pPc D cy S sz [.ref x]) (pQv D cy S sz (fun S' => S'.1 = S.1 ++ [] ∧ (∀ a_, a_ ∈ S.1 → a_ ≠ vr → a_ ≠ vb → S'.2 a_ = S.2 a_))) 0 0 (pA S sz) := by
  refine Met.ofW (cc := cX11_settle) (maxL := 1) (ret := none) (by decide) rfl ?_
  intro p e s m args below meth c s₁ B hml hv
  obtain ⟨rfl, rfl, C, hw, hA, hr, hlocks⟩ := p_start B hml hv
  have hx := C.1
  have hb := C.2.1
  have hl := lv_entry ([.ref x]) (n := 1) (Nat.le_of_ble_eq_true rfl)
  rw [lg_entry_eq]
  generalize (lg_sl ([.ref x]) ++ List.replicate (1 - (lg_sl ([.ref x])).length) Slot.unset).toArray = ls at hl ⊢
  have hl : lv_has ls 1 [(0, .ref x)] := hl
  have hin_RX11 : ∀ w ∈ u_ws RX11 TX11 8, w ∈ (Cond.code yX11_settle cX11_settle 1 none :: lwU) := fun w h => mU (sub_RX11 w h)
  refine lv_aload_n hx hb dX11_settle_0 rfl (lv_at hl 0 rfl) ?_
  refine p_get C hw (ci := 11) (Cn := RX11) (T := TX11) (N := 8) hL_x hf_x rfl hin_RX11 0 (by decide) (mU mw_17) rfl rfl dX11_settle_1 ?_
  refine lv_aload_n hx hb dX11_settle_4 rfl (lv_at hl 0 rfl) ?_
  refine p_get C hw (ci := 11) (Cn := RX11) (T := TX11) (N := 8) hL_x hf_x rfl hin_RX11 4 (by decide) (mU mw_30) rfl rfl dX11_settle_5 ?_
  refine p_callv (va_runV (As := [.ref co]) (rest := []) C.fix (e_X1_code0 l D cy S s.heap.size ch co lk hL_ch hf_ch ) (cwV 1 C.2.2.2.2.1 (gU_V mw_191 mw_192 mw_193 mw_16 (subU mw_194)) rfl rfl rfl hde_X11_settle0_V_0 ⟨Nat.le_of_ble_eq_true rfl, Nat.le_of_ble_eq_true rfl⟩) (p_preV C hw hL_ch hf_ch rfl) rfl rfl hl.1 rfl (lv_room (Nat.le_of_ble_eq_true rfl)) dX11_settle_8 ⟨Nat.le_of_ble_eq_true rfl, Nat.le_of_ble_eq_true rfl⟩) hw hA (fun S1 H locs hpost hw => ?_)
  have hS_ := hpost
  subst hS_
  refine lv_aload_n hx hb dX11_settle_11 rfl (lv_at hl 0 rfl) ?_
  refine lv_aload_n hx hb dX11_settle_12 rfl (lv_at hl 0 rfl) ?_
  refine p_get C hw (ci := 11) (Cn := RX11) (T := TX11) (N := 8) hL_x hf_x rfl hin_RX11 1 (by decide) (mU mw_21) rfl rfl dX11_settle_13 ?_
  refine lv_aload_n hx hb dX11_settle_16 rfl (lv_at hl 0 rfl) ?_
  refine p_get C hw (ci := 11) (Cn := RX11) (T := TX11) (N := 8) hL_x hf_x rfl hin_RX11 5 (by decide) (mU mw_31) rfl rfl dX11_settle_17 ?_
  refine p_callv (va_runV (As := [.ref ln, .ref ca]) (rest := []) C.fix (e_X11_send0 l D cy S H.size x ln ca ch ln sl mk co ca su lt lk mb col con cal can cr cb vr vb cq vq mg cg vg an k0 fa fb fc ya yb yc cn hL_x hf_x hL_ch hf_ch hL_mk hf_mk hL_mb hf_mb hL_ln hf_ln hL_co hf_co hL_col hf_col hL_ca hf_ca hL_cal hf_cal hL_cr hf_cr hL_cb hf_cb hL_vr hf_vr hL_vb hf_vb hne_cb_vb hne_cr_vr hne_mk_vr hne_mb_vb (by first | assumption | rfl | simp [va_up]) (by first | assumption | rfl | simp [va_up]) (by first | assumption | exact (fun _ => Nat.zero_le 2) | exact rnum_le (fun _ => Nat.zero_le 2) | exact rcop_le (by first | assumption | exact (fun _ => Nat.zero_le 2)) (by first | assumption | exact (fun _ => Nat.zero_le 2)) | exact rharm_le (rcop_le (by first | assumption | exact (fun _ => Nat.zero_le 2)) (by first | assumption | exact (fun _ => Nat.zero_le 2))) | exact rturn_le (fun _ => Nat.zero_le 2)) (by first | assumption | exact (fun _ => Nat.zero_le 2) | exact rnum_le (fun _ => Nat.zero_le 2) | exact rcop_le (by first | assumption | exact (fun _ => Nat.zero_le 2)) (by first | assumption | exact (fun _ => Nat.zero_le 2)) | exact rharm_le (rcop_le (by first | assumption | exact (fun _ => Nat.zero_le 2)) (by first | assumption | exact (fun _ => Nat.zero_le 2))) | exact rturn_le (fun _ => Nat.zero_le 2)) (by first | assumption | exact (fun _ => Nat.zero_le 2) | exact rnum_le (fun _ => Nat.zero_le 2) | exact rcop_le (by first | assumption | exact (fun _ => Nat.zero_le 2)) (by first | assumption | exact (fun _ => Nat.zero_le 2)) | exact rharm_le (rcop_le (by first | assumption | exact (fun _ => Nat.zero_le 2)) (by first | assumption | exact (fun _ => Nat.zero_le 2))) | exact rturn_le (fun _ => Nat.zero_le 2)) (by first | assumption | decide | omega) (by first | assumption | decide | omega) (by first | assumption | decide | omega) (by first | assumption | decide | omega) (by first | assumption | decide | omega) (by first | assumption | (intro h; exact absurd h (by decide)) | (intro h; exact absurd h (by omega))) (by first | assumption | (intro h; exact absurd h (by decide)) | (intro h; exact absurd h (by omega))) (by first | assumption | decide | omega)) (cwV 2 C.2.2.2.2.1 (gU_V mw_252 mw_253 mw_254 mw_2 (subU mw_255)) rfl rfl rfl hde_X11_settle0_V_1 ⟨Nat.le_of_ble_eq_true rfl, Nat.le_of_ble_eq_true rfl⟩) (p_preV C hw hL_x hf_x rfl) rfl rfl hl.1 rfl (lv_room (Nat.le_of_ble_eq_true rfl)) dX11_settle_20 ⟨Nat.le_of_ble_eq_true rfl, Nat.le_of_ble_eq_true rfl⟩) hw hA (fun S3 H locs hpost hw => ?_)
  obtain ⟨wg5, hc6, hS7, hfr8, hf9, hf10⟩ := hpost
  have hL11 : vr ∈ S3.1 := by rw [hS7]; exact List.mem_append_left _ hL_vr
  have hL12 : vb ∈ S3.1 := by rw [hS7]; exact List.mem_append_left _ hL_vb
  refine lv_aload_n hx hb dX11_settle_23 rfl (lv_at hl 0 rfl) ?_
  have hL13 : x ∈ S3.1 := by rw [hS7]; exact List.mem_append_left _ hL_x
  have hf14 : S3.2 x = .inr (11, [.ref ch, .ref ln, .ref sl, .ref mk, .ref co, .ref ca, .ref su, .ref lt]) := (hfr8 x hL_x (ne_cells hf_x hf_vr (by nofun)) (ne_cells hf_x hf_vb (by nofun))).trans hf_x
  refine p_get C hw (ci := 11) (Cn := RX11) (T := TX11) (N := 8) hL13 hf14 rfl hin_RX11 0 (by decide) (mU mw_17) rfl rfl dX11_settle_24 ?_
  refine lv_aload_n hx hb dX11_settle_27 rfl (lv_at hl 0 rfl) ?_
  refine p_get C hw (ci := 11) (Cn := RX11) (T := TX11) (N := 8) hL13 hf14 rfl hin_RX11 5 (by decide) (mU mw_31) rfl rfl dX11_settle_28 ?_
  refine lv_aload_n hx hb dX11_settle_31 rfl (lv_at hl 0 rfl) ?_
  refine p_get C hw (ci := 11) (Cn := RX11) (T := TX11) (N := 8) hL13 hf14 rfl hin_RX11 4 (by decide) (mU mw_30) rfl rfl dX11_settle_32 ?_
  have hL15 : ch ∈ S3.1 := by rw [hS7]; exact List.mem_append_left _ hL_ch
  have hf16 : S3.2 ch = .inr (2, [.ref lk, .int (nI 0)]) := (hfr8 ch hL_ch (ne_cells hf_ch hf_vr (by nofun)) (ne_cells hf_ch hf_vb (by nofun))).trans hf_ch
  refine p_callv (va_runV (As := [.ref ca, .ref co]) (rest := []) C.fix (e_X1_decode0 l D cy S3 H.size ch ca co lk hL15 hf16 ) (cwV 2 C.2.2.2.2.1 (gU_V mw_299 mw_300 mw_301 mw_16 (subU mw_302)) rfl rfl rfl hde_X11_settle0_V_2 ⟨Nat.le_of_ble_eq_true rfl, Nat.le_of_ble_eq_true rfl⟩) (p_preV C hw hL15 hf16 rfl) rfl rfl hl.1 rfl (lv_room (Nat.le_of_ble_eq_true rfl)) dX11_settle_35 ⟨Nat.le_of_ble_eq_true rfl, Nat.le_of_ble_eq_true rfl⟩) hw hA (fun S17 H locs hpost hw => ?_)
  have hS_ := hpost
  subst hS_
  exact (p_vret C hw (⟨(by simp only [hS7, pup, pnew, List.append_nil, List.append_assoc, List.cons_append, List.nil_append]), (fun a_ ha_ hn_0 hn_1 => (hfr8 a_ ha_ hn_0 hn_1))⟩) hr hlocks dX11_settle_38)
