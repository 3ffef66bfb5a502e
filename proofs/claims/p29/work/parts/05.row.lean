/-! what the rows of bits hold, in plain numbers: g what lies in the array, n how many bits are in use -/
def rg (g : Nat → Nat) (n j : Nat) : Nat := if j < n then g j else 0
theorem rg_in {g : Nat → Nat} {n j : Nat} (h : j < n) : rg g n j = g j := if_pos h
theorem rg_out {g : Nat → Nat} {n j : Nat} (h : n ≤ j) : rg g n j = 0 := if_neg (by omega)
theorem rg_le {g : Nat → Nat} (hg : ∀ q, g q ≤ 2) (n j : Nat) : rg g n j ≤ 2 := by
  unfold rg; split
  · exact hg j
  · omega
def rput (g : Nat → Nat) (n j v : Nat) : Nat → Nat := fun q => if q = j ∧ j < n then v else g q
theorem rput_in {g : Nat → Nat} {n j v : Nat} (h : j < n) : rput g n j v = nup g j v := by
  funext q; simp [rput, nup, h]
theorem rput_out {g : Nat → Nat} {n j v : Nat} (h : n ≤ j) : rput g n j v = g := by
  funext q; simp only [rput]; rw [if_neg (by omega)]
def rturn (g : Nat → Nat) (n j : Nat) : Nat → Nat := fun q => if q = j ∧ j < n ∧ g j ≠ 2 then 1 - g j else g q
theorem rturn_2 {g : Nat → Nat} {n j : Nat} (h : rg g n j = 2) : rturn g n j = g := by
  funext q
  by_cases hj : j < n
  · rw [rg_in hj] at h
    simp [rturn, h]
  · simp [rturn, hj]
theorem rturn_n {g : Nat → Nat} {n j : Nat} (h : rg g n j ≠ 2) : rput g n j (1 - rg g n j) = rturn g n j := by
  funext q
  by_cases hj : j < n
  · rw [rg_in hj] at h ⊢
    simp [rturn, rput, hj, h]
  · simp [rturn, rput, hj]
theorem rturn_le {g : Nat → Nat} {n j : Nat} (hg : ∀ q, g q ≤ 2) : ∀ q, rturn g n j q ≤ 2 := by
  intro q; unfold rturn; split
  · omega
  · exact hg q
def rtw (g : Nat → Nat) (n : Nat) (mg : Nat → Nat) (mn k : Nat) : Nat → Nat := fun q => if q < k ∧ q < n ∧ rg mg mn q = 1 ∧ g q ≠ 2 then 1 - g q else g q
theorem rtw_0 {g : Nat → Nat} {n : Nat} {mg : Nat → Nat} {mn : Nat} : rtw g n mg mn 0 = g := by
  funext q; simp [rtw]
theorem rtw_le {g : Nat → Nat} {n : Nat} {mg : Nat → Nat} {mn k : Nat} (hg : ∀ q, g q ≤ 2) : ∀ q, rtw g n mg mn k q ≤ 2 := by
  intro q; unfold rtw; split
  · omega
  · exact hg q
theorem rtw_skip {g : Nat → Nat} {n : Nat} {mg : Nat → Nat} {mn i : Nat} (h : rg mg mn i ≠ 1) : rtw g n mg mn (i + 1) = rtw g n mg mn i := by
  funext q; unfold rtw
  by_cases hq : q = i
  · subst hq; simp [h]
  · have : q < i + 1 ↔ q < i := by omega
    simp [this]
theorem rtw_step {g : Nat → Nat} {n : Nat} {mg : Nat → Nat} {mn i : Nat} (hi : i < n) (h : rg mg mn i = 1) : rturn (rtw g n mg mn i) n i = rtw g n mg mn (i + 1) := by
  funext q
  have e : rtw g n mg mn i i = g i := by simp [rtw]
  unfold rturn
  rw [e]
  by_cases hq : q = i
  · subst hq
    by_cases h2 : g q = 2
    · simp [rtw, h2]
    · simp [rtw, hi, h, h2]
  · have : q < i + 1 ↔ q < i := by omega
    simp [rtw, hq, this]
def cnt (f : Nat → Bool) : Nat → Nat
  | 0 => 0
  | k + 1 => cnt f k + (if f k then 1 else 0)
theorem cnt_le (f : Nat → Bool) : ∀ k, cnt f k ≤ k
  | 0 => Nat.le_refl 0
  | k + 1 => by have := cnt_le f k; unfold cnt; split <;> omega
theorem cnt_t {f : Nat → Bool} {k : Nat} (h : f k = true) : cnt f (k + 1) = cnt f k + 1 := by simp [cnt, h]
theorem cnt_f {f : Nat → Bool} {k : Nat} (h : f k = false) : cnt f (k + 1) = cnt f k := by simp [cnt, h]
def isOne (g : Nat → Nat) (n : Nat) : Nat → Bool := fun q => decide (rg g n q = 1)
def isOther (g : Nat → Nat) (n : Nat) (og : Nat → Nat) (on : Nat) : Nat → Bool := fun q => decide (rg g n q ≠ rg og on q)
/-- the numbers that some bits are -/
def numAt (g : Nat → Nat) (n j : Nat) : Nat → Nat
  | 0 => 0
  | k + 1 => numAt g n j k * 2 + (if rg g n (j + k) = 1 then 1 else 0)
def knoAt (g : Nat → Nat) (n j : Nat) : Nat → Nat
  | 0 => 0
  | k + 1 => knoAt g n j k * 2 + (if rg g n (j + k) = 2 then 0 else 1)
theorem numAt_lt (g : Nat → Nat) (n j : Nat) : ∀ k, numAt g n j k < 2 ^ k
  | 0 => by simp [numAt]
  | k + 1 => by have := numAt_lt g n j k; rw [Nat.pow_succ]; unfold numAt; split <;> omega
theorem knoAt_lt (g : Nat → Nat) (n j : Nat) : ∀ k, knoAt g n j k < 2 ^ k
  | 0 => by simp [knoAt]
  | k + 1 => by have := knoAt_lt g n j k; rw [Nat.pow_succ]; unfold knoAt; split <;> omega
theorem two_pow_12 {k : Nat} (h : k ≤ 12) : 2 ^ k ≤ 4096 := by
  have := Nat.pow_le_pow_right (n := 2) (by decide) h
  simpa using this
theorem numAt_b {g : Nat → Nat} {n j k : Nat} (h : k ≤ 12) : numAt g n j k < 4096 := Nat.lt_of_lt_of_le (numAt_lt g n j k) (two_pow_12 h)
theorem knoAt_b {g : Nat → Nat} {n j k : Nat} (h : k ≤ 12) : knoAt g n j k < 4096 := Nat.lt_of_lt_of_le (knoAt_lt g n j k) (two_pow_12 h)
theorem or_1 (a : Nat) : a * 2 ^ 1 ||| 1 = a * 2 + 1 := by
  have := Nat.two_pow_add_eq_or_of_lt (b := 1) (i := 1) (by decide) a
  rw [Nat.mul_comm] at this
  rw [← this]
theorem or_0 (a : Nat) : a * 2 ^ 1 ||| 0 = a * 2 := by rw [Nat.or_zero]
theorem numAt_t {g : Nat → Nat} {n j k : Nat} (h : rg g n (j + k) = 1) : numAt g n j k * 2 ^ 1 ||| 1 = numAt g n j (k + 1) := by
  rw [or_1]; simp [numAt, h]
theorem numAt_f {g : Nat → Nat} {n j k : Nat} (h : rg g n (j + k) ≠ 1) : numAt g n j k * 2 ^ 1 ||| 0 = numAt g n j (k + 1) := by
  rw [or_0]; simp [numAt, h]
theorem knoAt_t {g : Nat → Nat} {n j k : Nat} (h : rg g n (j + k) ≠ 2) : knoAt g n j k * 2 ^ 1 ||| 1 = knoAt g n j (k + 1) := by
  rw [or_1]; simp [knoAt, h]
theorem knoAt_f {g : Nat → Nat} {n j k : Nat} (h : rg g n (j + k) = 2) : knoAt g n j k * 2 ^ 1 ||| 0 = knoAt g n j (k + 1) := by
  rw [or_0]; simp [knoAt, h]
/-- a number laid into a row, its first k bits -/
def rnum (g : Nat → Nat) (n j v w k : Nat) : Nat → Nat := fun q => if j ≤ q ∧ q < j + k ∧ q < n then v / 2 ^ (w - 1 - (q - j)) % 2 else g q
theorem rnum_0 {g : Nat → Nat} {n j v w : Nat} : rnum g n j v w 0 = g := by
  funext q; unfold rnum; rw [if_neg (by omega)]
theorem rnum_le {g : Nat → Nat} {n j v w k : Nat} (hg : ∀ q, g q ≤ 2) : ∀ q, rnum g n j v w k q ≤ 2 := by
  intro q; unfold rnum; split
  · omega
  · exact hg q
theorem rnum_s {g : Nat → Nat} {n j v w k : Nat} : rput (rnum g n j v w k) n (j + k) (v / 2 ^ (w - 1 - k) &&& 1) = rnum g n j v w (k + 1) := by
  funext q
  rw [Nat.and_one_is_mod]
  by_cases hq : q = j + k
  · subst hq
    by_cases h : j + k < n
    · simp [rput, rnum, h]
    · simp [rput, rnum, h]
  · have : (j ≤ q ∧ q < j + (k + 1) ∧ q < n) ↔ (j ≤ q ∧ q < j + k ∧ q < n) := by omega
    simp [rput, rnum, hq, this]
/-- a row laid over another one, its first k bits -/
def rcop (g og : Nat → Nat) (on k : Nat) : Nat → Nat := fun q => if q < k then rg og on q else g q
theorem rcop_0 {g og : Nat → Nat} {on : Nat} : rcop g og on 0 = g := by
  funext q; simp [rcop]
theorem rcop_s {g og : Nat → Nat} {on n k : Nat} (h : k < n) : rput (rcop g og on k) n k (rg og on k) = rcop g og on (k + 1) := by
  funext q
  by_cases hq : q = k
  · subst hq; simp [rput, rcop, h]
  · have : q < k + 1 ↔ q < k := by omega
    simp [rput, rcop, hq, this]
theorem rcop_le {g og : Nat → Nat} {on k : Nat} (hg : ∀ q, g q ≤ 2) (ho : ∀ q, og q ≤ 2) : ∀ q, rcop g og on k q ≤ 2 := by
  intro q; unfold rcop; split
  · exact rg_le ho on q
  · exact hg q

set_option maxHeartbeats 4000000 in
set_option maxRecDepth 100000 in
/-- Row.size -/
theorem c_X7_size (l : Launch) (D : va_G) (cy : Nat → ClassId) (S : pS) (sz : Nat) (h b n : Nat) (hL_h : h ∈ S.1) (hf_h : S.2 h = .inr (7, [.ref b, .int (nI n)]))  : Met l yX7_size wsX7_size ({ frames := 0, cells := 0, slots := 0, locals := 0 }) (pPc D cy S sz [.ref h]) (pQi D cy S sz (fun r S' => r = nI n ∧ S = S')) 0 0 (pA S sz) := by
  refine Met.ofW (cc := cX7_size) (maxL := 1) (ret := (some .int)) (by decide) rfl ?_
  intro p e s m args below meth c s₁ B hml hv
  obtain ⟨rfl, rfl, C, hw, hA, hr, hlocks⟩ := p_start B hml hv
  have hx := C.1
  have hb := C.2.1
  have hl := lv_entry ([.ref h]) (n := 1) (Nat.le_of_ble_eq_true rfl)
  rw [lg_entry_eq]
  generalize (lg_sl ([.ref h]) ++ List.replicate (1 - (lg_sl ([.ref h])).length) Slot.unset).toArray = ls at hl ⊢
  have hl : lv_has ls 1 [(0, .ref h)] := hl
  have hin_RX7 : ∀ w ∈ u_ws RX7 TX7 2, w ∈ wsX7_size := by decide +kernel
  refine lv_aload_n hx hb dX7_size_0 rfl (lv_at hl 0 rfl) ?_
  refine p_get C hw (ci := 7) (Cn := RX7) (T := TX7) (N := 2) hL_h hf_h rfl hin_RX7 1 (by decide) (List.mem_of_getElem? (i := 1) rfl) rfl rfl dX7_size_1 ?_
  exact p_iret C hw ⟨rfl, rfl⟩ hr hlocks dX7_size_4

set_option maxHeartbeats 4000000 in
set_option maxRecDepth 100000 in
/-- Row.get -/
theorem c_X7_get (l : Launch) (D : va_G) (cy : Nat → ClassId) (S : pS) (sz : Nat) (h b N n j : Nat) (g : Nat → Nat) (hL_h : h ∈ S.1) (hf_h : S.2 h = .inr (7, [.ref b, .int (nI n)])) (hL_b : b ∈ S.1) (hf_b : S.2 b = aN (cy 0) N g) (hN : N < 2 ^ 27) (hn : n ≤ N) (hj : j < 2 ^ 31) : Met l yX7_get wsX7_get ({ frames := 0, cells := 0, slots := 0, locals := 0 }) (pPc D cy S sz [.ref h, .int (nI j)]) (pQi D cy S sz (fun r S' => r = nI (rg g n j) ∧ S = S')) 0 0 (pA S sz) := by
  refine Met.ofW (cc := cX7_get) (maxL := 2) (ret := (some .int)) (by decide) rfl ?_
  intro p e s m args below meth c s₁ B hml hv
  obtain ⟨rfl, rfl, C, hw, hA, hr, hlocks⟩ := p_start B hml hv
  have hx := C.1
  have hb := C.2.1
  have hl := lv_entry ([.ref h, .int (nI j)]) (n := 2) (Nat.le_of_ble_eq_true rfl)
  rw [lg_entry_eq]
  generalize (lg_sl ([.ref h, .int (nI j)]) ++ List.replicate (2 - (lg_sl ([.ref h, .int (nI j)])).length) Slot.unset).toArray = ls at hl ⊢
  have hl : lv_has ls 2 [(0, .ref h), (1, .int (nI j))] := hl
  have hin_RX7 : ∀ w ∈ u_ws RX7 TX7 2, w ∈ wsX7_get := by decide +kernel
  refine lv_iload_n hx hb dX7_get_0 rfl (lv_at hl 1 rfl) ?_
  refine n_if_lt (tgt := 30) hx hb (by omega) dX7_get_1 (by decide) ?_
  refine lv_iload_n hx hb dX7_get_4 rfl (lv_at hl 1 rfl) ?_
  refine lv_aload_n hx hb dX7_get_5 rfl (lv_at hl 0 rfl) ?_
  refine p_get C hw (ci := 7) (Cn := RX7) (T := TX7) (N := 2) hL_h hf_h rfl hin_RX7 1 (by decide) (List.mem_of_getElem? (i := 1) rfl) rfl rfl dX7_get_6 ?_
  refine n_icmp_ge (tgt := 30) hx hb (by omega) (by omega) dX7_get_9 (by decide) (fun h_9 => ?_) (fun h_9 => ?_)
  · skip
    refine lv_iconst (v := nI 0) hx hb dX7_get_30 (by decide) ?_
    exact p_iret C hw ⟨by first | rw [rg_in (by omega)] | rw [rg_out (by omega)], rfl⟩ hr hlocks dX7_get_31
  · skip
    refine lv_iload_n hx hb dX7_get_12 rfl (lv_at hl 1 rfl) ?_
    refine lv_aload_n hx hb dX7_get_13 rfl (lv_at hl 0 rfl) ?_
    refine p_get C hw (ci := 7) (Cn := RX7) (T := TX7) (N := 2) hL_h hf_h rfl hin_RX7 0 (by decide) (List.mem_of_getElem? (i := 2) rfl) rfl rfl dX7_get_14 ?_
    refine n_len C hw 0 rfl hL_b hf_b (n := N) rfl dX7_get_17 ?_
    refine n_icmp_ge (tgt := 30) hx hb (by omega) (by omega) dX7_get_18 (by decide) (fun h_18 => ?_) (fun h_18 => ?_)
    · exact absurd h_18 (by omega)
    · skip
      refine lv_aload_n hx hb dX7_get_21 rfl (lv_at hl 0 rfl) ?_
      refine p_get C hw (ci := 7) (Cn := RX7) (T := TX7) (N := 2) hL_h hf_h rfl hin_RX7 0 (by decide) (List.mem_of_getElem? (i := 2) rfl) rfl rfl dX7_get_22 ?_
      refine lv_iload_n hx hb dX7_get_25 rfl (lv_at hl 1 rfl) ?_
      refine n_ald C hw 0 rfl hL_b hf_b (by omega) (by omega) dX7_get_26 ?_
      refine lv_goto (tgt := 31) hx hb dX7_get_27 (by decide) ?_
      exact p_iret C hw ⟨by first | rw [rg_in (by omega)] | rw [rg_out (by omega)], rfl⟩ hr hlocks dX7_get_31

set_option maxHeartbeats 4000000 in
set_option maxRecDepth 100000 in
/-- Row.put -/
theorem c_X7_put (l : Launch) (D : va_G) (cy : Nat → ClassId) (S : pS) (sz : Nat) (h b N n j v : Nat) (g : Nat → Nat) (hL_h : h ∈ S.1) (hf_h : S.2 h = .inr (7, [.ref b, .int (nI n)])) (hL_b : b ∈ S.1) (hf_b : S.2 b = aN (cy 0) N g) (hN : N < 2 ^ 27) (hn : n ≤ N) (hj : j < 2 ^ 31) : Met l yX7_put wsX7_put ({ frames := 0, cells := 0, slots := 0, locals := 0 }) (pPc D cy S sz [.ref h, .int (nI j), .int (nI v)]) (pQv D cy S sz (fun S' => S' = pup S b (aN (cy 0) N (rput g n j v)))) 0 0 (pA S sz) := by
  refine Met.ofW (cc := cX7_put) (maxL := 3) (ret := none) (by decide) rfl ?_
  intro p e s m args below meth c s₁ B hml hv
  obtain ⟨rfl, rfl, C, hw, hA, hr, hlocks⟩ := p_start B hml hv
  have hx := C.1
  have hb := C.2.1
  have hl := lv_entry ([.ref h, .int (nI j), .int (nI v)]) (n := 3) (Nat.le_of_ble_eq_true rfl)
  rw [lg_entry_eq]
  generalize (lg_sl ([.ref h, .int (nI j), .int (nI v)]) ++ List.replicate (3 - (lg_sl ([.ref h, .int (nI j), .int (nI v)])).length) Slot.unset).toArray = ls at hl ⊢
  have hl : lv_has ls 3 [(0, .ref h), (1, .int (nI j)), (2, .int (nI v))] := hl
  have hin_RX7 : ∀ w ∈ u_ws RX7 TX7 2, w ∈ wsX7_put := by decide +kernel
  refine lv_iload_n hx hb dX7_put_0 rfl (lv_at hl 1 rfl) ?_
  refine n_if_lt (tgt := 28) hx hb (by omega) dX7_put_1 (by decide) ?_
  refine lv_iload_n hx hb dX7_put_4 rfl (lv_at hl 1 rfl) ?_
  refine lv_aload_n hx hb dX7_put_5 rfl (lv_at hl 0 rfl) ?_
  refine p_get C hw (ci := 7) (Cn := RX7) (T := TX7) (N := 2) hL_h hf_h rfl hin_RX7 1 (by decide) (List.mem_of_getElem? (i := 1) rfl) rfl rfl dX7_put_6 ?_
  refine n_icmp_ge (tgt := 28) hx hb (by omega) (by omega) dX7_put_9 (by decide) (fun h_9 => ?_) (fun h_9 => ?_)
  · skip
    exact p_vret C hw (by first | rw [rput_in (by omega)]; assumption | rw [rput_out (by omega)]; exact (pup_self hf_b).symm) hr hlocks dX7_put_28
  · skip
    refine lv_iload_n hx hb dX7_put_12 rfl (lv_at hl 1 rfl) ?_
    refine lv_aload_n hx hb dX7_put_13 rfl (lv_at hl 0 rfl) ?_
    refine p_get C hw (ci := 7) (Cn := RX7) (T := TX7) (N := 2) hL_h hf_h rfl hin_RX7 0 (by decide) (List.mem_of_getElem? (i := 2) rfl) rfl rfl dX7_put_14 ?_
    refine n_len C hw 0 rfl hL_b hf_b (n := N) rfl dX7_put_17 ?_
    refine n_icmp_ge (tgt := 28) hx hb (by omega) (by omega) dX7_put_18 (by decide) (fun h_18 => ?_) (fun h_18 => ?_)
    · exact absurd h_18 (by omega)
    · skip
      refine lv_aload_n hx hb dX7_put_21 rfl (lv_at hl 0 rfl) ?_
      refine p_get C hw (ci := 7) (Cn := RX7) (T := TX7) (N := 2) hL_h hf_h rfl hin_RX7 0 (by decide) (List.mem_of_getElem? (i := 2) rfl) rfl rfl dX7_put_22 ?_
      refine lv_iload_n hx hb dX7_put_25 rfl (lv_at hl 1 rfl) ?_
      refine lv_iload_n hx hb dX7_put_26 rfl (lv_at hl 2 rfl) ?_
      refine n_ast C hw 0 rfl hL_b hf_b (by omega) (by omega) dX7_put_27 (fun H locs hw => ?_)
      obtain ⟨S1, hS1⟩ : ∃ z, z = pup S b (aN (cy 0) N (nup g j v)) := ⟨_, rfl⟩
      replace hw : pW D (pA S s.heap.size) s.heap S1 H locs := by rw [hS1]; exact hw
      have hL2 : h ∈ S1.1 := by rw [hS1]; exact hL_h
      have hf3 : S1.2 h = .inr (7, [.ref b, .int (nI n)]) := by rw [hS1]; exact (pup_n (ne_cells hf_h hf_b (by nofun))).trans hf_h
      have hL4 : b ∈ S1.1 := by rw [hS1]; exact hL_b
      have hf5 : S1.2 b = aN (cy 0) N (nup g j v) := by rw [hS1]; exact pup_s
      exact p_vret C hw (by first | rw [rput_in (by omega)]; assumption | rw [rput_out (by omega)]; exact (pup_self hf_b).symm) hr hlocks dX7_put_28

set_option maxHeartbeats 4000000 in
set_option maxRecDepth 100000 in
/-- Row.resize -/
theorem c_X7_resize (l : Launch) (D : va_G) (cy : Nat → ClassId) (S : pS) (sz : Nat) (h b N n w : Nat) (g : Nat → Nat) (hL_h : h ∈ S.1) (hf_h : S.2 h = .inr (7, [.ref b, .int (nI n)])) (hL_b : b ∈ S.1) (hf_b : S.2 b = aN (cy 0) N g) (hN : N < 2 ^ 27) (hw0 : w < 2 ^ 31) : Met l yX7_resize wsX7_resize ({ frames := 1, cells := 0, slots := 0, locals := 21 }) (pPc D cy S sz [.ref h, .int (nI w)]) (pQv D cy S sz (fun S' => S' = pup S h (.inr (7, [.ref b, .int (nI (min w N))])))) 0 0 (pA S sz) := by
  refine Met.ofW (cc := cX7_resize) (maxL := 2) (ret := none) (by decide) rfl ?_
  intro p e s m args below meth c s₁ B hml hv
  obtain ⟨rfl, rfl, C, hw, hA, hr, hlocks⟩ := p_start B hml hv
  have hx := C.1
  have hb := C.2.1
  have hl := lv_entry ([.ref h, .int (nI w)]) (n := 2) (Nat.le_of_ble_eq_true rfl)
  rw [lg_entry_eq]
  generalize (lg_sl ([.ref h, .int (nI w)]) ++ List.replicate (2 - (lg_sl ([.ref h, .int (nI w)])).length) Slot.unset).toArray = ls at hl ⊢
  have hl : lv_has ls 2 [(0, .ref h), (1, .int (nI w))] := hl
  have hin_RX7 : ∀ w ∈ u_ws RX7 TX7 2, w ∈ wsX7_resize := by decide +kernel
  refine lv_aload_n hx hb dX7_resize_0 rfl (lv_at hl 0 rfl) ?_
  refine lv_iconst (v := nI 0) hx hb dX7_resize_1 (by decide) ?_
  refine lv_iload_n hx hb dX7_resize_2 rfl (lv_at hl 1 rfl) ?_
  refine lv_aload_n hx hb dX7_resize_3 rfl (lv_at hl 0 rfl) ?_
  refine p_get C hw (ci := 7) (Cn := RX7) (T := TX7) (N := 2) hL_h hf_h rfl hin_RX7 0 (by decide) (List.mem_of_getElem? (i := 1) rfl) rfl rfl dX7_resize_4 ?_
  refine n_len C hw 0 rfl hL_b hf_b (n := N) rfl dX7_resize_7 ?_
  refine n_mmin C hl.1.symm (index := 25) (List.mem_of_getElem? (i := 2) rfl) (List.mem_of_getElem? (i := 3) rfl) (List.mem_of_getElem? (i := 4) rfl) (List.mem_of_getElem? (i := 5) rfl) (Nat.le_of_ble_eq_true rfl) (Nat.le_of_ble_eq_true rfl) (Nat.le_of_ble_eq_true rfl) (Nat.le_of_ble_eq_true rfl) (by omega) (by omega) dX7_resize_8 ?_
  refine n_mmax C hl.1.symm (index := 15) (List.mem_of_getElem? (i := 6) rfl) (List.mem_of_getElem? (i := 7) rfl) (List.mem_of_getElem? (i := 4) rfl) (List.mem_of_getElem? (i := 8) rfl) (Nat.le_of_ble_eq_true rfl) (Nat.le_of_ble_eq_true rfl) (Nat.le_of_ble_eq_true rfl) (Nat.le_of_ble_eq_true rfl) (by omega) (by omega) dX7_resize_11 ?_
  refine n_ren (b := min w N) (by omega) ?_
  refine p_put C hw (ci := 7) (Cn := RX7) (T := TX7) (N := 2) tyX7 tyX7_ok nmX7 hL_h hf_h rfl hin_RX7 1 (by decide) (List.mem_of_getElem? (i := 9) rfl) rfl rfl rfl rfl rfl (by simp) dX7_resize_14 rfl (fun H locs hw => ?_)
  obtain ⟨S1, hS1⟩ : ∃ z, z = pup S h (.inr (7, [.ref b, .int (nI (min w N))])) := ⟨_, rfl⟩
  replace hw : pW D (pA S s.heap.size) s.heap S1 H locs := by rw [hS1]; exact hw
  have hL2 : b ∈ S1.1 := by rw [hS1]; exact hL_b
  have hf3 : S1.2 b = aN (cy 0) N g := by rw [hS1]; exact (pup_n (ne_cells hf_b hf_h (by nofun))).trans hf_b
  have hL4 : h ∈ S1.1 := by rw [hS1]; exact hL_h
  have hf5 : S1.2 h = .inr (7, [.ref b, .int (nI (min w N))]) := by rw [hS1]; exact pup_s
  exact p_vret C hw (by assumption) hr hlocks dX7_resize_17

theorem hdV_yX7_get_RX7 : yX7_get.cls = RX7 ∧ yX7_get.cls ≠ "java/lang/invoke/MethodHandle" ∧ yX7_get.cls ≠ "java/lang/invoke/VarHandle" ∧ (parseMethodDescriptor yX7_get.desc).map (fun d => d.parameters.length) = some 1 := by decide +kernel
theorem hdV_yX7_put_RX7 : yX7_put.cls = RX7 ∧ yX7_put.cls ≠ "java/lang/invoke/MethodHandle" ∧ yX7_put.cls ≠ "java/lang/invoke/VarHandle" ∧ (parseMethodDescriptor yX7_put.desc).map (fun d => d.parameters.length) = some 2 := by decide +kernel
set_option maxHeartbeats 4000000 in
set_option maxRecDepth 100000 in
/-- Row.turn -/
theorem c_X7_turn (l : Launch) (D : va_G) (cy : Nat → ClassId) (S : pS) (sz : Nat) (h b N n j : Nat) (g : Nat → Nat) (hL_h : h ∈ S.1) (hf_h : S.2 h = .inr (7, [.ref b, .int (nI n)])) (hL_b : b ∈ S.1) (hf_b : S.2 b = aN (cy 0) N g) (hN : N < 2 ^ 27) (hn : n ≤ N) (hj : j < 2 ^ 31) (hg : ∀ q, g q ≤ 2) : Met l yX7_turn wsX7_turn ({ frames := 1, cells := 0, slots := 0, locals := 22 }) (pPc D cy S sz [.ref h, .int (nI j)]) (pQv D cy S sz (fun S' => S' = pup S b (aN (cy 0) N (rturn g n j)))) 0 0 (pA S sz) := by
  refine Met.ofW (cc := cX7_turn) (maxL := 2) (ret := none) (by decide) rfl ?_
  intro p e s m args below meth c s₁ B hml hv
  obtain ⟨rfl, rfl, C, hw, hA, hr, hlocks⟩ := p_start B hml hv
  have hx := C.1
  have hb := C.2.1
  have hl := lv_entry ([.ref h, .int (nI j)]) (n := 2) (Nat.le_of_ble_eq_true rfl)
  rw [lg_entry_eq]
  generalize (lg_sl ([.ref h, .int (nI j)]) ++ List.replicate (2 - (lg_sl ([.ref h, .int (nI j)])).length) Slot.unset).toArray = ls at hl ⊢
  have hl : lv_has ls 2 [(0, .ref h), (1, .int (nI j))] := hl
  have hin_RX7 : ∀ w ∈ u_ws RX7 TX7 2, w ∈ wsX7_turn := by decide +kernel
  refine lv_aload_n hx hb dX7_turn_0 rfl (lv_at hl 0 rfl) ?_
  refine lv_iload_n hx hb dX7_turn_1 rfl (lv_at hl 1 rfl) ?_
  refine p_calli (va_runV (As := [.int (nI j)]) (rest := []) C.fix (c_X7_get l D cy S s.heap.size h b N n j g hL_h hf_h hL_b hf_b hN hn (by omega)) (cwV 1 C.2.2.2.2.1 gX7_turn_X7_get rfl rfl rfl hdV_yX7_get_RX7 ⟨Nat.le_of_ble_eq_true rfl, Nat.le_of_ble_eq_true rfl⟩) (p_preV C hw hL_h hf_h rfl) rfl rfl hl.1 rfl (lv_room (Nat.le_of_ble_eq_true rfl)) dX7_turn_2 ⟨Nat.le_of_ble_eq_true rfl, Nat.le_of_ble_eq_true rfl⟩) hw hA (fun r2 S1 H locs hpost hw => ?_)
  obtain ⟨hr_, hS_⟩ := hpost
  subst hr_
  subst hS_
  have hg2 := rg_le hg n j
  refine lv_iconst (v := nI 2) hx hb dX7_turn_5 (by decide) ?_
  refine n_icmp_eq (tgt := 21) hx hb (by omega) (by omega) dX7_turn_6 (by decide) (fun h_6 => ?_) (fun h_6 => ?_)
  · skip
    exact p_vret C hw (by first | rw [hpost, rturn_n h_6] | (rw [rturn_2 h_6]; exact (pup_self hf_b).symm)) hr hlocks dX7_turn_21
  · skip
    refine lv_aload_n hx hb dX7_turn_9 rfl (lv_at hl 0 rfl) ?_
    refine lv_iload_n hx hb dX7_turn_10 rfl (lv_at hl 1 rfl) ?_
    refine lv_iconst (v := nI 1) hx hb dX7_turn_11 (by decide) ?_
    refine lv_aload_n hx hb dX7_turn_12 rfl (lv_at hl 0 rfl) ?_
    refine lv_iload_n hx hb dX7_turn_13 rfl (lv_at hl 1 rfl) ?_
    refine p_calli (va_runV (As := [.int (nI j)]) (rest := [.int (nI 1), .int (nI j), .ref h]) C.fix (c_X7_get l D cy S H.size h b N n j g hL_h hf_h hL_b hf_b hN hn (by omega)) (cwV 1 C.2.2.2.2.1 gX7_turn_X7_get rfl rfl rfl hdV_yX7_get_RX7 ⟨Nat.le_of_ble_eq_true rfl, Nat.le_of_ble_eq_true rfl⟩) (p_preV C hw hL_h hf_h rfl) rfl rfl hl.1 rfl (lv_room (Nat.le_of_ble_eq_true rfl)) dX7_turn_14 ⟨Nat.le_of_ble_eq_true rfl, Nat.le_of_ble_eq_true rfl⟩) hw hA (fun r4 S3 H locs hpost hw => ?_)
    obtain ⟨hr_, hS_⟩ := hpost
    subst hr_
    subst hS_
    refine n_isub hx hb (by omega) dX7_turn_17 ?_
    refine p_callv (va_runV (As := [.int (nI j), .int (nI (1 - (rg g n j)))]) (rest := []) C.fix (c_X7_put l D cy S H.size h b N n j (1 - (rg g n j)) g hL_h hf_h hL_b hf_b hN hn hj) (cwV 2 C.2.2.2.2.1 gX7_turn_X7_put rfl rfl rfl hdV_yX7_put_RX7 ⟨Nat.le_of_ble_eq_true rfl, Nat.le_of_ble_eq_true rfl⟩) (p_preV C hw hL_h hf_h rfl) rfl rfl hl.1 rfl (lv_room (Nat.le_of_ble_eq_true rfl)) dX7_turn_18 ⟨Nat.le_of_ble_eq_true rfl, Nat.le_of_ble_eq_true rfl⟩) hw hA (fun S5 H locs hpost hw => ?_)
    exact p_vret C hw (by first | rw [hpost, rturn_n h_6] | (rw [rturn_2 h_6]; exact (pup_self hf_b).symm)) hr hlocks dX7_turn_21

set_option maxHeartbeats 4000000 in
set_option maxRecDepth 100000 in
/-- Row.ones -/
theorem c_X7_ones (l : Launch) (D : va_G) (cy : Nat → ClassId) (S : pS) (sz : Nat) (h b N n : Nat) (g : Nat → Nat) (hL_h : h ∈ S.1) (hf_h : S.2 h = .inr (7, [.ref b, .int (nI n)])) (hL_b : b ∈ S.1) (hf_b : S.2 b = aN (cy 0) N g) (hN : N < 2 ^ 27) (hn : n ≤ N) (hg : ∀ q, g q ≤ 2) : Met l yX7_ones wsX7_ones ({ frames := 1, cells := 0, slots := 0, locals := 21 }) (pPc D cy S sz [.ref h]) (pQi D cy S sz (fun r S' => r = nI (cnt (isOne g n) n) ∧ S = S')) 0 0 (pA S sz) := by
  refine Met.ofW (cc := cX7_ones) (maxL := 3) (ret := (some .int)) (by decide) rfl ?_
  intro p e s m args below meth c s₁ B hml hv
  obtain ⟨rfl, rfl, C, hw, hA, hr, hlocks⟩ := p_start B hml hv
  have hx := C.1
  have hb := C.2.1
  have hl := lv_entry ([.ref h]) (n := 3) (Nat.le_of_ble_eq_true rfl)
  rw [lg_entry_eq]
  generalize (lg_sl ([.ref h]) ++ List.replicate (3 - (lg_sl ([.ref h])).length) Slot.unset).toArray = ls at hl ⊢
  have hl : lv_has ls 3 [(0, .ref h)] := hl
  have hin_RX7 : ∀ w ∈ u_ws RX7 TX7 2, w ∈ wsX7_ones := by decide +kernel
  refine lv_iconst (v := nI 0) hx hb dX7_ones_0 (by decide) ?_
  refine lv_istore_n (lv' := [(1, .int (nI 0)), (0, .ref h)]) hx hb dX7_ones_1 rfl hl (by decide) rfl (fun ls hl => ?_)
  refine lv_iconst (v := nI 0) hx hb dX7_ones_2 (by decide) ?_
  refine lv_istore_n (lv' := [(2, .int (nI 0)), (1, .int (nI 0)), (0, .ref h)]) hx hb dX7_ones_3 rfl hl (by decide) rfl (fun ls hl => ?_)
  have loop4 : ∀ (kf : Nat) (i : Nat), n - i < kf → ∀ (H : Heap) (locs : List Loc) (ls : Array Slot),  (i ≤ n) → pW D (pA S s.heap.size) s.heap S H locs → lv_has ls 3 [(2, .int (nI i)), (1, .int (nI (cnt (isOne g n) i))), (0, .ref h)] → W p l e (headSpec wsX7_ones ({ frames := 1, cells := 0, slots := 0, locals := 21 } : Room)).room s m ([.ref h]).toArray below meth c H locs 0 0 (MQ below (pQi D cy S s.heap.size (fun r S' => r = nI (cnt (isOne g n) n) ∧ S = S')) ([.ref h]).toArray s 0 0 (pA S s.heap.size)) (F0 m 4 ls []) := by
    intro kf
    induction kf with
    | zero => intro i hm; exact absurd hm (Nat.not_lt_zero _)
    | succ kf ih4 =>
      intro i hm  H locs ls  hi hw hl
      refine lv_iload_n hx hb dX7_ones_4 rfl (lv_at hl 0 rfl) ?_
      refine lv_aload_n hx hb dX7_ones_5 rfl (lv_at hl 2 rfl) ?_
      refine p_get C hw (ci := 7) (Cn := RX7) (T := TX7) (N := 2) hL_h hf_h rfl hin_RX7 1 (by decide) (List.mem_of_getElem? (i := 1) rfl) rfl rfl dX7_ones_6 ?_
      refine n_icmp_ge (tgt := 30) hx hb (by omega) (by omega) dX7_ones_9 (by decide) (fun h_9 => ?_) (fun h_9 => ?_)
      · skip
        refine lv_iload_n hx hb dX7_ones_30 rfl (lv_at hl 1 rfl) ?_
        exact p_iret C hw ⟨by rw [show n = i from by omega], rfl⟩ hr hlocks dX7_ones_31
      · skip
        refine lv_aload_n hx hb dX7_ones_12 rfl (lv_at hl 2 rfl) ?_
        refine lv_iload_n hx hb dX7_ones_13 rfl (lv_at hl 0 rfl) ?_
        refine p_calli (va_runV (As := [.int (nI i)]) (rest := []) C.fix (c_X7_get l D cy S H.size h b N n i g hL_h hf_h hL_b hf_b hN hn (by omega)) (cwV 1 C.2.2.2.2.1 gX7_ones_X7_get rfl rfl rfl hdV_yX7_get_RX7 ⟨Nat.le_of_ble_eq_true rfl, Nat.le_of_ble_eq_true rfl⟩) (p_preV C hw hL_h hf_h rfl) rfl rfl hl.1 rfl (lv_room (Nat.le_of_ble_eq_true rfl)) dX7_ones_14 ⟨Nat.le_of_ble_eq_true rfl, Nat.le_of_ble_eq_true rfl⟩) hw hA (fun r2 S1 H locs hpost hw => ?_)
        obtain ⟨hr_, hS_⟩ := hpost
        subst hr_
        subst hS_
        have hg2 := rg_le hg n i
        refine lv_iconst (v := nI 1) hx hb dX7_ones_17 (by decide) ?_
        refine n_icmp_ne (tgt := 24) hx hb (by omega) (by omega) dX7_ones_18 (by decide) (fun h_18 => ?_) (fun h_18 => ?_)
        · skip
          rw [← cnt_f (f := isOne g n) (k := i) (by simp [isOne, h_18])] at hl
          refine lv_iinc (v := (nI (i + 1))) (lv' := [(2, .int (nI (i + 1))), (1, .int (nI (cnt (isOne g n) (i + 1)))), (0, .ref h)]) hx hb dX7_ones_24 hl (k := 0) rfl (by rw [show Int32.ofInt 1 = nI 1 from by decide, nI_add]) (by decide) rfl (fun ls hl => ?_)
          refine lv_goto (tgt := 4) hx hb dX7_ones_27 (by decide) ?_
          exact ih4 (i + 1) (by omega)  H locs ls  (by omega) hw (lv_sub hl [0, 1, 2] rfl)
        · skip
          refine lv_iinc (v := (nI (cnt (isOne g n) (i + 1)))) (lv' := [(1, .int (nI (cnt (isOne g n) (i + 1)))), (2, .int (nI i)), (0, .ref h)]) hx hb dX7_ones_21 hl (k := 1) rfl (by rw [show Int32.ofInt 1 = nI 1 from by decide, nI_add, ← cnt_t (f := isOne g n) (k := i) (by simp [isOne, h_18])]) (by decide) rfl (fun ls hl => ?_)
          refine lv_iinc (v := (nI (i + 1))) (lv' := [(2, .int (nI (i + 1))), (1, .int (nI (cnt (isOne g n) (i + 1)))), (0, .ref h)]) hx hb dX7_ones_24 hl (k := 1) rfl (by rw [show Int32.ofInt 1 = nI 1 from by decide, nI_add]) (by decide) rfl (fun ls hl => ?_)
          refine lv_goto (tgt := 4) hx hb dX7_ones_27 (by decide) ?_
          exact ih4 (i + 1) (by omega)  H locs ls  (by omega) hw (lv_sub hl [0, 1, 2] rfl)
  exact loop4 (n - 0 + 1) 0 (by omega)  s.heap [] ls  (Nat.zero_le _) hw (lv_sub hl [0, 1, 2] rfl)

set_option maxHeartbeats 4000000 in
set_option maxRecDepth 100000 in
/-- Row.numberAt -/
theorem c_X7_numberAt (l : Launch) (D : va_G) (cy : Nat → ClassId) (S : pS) (sz : Nat) (h b N n j w : Nat) (g : Nat → Nat) (hL_h : h ∈ S.1) (hf_h : S.2 h = .inr (7, [.ref b, .int (nI n)])) (hL_b : b ∈ S.1) (hf_b : S.2 b = aN (cy 0) N g) (hN : N < 2 ^ 27) (hn : n ≤ N) (hj : j < 2 ^ 30) (hw12 : w ≤ 12) (hg : ∀ q, g q ≤ 2) : Met l yX7_numberAt wsX7_numberAt ({ frames := 1, cells := 0, slots := 0, locals := 21 }) (pPc D cy S sz [.ref h, .int (nI j), .int (nI w)]) (pQi D cy S sz (fun r S' => r = nI (numAt g n j w) ∧ S = S')) 0 0 (pA S sz) := by
  refine Met.ofW (cc := cX7_numberAt) (maxL := 5) (ret := (some .int)) (by decide) rfl ?_
  intro p e s m args below meth c s₁ B hml hv
  obtain ⟨rfl, rfl, C, hw, hA, hr, hlocks⟩ := p_start B hml hv
  have hx := C.1
  have hb := C.2.1
  have hl := lv_entry ([.ref h, .int (nI j), .int (nI w)]) (n := 5) (Nat.le_of_ble_eq_true rfl)
  rw [lg_entry_eq]
  generalize (lg_sl ([.ref h, .int (nI j), .int (nI w)]) ++ List.replicate (5 - (lg_sl ([.ref h, .int (nI j), .int (nI w)])).length) Slot.unset).toArray = ls at hl ⊢
  have hl : lv_has ls 5 [(0, .ref h), (1, .int (nI j)), (2, .int (nI w))] := hl
  have hin_RX7 : ∀ w ∈ u_ws RX7 TX7 2, w ∈ wsX7_numberAt := by decide +kernel
  refine lv_iconst (v := nI 0) hx hb dX7_numberAt_0 (by decide) ?_
  refine lv_istore_n (lv' := [(3, .int (nI 0)), (0, .ref h), (1, .int (nI j)), (2, .int (nI w))]) hx hb dX7_numberAt_1 rfl hl (by decide) rfl (fun ls hl => ?_)
  refine lv_iconst (v := nI 0) hx hb dX7_numberAt_2 (by decide) ?_
  refine lv_istore (lv' := [(4, .int (nI 0)), (3, .int (nI 0)), (0, .ref h), (1, .int (nI j)), (2, .int (nI w))]) hx hb dX7_numberAt_3 hl (by decide) rfl (fun ls hl => ?_)
  have loop5 : ∀ (kf : Nat) (i : Nat), w - i < kf → ∀ (H : Heap) (locs : List Loc) (ls : Array Slot),  (i ≤ w) → pW D (pA S s.heap.size) s.heap S H locs → lv_has ls 5 [(4, .int (nI i)), (3, .int (nI (numAt g n j i))), (0, .ref h), (1, .int (nI j)), (2, .int (nI w))] → W p l e (headSpec wsX7_numberAt ({ frames := 1, cells := 0, slots := 0, locals := 21 } : Room)).room s m ([.ref h, .int (nI j), .int (nI w)]).toArray below meth c H locs 0 0 (MQ below (pQi D cy S s.heap.size (fun r S' => r = nI (numAt g n j w) ∧ S = S')) ([.ref h, .int (nI j), .int (nI w)]).toArray s 0 0 (pA S s.heap.size)) (F0 m 5 ls []) := by
    intro kf
    induction kf with
    | zero => intro i hm; exact absurd hm (Nat.not_lt_zero _)
    | succ kf ih5 =>
      intro i hm  H locs ls  hi hw hl
      have hb5 := numAt_b (g := g) (n := n) (j := j) (k := i) (by omega)
      refine lv_iload hx hb dX7_numberAt_5 (lv_at hl 0 rfl) ?_
      refine lv_iload_n hx hb dX7_numberAt_7 rfl (lv_at hl 4 rfl) ?_
      refine n_icmp_ge (tgt := 39) hx hb (by omega) (by omega) dX7_numberAt_8 (by decide) (fun h_8 => ?_) (fun h_8 => ?_)
      · skip
        refine lv_iload_n hx hb dX7_numberAt_39 rfl (lv_at hl 1 rfl) ?_
        exact p_iret C hw ⟨by rw [show w = i from by omega], rfl⟩ hr hlocks dX7_numberAt_40
      · skip
        refine lv_iload_n hx hb dX7_numberAt_11 rfl (lv_at hl 1 rfl) ?_
        refine lv_iconst (v := nI 1) hx hb dX7_numberAt_12 (by decide) ?_
        refine n_ishl hx hb (by omega) (by omega) dX7_numberAt_13 ?_
        refine lv_aload_n hx hb dX7_numberAt_14 rfl (lv_at hl 2 rfl) ?_
        refine lv_iload_n hx hb dX7_numberAt_15 rfl (lv_at hl 3 rfl) ?_
        refine lv_iload hx hb dX7_numberAt_16 (lv_at hl 0 rfl) ?_
        refine n_iadd hx hb dX7_numberAt_18 ?_
        refine p_calli (va_runV (As := [.int (nI (j + i))]) (rest := [.int (nI ((numAt g n j i) * 2 ^ 1))]) C.fix (c_X7_get l D cy S H.size h b N n (j + i) g hL_h hf_h hL_b hf_b hN hn (by omega)) (cwV 1 C.2.2.2.2.1 gX7_numberAt_X7_get rfl rfl rfl hdV_yX7_get_RX7 ⟨Nat.le_of_ble_eq_true rfl, Nat.le_of_ble_eq_true rfl⟩) (p_preV C hw hL_h hf_h rfl) rfl rfl hl.1 rfl (lv_room (Nat.le_of_ble_eq_true rfl)) dX7_numberAt_19 ⟨Nat.le_of_ble_eq_true rfl, Nat.le_of_ble_eq_true rfl⟩) hw hA (fun r2 S1 H locs hpost hw => ?_)
        obtain ⟨hr_, hS_⟩ := hpost
        subst hr_
        subst hS_
        have hg2 := rg_le hg n (j + i)
        refine lv_iconst (v := nI 1) hx hb dX7_numberAt_22 (by decide) ?_
        refine n_icmp_ne (tgt := 30) hx hb (by omega) (by omega) dX7_numberAt_23 (by decide) (fun h_23 => ?_) (fun h_23 => ?_)
        · skip
          refine lv_iconst (v := nI 0) hx hb dX7_numberAt_30 (by decide) ?_
          refine n_ior hx hb dX7_numberAt_31 ?_
          refine n_ren (b := numAt g n j (i + 1)) (by first | exact numAt_t h_23 | exact numAt_f h_23) ?_
          refine lv_istore_n (lv' := [(3, .int (nI (numAt g n j (i + 1)))), (4, .int (nI i)), (0, .ref h), (1, .int (nI j)), (2, .int (nI w))]) hx hb dX7_numberAt_32 rfl hl (by decide) rfl (fun ls hl => ?_)
          refine lv_iinc (v := (nI (i + 1))) (lv' := [(4, .int (nI (i + 1))), (3, .int (nI (numAt g n j (i + 1)))), (0, .ref h), (1, .int (nI j)), (2, .int (nI w))]) hx hb dX7_numberAt_33 hl (k := 1) rfl (by rw [show Int32.ofInt 1 = nI 1 from by decide, nI_add]) (by decide) rfl (fun ls hl => ?_)
          refine lv_goto (tgt := 5) hx hb dX7_numberAt_36 (by decide) ?_
          exact ih5 (i + 1) (by omega)  H locs ls  (by omega) hw (lv_sub hl [0, 1, 2, 3, 4] rfl)
        · skip
          refine lv_iconst (v := nI 1) hx hb dX7_numberAt_26 (by decide) ?_
          refine lv_goto (tgt := 31) hx hb dX7_numberAt_27 (by decide) ?_
          refine n_ior hx hb dX7_numberAt_31 ?_
          refine n_ren (b := numAt g n j (i + 1)) (by first | exact numAt_t h_23 | exact numAt_f h_23) ?_
          refine lv_istore_n (lv' := [(3, .int (nI (numAt g n j (i + 1)))), (4, .int (nI i)), (0, .ref h), (1, .int (nI j)), (2, .int (nI w))]) hx hb dX7_numberAt_32 rfl hl (by decide) rfl (fun ls hl => ?_)
          refine lv_iinc (v := (nI (i + 1))) (lv' := [(4, .int (nI (i + 1))), (3, .int (nI (numAt g n j (i + 1)))), (0, .ref h), (1, .int (nI j)), (2, .int (nI w))]) hx hb dX7_numberAt_33 hl (k := 1) rfl (by rw [show Int32.ofInt 1 = nI 1 from by decide, nI_add]) (by decide) rfl (fun ls hl => ?_)
          refine lv_goto (tgt := 5) hx hb dX7_numberAt_36 (by decide) ?_
          exact ih5 (i + 1) (by omega)  H locs ls  (by omega) hw (lv_sub hl [0, 1, 2, 3, 4] rfl)
  exact loop5 (w - 0 + 1) 0 (by omega)  s.heap [] ls  (Nat.zero_le _) hw (lv_sub hl [0, 1, 2, 3, 4] rfl)

set_option maxHeartbeats 4000000 in
set_option maxRecDepth 100000 in
/-- Row.knownAt -/
theorem c_X7_knownAt (l : Launch) (D : va_G) (cy : Nat → ClassId) (S : pS) (sz : Nat) (h b N n j w : Nat) (g : Nat → Nat) (hL_h : h ∈ S.1) (hf_h : S.2 h = .inr (7, [.ref b, .int (nI n)])) (hL_b : b ∈ S.1) (hf_b : S.2 b = aN (cy 0) N g) (hN : N < 2 ^ 27) (hn : n ≤ N) (hj : j < 2 ^ 30) (hw12 : w ≤ 12) (hg : ∀ q, g q ≤ 2) : Met l yX7_knownAt wsX7_knownAt ({ frames := 1, cells := 0, slots := 0, locals := 21 }) (pPc D cy S sz [.ref h, .int (nI j), .int (nI w)]) (pQi D cy S sz (fun r S' => r = nI (knoAt g n j w) ∧ S = S')) 0 0 (pA S sz) := by
  refine Met.ofW (cc := cX7_knownAt) (maxL := 5) (ret := (some .int)) (by decide) rfl ?_
  intro p e s m args below meth c s₁ B hml hv
  obtain ⟨rfl, rfl, C, hw, hA, hr, hlocks⟩ := p_start B hml hv
  have hx := C.1
  have hb := C.2.1
  have hl := lv_entry ([.ref h, .int (nI j), .int (nI w)]) (n := 5) (Nat.le_of_ble_eq_true rfl)
  rw [lg_entry_eq]
  generalize (lg_sl ([.ref h, .int (nI j), .int (nI w)]) ++ List.replicate (5 - (lg_sl ([.ref h, .int (nI j), .int (nI w)])).length) Slot.unset).toArray = ls at hl ⊢
  have hl : lv_has ls 5 [(0, .ref h), (1, .int (nI j)), (2, .int (nI w))] := hl
  have hin_RX7 : ∀ w ∈ u_ws RX7 TX7 2, w ∈ wsX7_knownAt := by decide +kernel
  refine lv_iconst (v := nI 0) hx hb dX7_knownAt_0 (by decide) ?_
  refine lv_istore_n (lv' := [(3, .int (nI 0)), (0, .ref h), (1, .int (nI j)), (2, .int (nI w))]) hx hb dX7_knownAt_1 rfl hl (by decide) rfl (fun ls hl => ?_)
  refine lv_iconst (v := nI 0) hx hb dX7_knownAt_2 (by decide) ?_
  refine lv_istore (lv' := [(4, .int (nI 0)), (3, .int (nI 0)), (0, .ref h), (1, .int (nI j)), (2, .int (nI w))]) hx hb dX7_knownAt_3 hl (by decide) rfl (fun ls hl => ?_)
  have loop5 : ∀ (kf : Nat) (i : Nat), w - i < kf → ∀ (H : Heap) (locs : List Loc) (ls : Array Slot),  (i ≤ w) → pW D (pA S s.heap.size) s.heap S H locs → lv_has ls 5 [(4, .int (nI i)), (3, .int (nI (knoAt g n j i))), (0, .ref h), (1, .int (nI j)), (2, .int (nI w))] → W p l e (headSpec wsX7_knownAt ({ frames := 1, cells := 0, slots := 0, locals := 21 } : Room)).room s m ([.ref h, .int (nI j), .int (nI w)]).toArray below meth c H locs 0 0 (MQ below (pQi D cy S s.heap.size (fun r S' => r = nI (knoAt g n j w) ∧ S = S')) ([.ref h, .int (nI j), .int (nI w)]).toArray s 0 0 (pA S s.heap.size)) (F0 m 5 ls []) := by
    intro kf
    induction kf with
    | zero => intro i hm; exact absurd hm (Nat.not_lt_zero _)
    | succ kf ih5 =>
      intro i hm  H locs ls  hi hw hl
      have hb5 := knoAt_b (g := g) (n := n) (j := j) (k := i) (by omega)
      refine lv_iload hx hb dX7_knownAt_5 (lv_at hl 0 rfl) ?_
      refine lv_iload_n hx hb dX7_knownAt_7 rfl (lv_at hl 4 rfl) ?_
      refine n_icmp_ge (tgt := 39) hx hb (by omega) (by omega) dX7_knownAt_8 (by decide) (fun h_8 => ?_) (fun h_8 => ?_)
      · skip
        refine lv_iload_n hx hb dX7_knownAt_39 rfl (lv_at hl 1 rfl) ?_
        exact p_iret C hw ⟨by rw [show w = i from by omega], rfl⟩ hr hlocks dX7_knownAt_40
      · skip
        refine lv_iload_n hx hb dX7_knownAt_11 rfl (lv_at hl 1 rfl) ?_
        refine lv_iconst (v := nI 1) hx hb dX7_knownAt_12 (by decide) ?_
        refine n_ishl hx hb (by omega) (by omega) dX7_knownAt_13 ?_
        refine lv_aload_n hx hb dX7_knownAt_14 rfl (lv_at hl 2 rfl) ?_
        refine lv_iload_n hx hb dX7_knownAt_15 rfl (lv_at hl 3 rfl) ?_
        refine lv_iload hx hb dX7_knownAt_16 (lv_at hl 0 rfl) ?_
        refine n_iadd hx hb dX7_knownAt_18 ?_
        refine p_calli (va_runV (As := [.int (nI (j + i))]) (rest := [.int (nI ((knoAt g n j i) * 2 ^ 1))]) C.fix (c_X7_get l D cy S H.size h b N n (j + i) g hL_h hf_h hL_b hf_b hN hn (by omega)) (cwV 1 C.2.2.2.2.1 gX7_knownAt_X7_get rfl rfl rfl hdV_yX7_get_RX7 ⟨Nat.le_of_ble_eq_true rfl, Nat.le_of_ble_eq_true rfl⟩) (p_preV C hw hL_h hf_h rfl) rfl rfl hl.1 rfl (lv_room (Nat.le_of_ble_eq_true rfl)) dX7_knownAt_19 ⟨Nat.le_of_ble_eq_true rfl, Nat.le_of_ble_eq_true rfl⟩) hw hA (fun r2 S1 H locs hpost hw => ?_)
        obtain ⟨hr_, hS_⟩ := hpost
        subst hr_
        subst hS_
        have hg2 := rg_le hg n (j + i)
        refine lv_iconst (v := nI 2) hx hb dX7_knownAt_22 (by decide) ?_
        refine n_icmp_ne (tgt := 30) hx hb (by omega) (by omega) dX7_knownAt_23 (by decide) (fun h_23 => ?_) (fun h_23 => ?_)
        · skip
          refine lv_iconst (v := nI 1) hx hb dX7_knownAt_30 (by decide) ?_
          refine n_ior hx hb dX7_knownAt_31 ?_
          refine n_ren (b := knoAt g n j (i + 1)) (by first | exact knoAt_t h_23 | exact knoAt_f h_23) ?_
          refine lv_istore_n (lv' := [(3, .int (nI (knoAt g n j (i + 1)))), (4, .int (nI i)), (0, .ref h), (1, .int (nI j)), (2, .int (nI w))]) hx hb dX7_knownAt_32 rfl hl (by decide) rfl (fun ls hl => ?_)
          refine lv_iinc (v := (nI (i + 1))) (lv' := [(4, .int (nI (i + 1))), (3, .int (nI (knoAt g n j (i + 1)))), (0, .ref h), (1, .int (nI j)), (2, .int (nI w))]) hx hb dX7_knownAt_33 hl (k := 1) rfl (by rw [show Int32.ofInt 1 = nI 1 from by decide, nI_add]) (by decide) rfl (fun ls hl => ?_)
          refine lv_goto (tgt := 5) hx hb dX7_knownAt_36 (by decide) ?_
          exact ih5 (i + 1) (by omega)  H locs ls  (by omega) hw (lv_sub hl [0, 1, 2, 3, 4] rfl)
        · skip
          refine lv_iconst (v := nI 0) hx hb dX7_knownAt_26 (by decide) ?_
          refine lv_goto (tgt := 31) hx hb dX7_knownAt_27 (by decide) ?_
          refine n_ior hx hb dX7_knownAt_31 ?_
          refine n_ren (b := knoAt g n j (i + 1)) (by first | exact knoAt_t h_23 | exact knoAt_f h_23) ?_
          refine lv_istore_n (lv' := [(3, .int (nI (knoAt g n j (i + 1)))), (4, .int (nI i)), (0, .ref h), (1, .int (nI j)), (2, .int (nI w))]) hx hb dX7_knownAt_32 rfl hl (by decide) rfl (fun ls hl => ?_)
          refine lv_iinc (v := (nI (i + 1))) (lv' := [(4, .int (nI (i + 1))), (3, .int (nI (knoAt g n j (i + 1)))), (0, .ref h), (1, .int (nI j)), (2, .int (nI w))]) hx hb dX7_knownAt_33 hl (k := 1) rfl (by rw [show Int32.ofInt 1 = nI 1 from by decide, nI_add]) (by decide) rfl (fun ls hl => ?_)
          refine lv_goto (tgt := 5) hx hb dX7_knownAt_36 (by decide) ?_
          exact ih5 (i + 1) (by omega)  H locs ls  (by omega) hw (lv_sub hl [0, 1, 2, 3, 4] rfl)
  exact loop5 (w - 0 + 1) 0 (by omega)  s.heap [] ls  (Nat.zero_le _) hw (lv_sub hl [0, 1, 2, 3, 4] rfl)

set_option maxHeartbeats 4000000 in
set_option maxRecDepth 100000 in
/-- Row.putNumber -/
theorem c_X7_putNumber (l : Launch) (D : va_G) (cy : Nat → ClassId) (S : pS) (sz : Nat) (h b N n j v w : Nat) (g : Nat → Nat) (hL_h : h ∈ S.1) (hf_h : S.2 h = .inr (7, [.ref b, .int (nI n)])) (hL_b : b ∈ S.1) (hf_b : S.2 b = aN (cy 0) N g) (hN : N < 2 ^ 27) (hn : n ≤ N) (hj : j < 2 ^ 30) (hv : v < 2 ^ 31) (hw31 : w ≤ 31) : Met l yX7_putNumber wsX7_putNumber ({ frames := 1, cells := 0, slots := 0, locals := 22 }) (pPc D cy S sz [.ref h, .int (nI j), .int (nI v), .int (nI w)]) (pQv D cy S sz (fun S' => S' = pup S b (aN (cy 0) N (rnum g n j v w w)))) 0 0 (pA S sz) := by
  refine Met.ofW (cc := cX7_putNumber) (maxL := 5) (ret := none) (by decide) rfl ?_
  intro p e s m args below meth c s₁ B hml hv
  obtain ⟨rfl, rfl, C, hw, hA, hr, hlocks⟩ := p_start B hml hv
  have hx := C.1
  have hb := C.2.1
  have hl := lv_entry ([.ref h, .int (nI j), .int (nI v), .int (nI w)]) (n := 5) (Nat.le_of_ble_eq_true rfl)
  rw [lg_entry_eq]
  generalize (lg_sl ([.ref h, .int (nI j), .int (nI v), .int (nI w)]) ++ List.replicate (5 - (lg_sl ([.ref h, .int (nI j), .int (nI v), .int (nI w)])).length) Slot.unset).toArray = ls at hl ⊢
  have hl : lv_has ls 5 [(0, .ref h), (1, .int (nI j)), (2, .int (nI v)), (3, .int (nI w))] := hl
  have hin_RX7 : ∀ w ∈ u_ws RX7 TX7 2, w ∈ wsX7_putNumber := by decide +kernel
  refine lv_iconst (v := nI 0) hx hb dX7_putNumber_0 (by decide) ?_
  refine lv_istore (lv' := [(4, .int (nI 0)), (0, .ref h), (1, .int (nI j)), (2, .int (nI v)), (3, .int (nI w))]) hx hb dX7_putNumber_1 hl (by decide) rfl (fun ls hl => ?_)
  have loop3 : ∀ (kf : Nat) (i : Nat), w - i < kf → ∀ (S1 : pS), ∀ (H : Heap) (locs : List Loc) (ls : Array Slot), (h ∈ S1.1) → (S1.2 h = .inr (7, [.ref b, .int (nI n)])) → (b ∈ S1.1) → (S1.2 b = aN (cy 0) N (rnum g n j v w i)) → (i ≤ w) → (S1 = pup S b (aN (cy 0) N (rnum g n j v w i))) → pW D (pA S s.heap.size) s.heap S1 H locs → lv_has ls 5 [(4, .int (nI i)), (0, .ref h), (1, .int (nI j)), (2, .int (nI v)), (3, .int (nI w))] → W p l e (headSpec wsX7_putNumber ({ frames := 1, cells := 0, slots := 0, locals := 22 } : Room)).room s m ([.ref h, .int (nI j), .int (nI v), .int (nI w)]).toArray below meth c H locs 0 0 (MQ below (pQv D cy S s.heap.size (fun S' => S' = pup S b (aN (cy 0) N (rnum g n j v w w)))) ([.ref h, .int (nI j), .int (nI v), .int (nI w)]).toArray s 0 0 (pA S s.heap.size)) (F0 m 3 ls []) := by
    intro kf
    induction kf with
    | zero => intro i hm; exact absurd hm (Nat.not_lt_zero _)
    | succ kf ih3 =>
      intro i hm S1 H locs ls hL1 hf2 hL3 hf4 hi hS1 hw hl
      refine lv_iload hx hb dX7_putNumber_3 (lv_at hl 0 rfl) ?_
      refine lv_iload_n hx hb dX7_putNumber_5 rfl (lv_at hl 4 rfl) ?_
      refine n_icmp_ge (tgt := 33) hx hb (by omega) (by omega) dX7_putNumber_6 (by decide) (fun h_6 => ?_) (fun h_6 => ?_)
      · skip
        exact p_vret C hw (by rw [hS1, show w = i from by omega]) hr hlocks dX7_putNumber_33
      · skip
        refine lv_aload_n hx hb dX7_putNumber_9 rfl (lv_at hl 1 rfl) ?_
        refine lv_iload_n hx hb dX7_putNumber_10 rfl (lv_at hl 2 rfl) ?_
        refine lv_iload hx hb dX7_putNumber_11 (lv_at hl 0 rfl) ?_
        refine n_iadd hx hb dX7_putNumber_13 ?_
        refine lv_iload_n hx hb dX7_putNumber_14 rfl (lv_at hl 3 rfl) ?_
        refine lv_iload_n hx hb dX7_putNumber_15 rfl (lv_at hl 4 rfl) ?_
        refine lv_iconst (v := nI 1) hx hb dX7_putNumber_16 (by decide) ?_
        refine n_isub hx hb (by omega) dX7_putNumber_17 ?_
        refine lv_iload hx hb dX7_putNumber_18 (lv_at hl 0 rfl) ?_
        refine n_isub hx hb (by omega) dX7_putNumber_20 ?_
        refine n_iushr hx hb (by omega) (by omega) dX7_putNumber_21 ?_
        refine lv_iconst (v := nI 1) hx hb dX7_putNumber_22 (by decide) ?_
        refine n_iand hx hb dX7_putNumber_23 ?_
        refine p_callv (va_runV (As := [.int (nI (j + i)), .int (nI ((v / 2 ^ ((w - 1) - i)) &&& 1))]) (rest := []) C.fix (c_X7_put l D cy S1 H.size h b N n (j + i) ((v / 2 ^ ((w - 1) - i)) &&& 1) (rnum g n j v w i) hL1 hf2 hL3 hf4 hN hn (by omega)) (cwV 2 C.2.2.2.2.1 gX7_putNumber_X7_put rfl rfl rfl hdV_yX7_put_RX7 ⟨Nat.le_of_ble_eq_true rfl, Nat.le_of_ble_eq_true rfl⟩) (p_preV C hw hL1 hf2 rfl) rfl rfl hl.1 rfl (lv_room (Nat.le_of_ble_eq_true rfl)) dX7_putNumber_24 ⟨Nat.le_of_ble_eq_true rfl, Nat.le_of_ble_eq_true rfl⟩) hw hA (fun S5 H locs hpost hw => ?_)
        have hL7 : h ∈ S5.1 := by rw [hpost]; exact hL1
        have hf8 : S5.2 h = .inr (7, [.ref b, .int (nI n)]) := by rw [hpost]; exact (pup_n (ne_cells hf2 hf4 (by nofun))).trans hf2
        have hL9 : b ∈ S5.1 := by rw [hpost]; exact hL3
        have hf10 : S5.2 b = aN (cy 0) N (rput (rnum g n j v w i) n (j + i) (v / 2 ^ (w - 1 - i) &&& 1)) := by rw [hpost]; exact pup_s
        refine lv_iinc (v := (nI (i + 1))) (lv' := [(4, .int (nI (i + 1))), (0, .ref h), (1, .int (nI j)), (2, .int (nI v)), (3, .int (nI w))]) hx hb dX7_putNumber_27 hl (k := 0) rfl (by rw [show Int32.ofInt 1 = nI 1 from by decide, nI_add]) (by decide) rfl (fun ls hl => ?_)
        refine lv_goto (tgt := 3) hx hb dX7_putNumber_30 (by decide) ?_
        exact ih3 (i + 1) (by omega) S5 H locs ls hL7 hf8 hL9 (by rw [hpost, rnum_s]; exact pup_s) (by omega) (by rw [hpost, hS1, pup_pup, rnum_s]) hw (lv_sub hl [0, 1, 2, 3, 4] rfl)
  exact loop3 (w - 0 + 1) 0 (by omega) S s.heap [] ls hL_h hf_h hL_b (by rw [rnum_0]; exact hf_b) (Nat.zero_le _) (by rw [rnum_0]; exact (pup_self hf_b).symm) hw (lv_sub hl [0, 1, 2, 3, 4] rfl)

set_option maxHeartbeats 4000000 in
set_option maxRecDepth 100000 in
/-- Row.unlike -/
theorem c_X7_unlike (l : Launch) (D : va_G) (cy : Nat → ClassId) (S : pS) (sz : Nat) (h b N n o c1 N2 on : Nat) (g og : Nat → Nat) (hL_h : h ∈ S.1) (hf_h : S.2 h = .inr (7, [.ref b, .int (nI n)])) (hL_b : b ∈ S.1) (hf_b : S.2 b = aN (cy 0) N g) (hL_o : o ∈ S.1) (hf_o : S.2 o = .inr (7, [.ref c1, .int (nI on)])) (hL_c1 : c1 ∈ S.1) (hf_c1 : S.2 c1 = aN (cy 0) N2 og) (hN : N < 2 ^ 27) (hn : n ≤ N) (hg : ∀ q, g q ≤ 2) (hN2 : N2 < 2 ^ 27) (hon : on ≤ N2) (hog : ∀ q, og q ≤ 2) : Met l yX7_unlike wsX7_unlike ({ frames := 1, cells := 0, slots := 0, locals := 21 }) (pPc D cy S sz [.ref h, .ref o]) (pQi D cy S sz (fun r S' => r = nI (cnt (isOther g n og on) n) ∧ S = S')) 0 0 (pA S sz) := by
  refine Met.ofW (cc := cX7_unlike) (maxL := 4) (ret := (some .int)) (by decide) rfl ?_
  intro p e s m args below meth c s₁ B hml hv
  obtain ⟨rfl, rfl, C, hw, hA, hr, hlocks⟩ := p_start B hml hv
  have hx := C.1
  have hb := C.2.1
  have hl := lv_entry ([.ref h, .ref o]) (n := 4) (Nat.le_of_ble_eq_true rfl)
  rw [lg_entry_eq]
  generalize (lg_sl ([.ref h, .ref o]) ++ List.replicate (4 - (lg_sl ([.ref h, .ref o])).length) Slot.unset).toArray = ls at hl ⊢
  have hl : lv_has ls 4 [(0, .ref h), (1, .ref o)] := hl
  have hin_RX7 : ∀ w ∈ u_ws RX7 TX7 2, w ∈ wsX7_unlike := by decide +kernel
  refine lv_iconst (v := nI 0) hx hb dX7_unlike_0 (by decide) ?_
  refine lv_istore_n (lv' := [(2, .int (nI 0)), (0, .ref h), (1, .ref o)]) hx hb dX7_unlike_1 rfl hl (by decide) rfl (fun ls hl => ?_)
  refine lv_iconst (v := nI 0) hx hb dX7_unlike_2 (by decide) ?_
  refine lv_istore_n (lv' := [(3, .int (nI 0)), (2, .int (nI 0)), (0, .ref h), (1, .ref o)]) hx hb dX7_unlike_3 rfl hl (by decide) rfl (fun ls hl => ?_)
  have loop4 : ∀ (kf : Nat) (i : Nat), n - i < kf → ∀ (H : Heap) (locs : List Loc) (ls : Array Slot),  (i ≤ n) → pW D (pA S s.heap.size) s.heap S H locs → lv_has ls 4 [(3, .int (nI i)), (2, .int (nI (cnt (isOther g n og on) i))), (0, .ref h), (1, .ref o)] → W p l e (headSpec wsX7_unlike ({ frames := 1, cells := 0, slots := 0, locals := 21 } : Room)).room s m ([.ref h, .ref o]).toArray below meth c H locs 0 0 (MQ below (pQi D cy S s.heap.size (fun r S' => r = nI (cnt (isOther g n og on) n) ∧ S = S')) ([.ref h, .ref o]).toArray s 0 0 (pA S s.heap.size)) (F0 m 4 ls []) := by
    intro kf
    induction kf with
    | zero => intro i hm; exact absurd hm (Nat.not_lt_zero _)
    | succ kf ih4 =>
      intro i hm  H locs ls  hi hw hl
      refine lv_iload_n hx hb dX7_unlike_4 rfl (lv_at hl 0 rfl) ?_
      refine lv_aload_n hx hb dX7_unlike_5 rfl (lv_at hl 2 rfl) ?_
      refine p_get C hw (ci := 7) (Cn := RX7) (T := TX7) (N := 2) hL_h hf_h rfl hin_RX7 1 (by decide) (List.mem_of_getElem? (i := 1) rfl) rfl rfl dX7_unlike_6 ?_
      refine n_icmp_ge (tgt := 34) hx hb (by omega) (by omega) dX7_unlike_9 (by decide) (fun h_9 => ?_) (fun h_9 => ?_)
      · skip
        refine lv_iload_n hx hb dX7_unlike_34 rfl (lv_at hl 1 rfl) ?_
        exact p_iret C hw ⟨by rw [show n = i from by omega], rfl⟩ hr hlocks dX7_unlike_35
      · skip
        refine lv_aload_n hx hb dX7_unlike_12 rfl (lv_at hl 2 rfl) ?_
        refine lv_iload_n hx hb dX7_unlike_13 rfl (lv_at hl 0 rfl) ?_
        refine p_calli (va_runV (As := [.int (nI i)]) (rest := []) C.fix (c_X7_get l D cy S H.size h b N n i g hL_h hf_h hL_b hf_b hN hn (by omega)) (cwV 1 C.2.2.2.2.1 gX7_unlike_X7_get rfl rfl rfl hdV_yX7_get_RX7 ⟨Nat.le_of_ble_eq_true rfl, Nat.le_of_ble_eq_true rfl⟩) (p_preV C hw hL_h hf_h rfl) rfl rfl hl.1 rfl (lv_room (Nat.le_of_ble_eq_true rfl)) dX7_unlike_14 ⟨Nat.le_of_ble_eq_true rfl, Nat.le_of_ble_eq_true rfl⟩) hw hA (fun r2 S1 H locs hpost hw => ?_)
        obtain ⟨hr_, hS_⟩ := hpost
        subst hr_
        subst hS_
        have hg2 := rg_le hg n i
        refine lv_aload_n hx hb dX7_unlike_17 rfl (lv_at hl 3 rfl) ?_
        refine lv_iload_n hx hb dX7_unlike_18 rfl (lv_at hl 0 rfl) ?_
        refine p_calli (va_runV (As := [.int (nI i)]) (rest := [.int (nI (rg g n i))]) C.fix (c_X7_get l D cy S H.size o c1 N2 on i og hL_o hf_o hL_c1 hf_c1 hN2 hon (by omega)) (cwV 1 C.2.2.2.2.1 gX7_unlike_X7_get rfl rfl rfl hdV_yX7_get_RX7 ⟨Nat.le_of_ble_eq_true rfl, Nat.le_of_ble_eq_true rfl⟩) (p_preV C hw hL_o hf_o rfl) rfl rfl hl.1 rfl (lv_room (Nat.le_of_ble_eq_true rfl)) dX7_unlike_19 ⟨Nat.le_of_ble_eq_true rfl, Nat.le_of_ble_eq_true rfl⟩) hw hA (fun r4 S3 H locs hpost hw => ?_)
        obtain ⟨hr_, hS_⟩ := hpost
        subst hr_
        subst hS_
        have hg3 := rg_le hog on i
        refine n_icmp_eq (tgt := 28) hx hb (by omega) (by omega) dX7_unlike_22 (by decide) (fun h_22 => ?_) (fun h_22 => ?_)
        · skip
          rw [← cnt_f (f := isOther g n og on) (k := i) (by simp [isOther, h_22])] at hl
          refine lv_iinc (v := (nI (i + 1))) (lv' := [(3, .int (nI (i + 1))), (2, .int (nI (cnt (isOther g n og on) (i + 1)))), (0, .ref h), (1, .ref o)]) hx hb dX7_unlike_28 hl (k := 0) rfl (by rw [show Int32.ofInt 1 = nI 1 from by decide, nI_add]) (by decide) rfl (fun ls hl => ?_)
          refine lv_goto (tgt := 4) hx hb dX7_unlike_31 (by decide) ?_
          exact ih4 (i + 1) (by omega)  H locs ls  (by omega) hw (lv_sub hl [0, 1, 2, 3] rfl)
        · skip
          refine lv_iinc (v := (nI (cnt (isOther g n og on) (i + 1)))) (lv' := [(2, .int (nI (cnt (isOther g n og on) (i + 1)))), (3, .int (nI i)), (0, .ref h), (1, .ref o)]) hx hb dX7_unlike_25 hl (k := 1) rfl (by rw [show Int32.ofInt 1 = nI 1 from by decide, nI_add, ← cnt_t (f := isOther g n og on) (k := i) (by simp [isOther, h_22])]) (by decide) rfl (fun ls hl => ?_)
          refine lv_iinc (v := (nI (i + 1))) (lv' := [(3, .int (nI (i + 1))), (2, .int (nI (cnt (isOther g n og on) (i + 1)))), (0, .ref h), (1, .ref o)]) hx hb dX7_unlike_28 hl (k := 1) rfl (by rw [show Int32.ofInt 1 = nI 1 from by decide, nI_add]) (by decide) rfl (fun ls hl => ?_)
          refine lv_goto (tgt := 4) hx hb dX7_unlike_31 (by decide) ?_
          exact ih4 (i + 1) (by omega)  H locs ls  (by omega) hw (lv_sub hl [0, 1, 2, 3] rfl)
  exact loop4 (n - 0 + 1) 0 (by omega)  s.heap [] ls  (Nat.zero_le _) hw (lv_sub hl [0, 1, 2, 3] rfl)

theorem hdV_yX7_turn_RX7 : yX7_turn.cls = RX7 ∧ yX7_turn.cls ≠ "java/lang/invoke/MethodHandle" ∧ yX7_turn.cls ≠ "java/lang/invoke/VarHandle" ∧ (parseMethodDescriptor yX7_turn.desc).map (fun d => d.parameters.length) = some 1 := by decide +kernel
set_option maxHeartbeats 4000000 in
set_option maxRecDepth 100000 in
/-- Row.turnWhere -/
theorem c_X7_turnWhere (l : Launch) (D : va_G) (cy : Nat → ClassId) (S : pS) (sz : Nat) (h b N n o c1 N2 on : Nat) (g og : Nat → Nat) (hL_h : h ∈ S.1) (hf_h : S.2 h = .inr (7, [.ref b, .int (nI n)])) (hL_b : b ∈ S.1) (hf_b : S.2 b = aN (cy 0) N g) (hL_o : o ∈ S.1) (hf_o : S.2 o = .inr (7, [.ref c1, .int (nI on)])) (hL_c1 : c1 ∈ S.1) (hf_c1 : S.2 c1 = aN (cy 0) N2 og) (hN : N < 2 ^ 27) (hn : n ≤ N) (hg : ∀ q, g q ≤ 2) (hN2 : N2 < 2 ^ 27) (hon : on ≤ N2) (hog : ∀ q, og q ≤ 2) (hne : c1 ≠ b) : Met l yX7_turnWhere wsX7_turnWhere ({ frames := 2, cells := 0, slots := 0, locals := 43 }) (pPc D cy S sz [.ref h, .ref o]) (pQv D cy S sz (fun S' => S' = pup S b (aN (cy 0) N (rtw g n og on n)))) 0 0 (pA S sz) := by
  refine Met.ofW (cc := cX7_turnWhere) (maxL := 3) (ret := none) (by decide) rfl ?_
  intro p e s m args below meth c s₁ B hml hv
  obtain ⟨rfl, rfl, C, hw, hA, hr, hlocks⟩ := p_start B hml hv
  have hx := C.1
  have hb := C.2.1
  have hl := lv_entry ([.ref h, .ref o]) (n := 3) (Nat.le_of_ble_eq_true rfl)
  rw [lg_entry_eq]
  generalize (lg_sl ([.ref h, .ref o]) ++ List.replicate (3 - (lg_sl ([.ref h, .ref o])).length) Slot.unset).toArray = ls at hl ⊢
  have hl : lv_has ls 3 [(0, .ref h), (1, .ref o)] := hl
  have hin_RX7 : ∀ w ∈ u_ws RX7 TX7 2, w ∈ wsX7_turnWhere := by decide +kernel
  refine lv_iconst (v := nI 0) hx hb dX7_turnWhere_0 (by decide) ?_
  refine lv_istore_n (lv' := [(2, .int (nI 0)), (0, .ref h), (1, .ref o)]) hx hb dX7_turnWhere_1 rfl hl (by decide) rfl (fun ls hl => ?_)
  have loop2 : ∀ (kf : Nat) (i : Nat), n - i < kf → ∀ (S1 : pS), ∀ (H : Heap) (locs : List Loc) (ls : Array Slot), (h ∈ S1.1) → (S1.2 h = .inr (7, [.ref b, .int (nI n)])) → (b ∈ S1.1) → (S1.2 b = aN (cy 0) N (rtw g n og on i)) → (o ∈ S1.1) → (S1.2 o = .inr (7, [.ref c1, .int (nI on)])) → (c1 ∈ S1.1) → (S1.2 c1 = aN (cy 0) N2 og) → (i ≤ n) → (S1 = pup S b (aN (cy 0) N (rtw g n og on i))) → pW D (pA S s.heap.size) s.heap S1 H locs → lv_has ls 3 [(2, .int (nI i)), (0, .ref h), (1, .ref o)] → W p l e (headSpec wsX7_turnWhere ({ frames := 2, cells := 0, slots := 0, locals := 43 } : Room)).room s m ([.ref h, .ref o]).toArray below meth c H locs 0 0 (MQ below (pQv D cy S s.heap.size (fun S' => S' = pup S b (aN (cy 0) N (rtw g n og on n)))) ([.ref h, .ref o]).toArray s 0 0 (pA S s.heap.size)) (F0 m 2 ls []) := by
    intro kf
    induction kf with
    | zero => intro i hm; exact absurd hm (Nat.not_lt_zero _)
    | succ kf ih2 =>
      intro i hm S1 H locs ls hL1 hf2 hL3 hf4 hL5 hf6 hL7 hf8 hi hS1 hw hl
      refine lv_iload_n hx hb dX7_turnWhere_2 rfl (lv_at hl 0 rfl) ?_
      refine lv_aload_n hx hb dX7_turnWhere_3 rfl (lv_at hl 1 rfl) ?_
      refine p_get C hw (ci := 7) (Cn := RX7) (T := TX7) (N := 2) hL1 hf2 rfl hin_RX7 1 (by decide) (List.mem_of_getElem? (i := 1) rfl) rfl rfl dX7_turnWhere_4 ?_
      refine n_icmp_ge (tgt := 30) hx hb (by omega) (by omega) dX7_turnWhere_7 (by decide) (fun h_7 => ?_) (fun h_7 => ?_)
      · skip
        exact p_vret C hw (by rw [hS1, show n = i from by omega]) hr hlocks dX7_turnWhere_30
      · skip
        refine lv_aload_n hx hb dX7_turnWhere_10 rfl (lv_at hl 2 rfl) ?_
        refine lv_iload_n hx hb dX7_turnWhere_11 rfl (lv_at hl 0 rfl) ?_
        refine p_calli (va_runV (As := [.int (nI i)]) (rest := []) C.fix (c_X7_get l D cy S1 H.size o c1 N2 on i og hL5 hf6 hL7 hf8 hN2 hon (by omega)) (cwV 1 C.2.2.2.2.1 gX7_turnWhere_X7_get rfl rfl rfl hdV_yX7_get_RX7 ⟨Nat.le_of_ble_eq_true rfl, Nat.le_of_ble_eq_true rfl⟩) (p_preV C hw hL5 hf6 rfl) rfl rfl hl.1 rfl (lv_room (Nat.le_of_ble_eq_true rfl)) dX7_turnWhere_12 ⟨Nat.le_of_ble_eq_true rfl, Nat.le_of_ble_eq_true rfl⟩) hw hA (fun r10 S9 H locs hpost hw => ?_)
        obtain ⟨hr_, hS_⟩ := hpost
        subst hr_
        subst hS_
        have hg3 := rg_le hog on i
        refine lv_iconst (v := nI 1) hx hb dX7_turnWhere_15 (by decide) ?_
        refine n_icmp_ne (tgt := 24) hx hb (by omega) (by omega) dX7_turnWhere_16 (by decide) (fun h_16 => ?_) (fun h_16 => ?_)
        · skip
          refine lv_iinc (v := (nI (i + 1))) (lv' := [(2, .int (nI (i + 1))), (0, .ref h), (1, .ref o)]) hx hb dX7_turnWhere_24 hl (k := 0) rfl (by rw [show Int32.ofInt 1 = nI 1 from by decide, nI_add]) (by decide) rfl (fun ls hl => ?_)
          refine lv_goto (tgt := 2) hx hb dX7_turnWhere_27 (by decide) ?_
          exact ih2 (i + 1) (by omega) S1 H locs ls hL1 hf2 hL3 (by first | rw [rtw_skip h_16]; assumption | (rw [hpost, rtw_step (by omega) h_16]; exact pup_s)) hL5 hf6 hL7 hf8 (by omega) (by first | rw [hS1, rtw_skip h_16] | rw [hpost, hS1, pup_pup, rtw_step (by omega) h_16]) hw (lv_sub hl [0, 1, 2] rfl)
        · skip
          refine lv_aload_n hx hb dX7_turnWhere_19 rfl (lv_at hl 1 rfl) ?_
          refine lv_iload_n hx hb dX7_turnWhere_20 rfl (lv_at hl 0 rfl) ?_
          refine p_callv (va_runV (As := [.int (nI i)]) (rest := []) C.fix (c_X7_turn l D cy S1 H.size h b N n i (rtw g n og on i) hL1 hf2 hL3 hf4 hN hn (by omega) (rtw_le hg)) (cwV 1 C.2.2.2.2.1 gX7_turnWhere_X7_turn rfl rfl rfl hdV_yX7_turn_RX7 ⟨Nat.le_of_ble_eq_true rfl, Nat.le_of_ble_eq_true rfl⟩) (p_preV C hw hL1 hf2 rfl) rfl rfl hl.1 rfl (lv_room (Nat.le_of_ble_eq_true rfl)) dX7_turnWhere_21 ⟨Nat.le_of_ble_eq_true rfl, Nat.le_of_ble_eq_true rfl⟩) hw hA (fun S11 H locs hpost hw => ?_)
          have hL13 : h ∈ S11.1 := by rw [hpost]; exact hL1
          have hf14 : S11.2 h = .inr (7, [.ref b, .int (nI n)]) := by rw [hpost]; exact (pup_n (ne_cells hf2 hf4 (by nofun))).trans hf2
          have hL15 : b ∈ S11.1 := by rw [hpost]; exact hL3
          have hf16 : S11.2 b = aN (cy 0) N (rturn (rtw g n og on i) n i) := by rw [hpost]; exact pup_s
          have hL17 : o ∈ S11.1 := by rw [hpost]; exact hL5
          have hf18 : S11.2 o = .inr (7, [.ref c1, .int (nI on)]) := by rw [hpost]; exact (pup_n (ne_cells hf6 hf4 (by nofun))).trans hf6
          have hL19 : c1 ∈ S11.1 := by rw [hpost]; exact hL7
          have hf20 : S11.2 c1 = aN (cy 0) N2 og := by rw [hpost]; exact (pup_n (by first | assumption | exact Ne.symm (by assumption))).trans hf8
          refine lv_iinc (v := (nI (i + 1))) (lv' := [(2, .int (nI (i + 1))), (0, .ref h), (1, .ref o)]) hx hb dX7_turnWhere_24 hl (k := 0) rfl (by rw [show Int32.ofInt 1 = nI 1 from by decide, nI_add]) (by decide) rfl (fun ls hl => ?_)
          refine lv_goto (tgt := 2) hx hb dX7_turnWhere_27 (by decide) ?_
          exact ih2 (i + 1) (by omega) S11 H locs ls hL13 hf14 hL15 (by first | rw [rtw_skip h_16]; assumption | (rw [hpost, rtw_step (by omega) h_16]; exact pup_s)) hL17 hf18 hL19 hf20 (by omega) (by first | rw [hS1, rtw_skip h_16] | rw [hpost, hS1, pup_pup, rtw_step (by omega) h_16]) hw (lv_sub hl [0, 1, 2] rfl)
  exact loop2 (n - 0 + 1) 0 (by omega) S s.heap [] ls hL_h hf_h hL_b (by rw [rtw_0]; exact hf_b) hL_o hf_o hL_c1 hf_c1 (Nat.zero_le _) (by rw [rtw_0]; exact (pup_self hf_b).symm) hw (lv_sub hl [0, 1, 2] rfl)

theorem hdV_yX7_size_RX7 : yX7_size.cls = RX7 ∧ yX7_size.cls ≠ "java/lang/invoke/MethodHandle" ∧ yX7_size.cls ≠ "java/lang/invoke/VarHandle" ∧ (parseMethodDescriptor yX7_size.desc).map (fun d => d.parameters.length) = some 0 := by decide +kernel
theorem hdV_yX7_resize_RX7 : yX7_resize.cls = RX7 ∧ yX7_resize.cls ≠ "java/lang/invoke/MethodHandle" ∧ yX7_resize.cls ≠ "java/lang/invoke/VarHandle" ∧ (parseMethodDescriptor yX7_resize.desc).map (fun d => d.parameters.length) = some 1 := by decide +kernel
set_option maxHeartbeats 4000000 in
set_option maxRecDepth 100000 in
/-- Row.copy -/
theorem c_X7_copy (l : Launch) (D : va_G) (cy : Nat → ClassId) (S : pS) (sz : Nat) (h b N n o c1 N2 on : Nat) (g og : Nat → Nat) (hL_h : h ∈ S.1) (hf_h : S.2 h = .inr (7, [.ref b, .int (nI n)])) (hL_b : b ∈ S.1) (hf_b : S.2 b = aN (cy 0) N g) (hL_o : o ∈ S.1) (hf_o : S.2 o = .inr (7, [.ref c1, .int (nI on)])) (hL_c1 : c1 ∈ S.1) (hf_c1 : S.2 c1 = aN (cy 0) N2 og) (hN : N < 2 ^ 27) (hn : n ≤ N) (hN2 : N2 < 2 ^ 27) (hon : on ≤ N2) (hne : c1 ≠ b) (hno : o ≠ h) : Met l yX7_copy wsX7_copy ({ frames := 2, cells := 0, slots := 0, locals := 42 }) (pPc D cy S sz [.ref h, .ref o]) (pQv D cy S sz (fun S' => S' = pup (pup S h (.inr (7, [.ref b, .int (nI (min on N))]))) b (aN (cy 0) N (rcop g og on (min on N))))) 0 0 (pA S sz) := by
  refine Met.ofW (cc := cX7_copy) (maxL := 3) (ret := none) (by decide) rfl ?_
  intro p e s m args below meth c s₁ B hml hv
  obtain ⟨rfl, rfl, C, hw, hA, hr, hlocks⟩ := p_start B hml hv
  have hx := C.1
  have hb := C.2.1
  have hl := lv_entry ([.ref h, .ref o]) (n := 3) (Nat.le_of_ble_eq_true rfl)
  rw [lg_entry_eq]
  generalize (lg_sl ([.ref h, .ref o]) ++ List.replicate (3 - (lg_sl ([.ref h, .ref o])).length) Slot.unset).toArray = ls at hl ⊢
  have hl : lv_has ls 3 [(0, .ref h), (1, .ref o)] := hl
  have hin_RX7 : ∀ w ∈ u_ws RX7 TX7 2, w ∈ wsX7_copy := by decide +kernel
  refine lv_aload_n hx hb dX7_copy_0 rfl (lv_at hl 0 rfl) ?_
  refine lv_aload_n hx hb dX7_copy_1 rfl (lv_at hl 1 rfl) ?_
  refine p_calli (va_runV (As := []) (rest := [.ref h]) C.fix (c_X7_size l D cy S s.heap.size o c1 on hL_o hf_o) (cwV 0 C.2.2.2.2.1 gX7_copy_X7_size rfl rfl rfl hdV_yX7_size_RX7 ⟨Nat.le_of_ble_eq_true rfl, Nat.le_of_ble_eq_true rfl⟩) (p_preV C hw hL_o hf_o rfl) rfl rfl hl.1 rfl (lv_room (Nat.le_of_ble_eq_true rfl)) dX7_copy_2 ⟨Nat.le_of_ble_eq_true rfl, Nat.le_of_ble_eq_true rfl⟩) hw hA (fun r2 S1 H locs hpost hw => ?_)
  obtain ⟨hr_, hS_⟩ := hpost
  subst hr_
  subst hS_
  refine p_callv (va_runV (As := [.int (nI on)]) (rest := []) C.fix (c_X7_resize l D cy S H.size h b N n on g hL_h hf_h hL_b hf_b hN (by omega)) (cwV 1 C.2.2.2.2.1 gX7_copy_X7_resize rfl rfl rfl hdV_yX7_resize_RX7 ⟨Nat.le_of_ble_eq_true rfl, Nat.le_of_ble_eq_true rfl⟩) (p_preV C hw hL_h hf_h rfl) rfl rfl hl.1 rfl (lv_room (Nat.le_of_ble_eq_true rfl)) dX7_copy_5 ⟨Nat.le_of_ble_eq_true rfl, Nat.le_of_ble_eq_true rfl⟩) hw hA (fun S3 H locs hpost hw => ?_)
  have hpost0 : S3 = _ := hpost
  have hL5 : h ∈ S3.1 := by rw [hpost]; exact hL_h
  have hf6 : S3.2 h = .inr (7, [.ref b, .int (nI (min on N))]) := by rw [hpost]; exact pup_s
  have hL7 : b ∈ S3.1 := by rw [hpost]; exact hL_b
  have hf8 : S3.2 b = aN (cy 0) N g := by rw [hpost]; exact (pup_n (ne_cells hf_b hf_h (by nofun))).trans hf_b
  have hL9 : o ∈ S3.1 := by rw [hpost]; exact hL_o
  have hf10 : S3.2 o = .inr (7, [.ref c1, .int (nI on)]) := by rw [hpost]; exact (pup_n (by first | assumption | exact Ne.symm (by assumption))).trans hf_o
  have hL11 : c1 ∈ S3.1 := by rw [hpost]; exact hL_c1
  have hf12 : S3.2 c1 = aN (cy 0) N2 og := by rw [hpost]; exact (pup_n (ne_cells hf_c1 hf_h (by nofun))).trans hf_c1
  refine lv_iconst (v := nI 0) hx hb dX7_copy_8 (by decide) ?_
  refine lv_istore_n (lv' := [(2, .int (nI 0)), (0, .ref h), (1, .ref o)]) hx hb dX7_copy_9 rfl hl (by decide) rfl (fun ls hl => ?_)
  have loop10 : ∀ (kf : Nat) (i : Nat), (min on N) - i < kf → ∀ (S1 : pS), ∀ (H : Heap) (locs : List Loc) (ls : Array Slot), (h ∈ S1.1) → (S1.2 h = .inr (7, [.ref b, .int (nI (min on N))])) → (b ∈ S1.1) → (S1.2 b = aN (cy 0) N (rcop g og on i)) → (o ∈ S1.1) → (S1.2 o = .inr (7, [.ref c1, .int (nI on)])) → (c1 ∈ S1.1) → (S1.2 c1 = aN (cy 0) N2 og) → (i ≤ (min on N)) → (S1 = pup (pup S h (.inr (7, [.ref b, .int (nI (min on N))]))) b (aN (cy 0) N (rcop g og on i))) → pW D (pA S s.heap.size) s.heap S1 H locs → lv_has ls 3 [(2, .int (nI i)), (0, .ref h), (1, .ref o)] → W p l e (headSpec wsX7_copy ({ frames := 2, cells := 0, slots := 0, locals := 42 } : Room)).room s m ([.ref h, .ref o]).toArray below meth c H locs 0 0 (MQ below (pQv D cy S s.heap.size (fun S' => S' = pup (pup S h (.inr (7, [.ref b, .int (nI (min on N))]))) b (aN (cy 0) N (rcop g og on (min on N))))) ([.ref h, .ref o]).toArray s 0 0 (pA S s.heap.size)) (F0 m 10 ls []) := by
    intro kf
    induction kf with
    | zero => intro i hm; exact absurd hm (Nat.not_lt_zero _)
    | succ kf ih10 =>
      intro i hm S1 H locs ls hL13 hf14 hL15 hf16 hL17 hf18 hL19 hf20 hi hS1 hw hl
      refine lv_iload_n hx hb dX7_copy_10 rfl (lv_at hl 0 rfl) ?_
      refine lv_aload_n hx hb dX7_copy_11 rfl (lv_at hl 1 rfl) ?_
      refine p_get C hw (ci := 7) (Cn := RX7) (T := TX7) (N := 2) hL13 hf14 rfl hin_RX7 1 (by decide) (List.mem_of_getElem? (i := 1) rfl) rfl rfl dX7_copy_12 ?_
      refine n_icmp_ge (tgt := 34) hx hb (by omega) (by omega) dX7_copy_15 (by decide) (fun h_15 => ?_) (fun h_15 => ?_)
      · skip
        exact p_vret C hw (by rw [hS1, show min on N = i from by omega]) hr hlocks dX7_copy_34
      · skip
        refine lv_aload_n hx hb dX7_copy_18 rfl (lv_at hl 1 rfl) ?_
        refine lv_iload_n hx hb dX7_copy_19 rfl (lv_at hl 0 rfl) ?_
        refine lv_aload_n hx hb dX7_copy_20 rfl (lv_at hl 2 rfl) ?_
        refine lv_iload_n hx hb dX7_copy_21 rfl (lv_at hl 0 rfl) ?_
        refine p_calli (va_runV (As := [.int (nI i)]) (rest := [.int (nI i), .ref h]) C.fix (c_X7_get l D cy S1 H.size o c1 N2 on i og hL17 hf18 hL19 hf20 hN2 hon (by omega)) (cwV 1 C.2.2.2.2.1 gX7_copy_X7_get rfl rfl rfl hdV_yX7_get_RX7 ⟨Nat.le_of_ble_eq_true rfl, Nat.le_of_ble_eq_true rfl⟩) (p_preV C hw hL17 hf18 rfl) rfl rfl hl.1 rfl (lv_room (Nat.le_of_ble_eq_true rfl)) dX7_copy_22 ⟨Nat.le_of_ble_eq_true rfl, Nat.le_of_ble_eq_true rfl⟩) hw hA (fun r22 S21 H locs hpost hw => ?_)
        obtain ⟨hr_, hS_⟩ := hpost
        subst hr_
        subst hS_
        refine p_callv (va_runV (As := [.int (nI i), .int (nI (rg og on i))]) (rest := []) C.fix (c_X7_put l D cy S1 H.size h b N (min on N) i (rg og on i) (rcop g og on i) hL13 hf14 hL15 hf16 hN (by omega) (by omega)) (cwV 2 C.2.2.2.2.1 gX7_copy_X7_put rfl rfl rfl hdV_yX7_put_RX7 ⟨Nat.le_of_ble_eq_true rfl, Nat.le_of_ble_eq_true rfl⟩) (p_preV C hw hL13 hf14 rfl) rfl rfl hl.1 rfl (lv_room (Nat.le_of_ble_eq_true rfl)) dX7_copy_25 ⟨Nat.le_of_ble_eq_true rfl, Nat.le_of_ble_eq_true rfl⟩) hw hA (fun S23 H locs hpost hw => ?_)
        have hL25 : h ∈ S23.1 := by rw [hpost]; exact hL13
        have hf26 : S23.2 h = .inr (7, [.ref b, .int (nI (min on N))]) := by rw [hpost]; exact (pup_n (ne_cells hf14 hf16 (by nofun))).trans hf14
        have hL27 : b ∈ S23.1 := by rw [hpost]; exact hL15
        have hf28 : S23.2 b = aN (cy 0) N (rput (rcop g og on i) (min on N) i (rg og on i)) := by rw [hpost]; exact pup_s
        have hL29 : o ∈ S23.1 := by rw [hpost]; exact hL17
        have hf30 : S23.2 o = .inr (7, [.ref c1, .int (nI on)]) := by rw [hpost]; exact (pup_n (ne_cells hf18 hf16 (by nofun))).trans hf18
        have hL31 : c1 ∈ S23.1 := by rw [hpost]; exact hL19
        have hf32 : S23.2 c1 = aN (cy 0) N2 og := by rw [hpost]; exact (pup_n (by first | assumption | exact Ne.symm (by assumption))).trans hf20
        refine lv_iinc (v := (nI (i + 1))) (lv' := [(2, .int (nI (i + 1))), (0, .ref h), (1, .ref o)]) hx hb dX7_copy_28 hl (k := 0) rfl (by rw [show Int32.ofInt 1 = nI 1 from by decide, nI_add]) (by decide) rfl (fun ls hl => ?_)
        refine lv_goto (tgt := 10) hx hb dX7_copy_31 (by decide) ?_
        exact ih10 (i + 1) (by omega) S23 H locs ls hL25 hf26 hL27 (by rw [hpost, rcop_s (by omega)]; exact pup_s) hL29 hf30 hL31 hf32 (by omega) (by rw [hpost, hS1, pup_pup, rcop_s (by omega)]) hw (lv_sub hl [0, 1, 2] rfl)
  exact loop10 ((min on N) - 0 + 1) 0 (by omega) S3 H locs ls hL5 hf6 hL7 (by rw [rcop_0]; assumption) hL9 hf10 hL11 hf12 (Nat.zero_le _) (by rw [rcop_0, hpost0]; exact (pup_self ((pup_n (ne_cells hf_b hf_h (by nofun))).trans hf_b)).symm) hw (lv_sub hl [0, 1, 2] rfl)

