theorem two_pow_16 {k : Nat} (h : k ≤ 16) : 2 ^ k ≤ 65536 := by
  have := Nat.pow_le_pow_right (n := 2) (by decide) h
  simpa using this
def fitsB (x : Int32) (k : Nat) : Bool := decide (¬ x < 0 ∧ ¬ nI (1 * 2 ^ k) ≤ x)
theorem fitsB_nI {a k : Nat} (hk : k ≤ 16) (ha : a < 2 ^ 31) : fitsB (nI a) k = decide (a < 2 ^ k) := by
  have h1 := two_pow_16 hk
  unfold fitsB
  rw [Nat.one_mul]
  by_cases h : a < 2 ^ k
  · rw [decide_eq_true h, decide_eq_true_iff]
    exact ⟨nI_pos ha, nI_ge h (by omega)⟩
  · rw [decide_eq_false h, decide_eq_false_iff_not]
    rintro ⟨-, h2⟩
    exact h2 ((nI_leI (by omega) ha).mpr (Nat.le_of_not_lt h))
def blk (n e : Nat) : Nat := (n + e - 1) / e
theorem blk_0 {n e : Nat} (h : n = 0 ∨ e = 0) : blk n e = 0 := by
  unfold blk
  rcases h with rfl | rfl
  · rcases Nat.eq_zero_or_pos e with rfl | h
    · rfl
    · exact Nat.div_eq_of_lt (by omega)
  · exact Nat.div_zero _
/-- bursts, as far as the place k -/
def rburst (g : Nat → Nat) (n a b c k : Nat) : Nat → Nat := fun q => if a ≤ q ∧ q < k ∧ q < n ∧ 0 < c ∧ (q - a) % c < b ∧ g q ≠ 2 then 1 - g q else g q
theorem rburst_0 {g : Nat → Nat} {n a b c : Nat} : rburst g n a b c a = g := by
  funext q; unfold rburst; rw [if_neg (by omega)]
theorem rburst_le {g : Nat → Nat} {n a b c k : Nat} (hg : ∀ q, g q ≤ 2) : ∀ q, rburst g n a b c k q ≤ 2 := by
  intro q; unfold rburst; split
  · omega
  · exact hg q
theorem rburst_skip {g : Nat → Nat} {n a b c i : Nat} (h : ¬ (0 < c ∧ (i - a) % c < b)) : rburst g n a b c (i + 1) = rburst g n a b c i := by
  funext q; unfold rburst
  by_cases hq : q = i
  · subst hq
    rw [if_neg (fun z => h ⟨z.2.2.2.1, z.2.2.2.2.1⟩), if_neg (by omega)]
  · have : q < i + 1 ↔ q < i := by omega
    simp [this]
theorem rburst_turn {g : Nat → Nat} {n a b c i : Nat} (hi : i < n) (ha : a ≤ i) (h1 : 0 < c) (h2 : (i - a) % c < b) : rturn (rburst g n a b c i) n i = rburst g n a b c (i + 1) := by
  funext q
  have e : rburst g n a b c i i = g i := by simp [rburst]
  unfold rturn
  rw [e]
  by_cases hq : q = i
  · subst hq
    by_cases h3 : g q = 2
    · simp [rburst, h3]
    · simp [rburst, hi, ha, h1, h2, h3]
  · have : q < i + 1 ↔ q < i := by omega
    simp [rburst, hq, this]
/-- the numbers that noise goes by -/
def rnd (s : Nat) : Nat → Nat
  | 0 => s
  | k + 1 => (rnd s k * 1103515245 + 12345) % 2147483648
theorem rnd_lt {s : Nat} (h : s < 2 ^ 31) : ∀ k, rnd s k < 2 ^ 31
  | 0 => h
  | k + 1 => Nat.mod_lt _ (by decide)
def hit (p s q : Nat) : Bool := decide (rnd s (q + 1) / 65536 % 1000 < p)
def rscat (g : Nat → Nat) (n k p s m : Nat) : Nat → Nat := fun q => if q < m ∧ q < n ∧ hit p s q = true then (if k = 3 then 2 else if g q = 2 then 2 else 1 - g q) else g q
theorem rscat_0 {g : Nat → Nat} {n k p s : Nat} : rscat g n k p s 0 = g := by
  funext q; unfold rscat; rw [if_neg (by omega)]
theorem rscat_le {g : Nat → Nat} {n k p s m : Nat} (hg : ∀ q, g q ≤ 2) : ∀ q, rscat g n k p s m q ≤ 2 := by
  intro q; unfold rscat; have := hg q; split
  · split
    · omega
    · split <;> omega
  · exact hg q
theorem rscat_skip {g : Nat → Nat} {n k p s i : Nat} (h : p ≤ rnd s (i + 1) / 65536 % 1000) : rscat g n k p s (i + 1) = rscat g n k p s i := by
  funext q; unfold rscat
  by_cases hq : q = i
  · subst hq
    have : hit p s q = false := by unfold hit; exact decide_eq_false (by omega)
    simp [this]
  · have : q < i + 1 ↔ q < i := by omega
    simp [this]
theorem rscat_lost {g : Nat → Nat} {n p s i : Nat} (hi : i < n) (h : rnd s (i + 1) / 65536 % 1000 < p) : rput (rscat g n 3 p s i) n i 2 = rscat g n 3 p s (i + 1) := by
  funext q
  by_cases hq : q = i
  · subst hq
    have : hit p s q = true := by unfold hit; exact decide_eq_true h
    simp [rput, rscat, hi, this]
  · have : q < i + 1 ↔ q < i := by omega
    simp [rput, rscat, hq, this]
theorem rscat_turn {g : Nat → Nat} {n k p s i : Nat} (hk : k ≠ 3) (hi : i < n) (h : rnd s (i + 1) / 65536 % 1000 < p) : rturn (rscat g n k p s i) n i = rscat g n k p s (i + 1) := by
  funext q
  have e : rscat g n k p s i i = g i := by simp [rscat]
  unfold rturn
  rw [e]
  by_cases hq : q = i
  · subst hq
    have h2 : hit p s q = true := by unfold hit; exact decide_eq_true h
    by_cases h3 : g q = 2
    · simp [rscat, h3]
    · simp [rscat, hi, h2, h3, hk]
  · have : q < i + 1 ↔ q < i := by omega
    simp [rscat, hq, this]
/-- what the channel of kind k makes of a row -/
def rharm (g : Nat → Nat) (n k a b c : Nat) : Nat → Nat := if k = 2 then rburst g n a b c n else if k = 1 ∨ k = 3 then rscat g n k a b n else g
theorem rharm_le {g : Nat → Nat} {n k a b c : Nat} (hg : ∀ q, g q ≤ 2) : ∀ q, rharm g n k a b c q ≤ 2 := by
  unfold rharm; split
  · exact rburst_le hg
  · split
    · exact rscat_le hg
    · exact hg
theorem rburst_end {g : Nat → Nat} {n a b c i : Nat} (h : n ≤ i) : rburst g n a b c i = rburst g n a b c n := by
  funext q; unfold rburst
  have : (q < i ∧ q < n) ↔ (q < n ∧ q < n) := by omega
  by_cases h1 : a ≤ q ∧ q < n ∧ 0 < c ∧ (q - a) % c < b ∧ g q ≠ 2
  · rw [if_pos ⟨h1.1, by omega, h1.2.1, h1.2.2⟩, if_pos ⟨h1.1, h1.2.1, h1.2.1, h1.2.2⟩]
  · rw [if_neg (fun z => h1 ⟨z.1, z.2.2.1, z.2.2.2⟩), if_neg (fun z => h1 ⟨z.1, z.2.2.1, z.2.2.2⟩)]
/-- the lattice's rows -/
def lsta (g : Nat → Nat) (st far k : Nat) : Nat → Nat := fun q => if q < k then (if q = st then far else 1000000) else g q
theorem lsta_0 {g : Nat → Nat} {st far : Nat} : lsta g st far 0 = g := by funext q; simp [lsta]
theorem lsta_s {g : Nat → Nat} {st far i v : Nat} (h : v = if i = st then far else 1000000) : nup (lsta g st far i) i v = lsta g st far (i + 1) := by
  funext q
  by_cases hq : q = i
  · subst hq; simp [nup, lsta, h]
  · have : q < i + 1 ↔ q < i := by omega
    simp [nup, lsta, hq, this]
def lcop (g x : Nat → Nat) (k : Nat) : Nat → Nat := fun q => if q < k then x q else g q
theorem lcop_0 {g x : Nat → Nat} : lcop g x 0 = g := by funext q; simp [lcop]
theorem lcop_s {g x : Nat → Nat} {i : Nat} : nup (lcop g x i) i (x i) = lcop g x (i + 1) := by
  funext q
  by_cases hq : q = i
  · subst hq; simp [nup, lcop]
  · have : q < i + 1 ↔ q < i := by omega
    simp [nup, lcop, hq, this]

set_option maxHeartbeats 4000000 in
set_option maxRecDepth 100000 in
/-- SoundingLine.fits -/
theorem c_X11_fits (l : Launch) (D : va_G) (cy : Nat → ClassId) (S : pS) (sz : Nat) (x : Int32) (k : Nat)  (hk : k ≤ 16) : Met l yX11_fits wsX11_fits ({ frames := 0, cells := 0, slots := 0, locals := 0 }) (pPc D cy S sz [.int x, .int (nI k)]) (pQi D cy S sz (fun r S' => r = nI (if fitsB x k = true then 1 else 0) ∧ S = S')) 0 0 (pA S sz) := by
  refine Met.ofW (cc := cX11_fits) (maxL := 2) (ret := (some .boolean)) (by decide) rfl ?_
  intro p e s m args below meth c s₁ B hml hv
  obtain ⟨rfl, rfl, C, hw, hA, hr, hlocks⟩ := p_start B hml hv
  have hx := C.1
  have hb := C.2.1
  have hl := lv_entry ([.int x, .int (nI k)]) (n := 2) (Nat.le_of_ble_eq_true rfl)
  rw [lg_entry_eq]
  generalize (lg_sl ([.int x, .int (nI k)]) ++ List.replicate (2 - (lg_sl ([.int x, .int (nI k)])).length) Slot.unset).toArray = ls at hl ⊢
  have hl : lv_has ls 2 [(0, .int x), (1, .int (nI k))] := hl
  refine lv_iload_n hx hb dX11_fits_0 rfl (lv_at hl 0 rfl) ?_
  refine lv_if_lt (tgt := 25) hx hb dX11_fits_1 (by decide) (fun h_1 => ?_) (fun h_1 => ?_)
  · skip
    refine lv_iconst (v := nI 0) hx hb dX11_fits_25 (by decide) ?_
    exact p_zret C hw ⟨by unfold fitsB; simp only [decide_eq_true_eq]; split <;> first | rfl | simp_all, rfl⟩ hr rfl hlocks dX11_fits_26
  · skip
    refine lv_iload_n hx hb dX11_fits_4 rfl (lv_at hl 1 rfl) ?_
    refine n_if_lt (tgt := 25) hx hb (by omega) dX11_fits_5 (by decide) ?_
    refine lv_iload_n hx hb dX11_fits_8 rfl (lv_at hl 1 rfl) ?_
    refine lv_bipush (v := nI 31) hx hb dX11_fits_9 (by decide) ?_
    refine n_icmp_ge (tgt := 25) hx hb (by omega) (by omega) dX11_fits_11 (by decide) (fun h_11 => ?_) (fun h_11 => ?_)
    · exact absurd h_11 (by omega)
    · skip
      refine lv_iload_n hx hb dX11_fits_14 rfl (lv_at hl 0 rfl) ?_
      refine lv_iconst (v := nI 1) hx hb dX11_fits_15 (by decide) ?_
      refine lv_iload_n hx hb dX11_fits_16 rfl (lv_at hl 1 rfl) ?_
      refine n_ishl hx hb (by omega) (by have := two_pow_16 hk; omega) dX11_fits_17 ?_
      refine lv_icmp_ge (tgt := 25) hx hb dX11_fits_18 (by decide) (fun h_18 => ?_) (fun h_18 => ?_)
      · skip
        refine lv_iconst (v := nI 0) hx hb dX11_fits_25 (by decide) ?_
        exact p_zret C hw ⟨by unfold fitsB; simp only [decide_eq_true_eq]; split <;> first | rfl | simp_all, rfl⟩ hr rfl hlocks dX11_fits_26
      · skip
        refine lv_iconst (v := nI 1) hx hb dX11_fits_21 (by decide) ?_
        refine lv_goto (tgt := 26) hx hb dX11_fits_22 (by decide) ?_
        exact p_zret C hw ⟨by unfold fitsB; simp only [decide_eq_true_eq]; split <;> first | rfl | simp_all, rfl⟩ hr rfl hlocks dX11_fits_26

set_option maxHeartbeats 4000000 in
set_option maxRecDepth 100000 in
/-- SoundingLine.blocksOf -/
theorem c_X11_blocksOf (l : Launch) (D : va_G) (cy : Nat → ClassId) (S : pS) (sz : Nat) (n e1 : Nat)  (hn : n < 2 ^ 30) (he : e1 < 2 ^ 30) : Met l yX11_blocksOf wsX11_blocksOf ({ frames := 0, cells := 0, slots := 0, locals := 0 }) (pPc D cy S sz [.int (nI n), .int (nI e1)]) (pQi D cy S sz (fun r S' => r = nI (blk n e1) ∧ S = S')) 0 0 (pA S sz) := by
  refine Met.ofW (cc := cX11_blocksOf) (maxL := 2) (ret := (some .int)) (by decide) rfl ?_
  intro p e s m args below meth c s₁ B hml hv
  obtain ⟨rfl, rfl, C, hw, hA, hr, hlocks⟩ := p_start B hml hv
  have hx := C.1
  have hb := C.2.1
  have hl := lv_entry ([.int (nI n), .int (nI e1)]) (n := 2) (Nat.le_of_ble_eq_true rfl)
  rw [lg_entry_eq]
  generalize (lg_sl ([.int (nI n), .int (nI e1)]) ++ List.replicate (2 - (lg_sl ([.int (nI n), .int (nI e1)])).length) Slot.unset).toArray = ls at hl ⊢
  have hl : lv_has ls 2 [(0, .int (nI n)), (1, .int (nI e1))] := hl
  refine lv_iload_n hx hb dX11_blocksOf_0 rfl (lv_at hl 0 rfl) ?_
  refine n_if_le (tgt := 8) hx hb (by omega) dX11_blocksOf_1 (by decide) (fun h_1 => ?_) (fun h_1 => ?_)
  · skip
    refine lv_iconst (v := nI 0) hx hb dX11_blocksOf_8 (by decide) ?_
    refine lv_goto (tgt := 19) hx hb dX11_blocksOf_9 (by decide) ?_
    exact p_iret C hw ⟨by first | rfl | rw [blk_0 (by omega)], rfl⟩ hr hlocks dX11_blocksOf_19
  · skip
    refine lv_iload_n hx hb dX11_blocksOf_4 rfl (lv_at hl 1 rfl) ?_
    refine n_if_gt (tgt := 12) hx hb (by omega) dX11_blocksOf_5 (by decide) (fun h_5 => ?_) (fun h_5 => ?_)
    · skip
      refine lv_iload_n hx hb dX11_blocksOf_12 rfl (lv_at hl 0 rfl) ?_
      refine lv_iload_n hx hb dX11_blocksOf_13 rfl (lv_at hl 1 rfl) ?_
      refine n_iadd hx hb dX11_blocksOf_14 ?_
      refine lv_iconst (v := nI 1) hx hb dX11_blocksOf_15 (by decide) ?_
      refine n_isub hx hb (by omega) dX11_blocksOf_16 ?_
      refine lv_iload_n hx hb dX11_blocksOf_17 rfl (lv_at hl 1 rfl) ?_
      refine n_idiv hx hb (by omega) (by omega) (by omega) dX11_blocksOf_18 ?_
      exact p_iret C hw ⟨by first | rfl | rw [blk_0 (by omega)], rfl⟩ hr hlocks dX11_blocksOf_19
    · skip
      refine lv_iconst (v := nI 0) hx hb dX11_blocksOf_8 (by decide) ?_
      refine lv_goto (tgt := 19) hx hb dX11_blocksOf_9 (by decide) ?_
      exact p_iret C hw ⟨by first | rfl | rw [blk_0 (by omega)], rfl⟩ hr hlocks dX11_blocksOf_19

set_option maxHeartbeats 4000000 in
set_option maxRecDepth 100000 in
/-- SoundingLine.at -/
theorem c_X11_at (l : Launch) (D : va_G) (cy : Nat → ClassId) (S : pS) (sz : Nat) (t N j : Nat) (g : Nat → Nat) (hL_t : t ∈ S.1) (hf_t : S.2 t = aN (cy 0) N g) (hN : N < 2 ^ 27) (hj : j < 2 ^ 31) : Met l yX11_at wsX11_at ({ frames := 0, cells := 0, slots := 0, locals := 0 }) (pPc D cy S sz [.ref t, .int (nI j)]) (pQi D cy S sz (fun r S' => r = nI (rg g N j) ∧ S = S')) 0 0 (pA S sz) := by
  refine Met.ofW (cc := cX11_at) (maxL := 2) (ret := (some .int)) (by decide) rfl ?_
  intro p e s m args below meth c s₁ B hml hv
  obtain ⟨rfl, rfl, C, hw, hA, hr, hlocks⟩ := p_start B hml hv
  have hx := C.1
  have hb := C.2.1
  have hl := lv_entry ([.ref t, .int (nI j)]) (n := 2) (Nat.le_of_ble_eq_true rfl)
  rw [lg_entry_eq]
  generalize (lg_sl ([.ref t, .int (nI j)]) ++ List.replicate (2 - (lg_sl ([.ref t, .int (nI j)])).length) Slot.unset).toArray = ls at hl ⊢
  have hl : lv_has ls 2 [(0, .ref t), (1, .int (nI j))] := hl
  refine lv_aload_n hx hb dX11_at_0 rfl (lv_at hl 0 rfl) ?_
  refine lv_ifnull hx hb dX11_at_1 ?_
  refine lv_iload_n hx hb dX11_at_4 rfl (lv_at hl 1 rfl) ?_
  refine n_if_lt (tgt := 14) hx hb (by omega) dX11_at_5 (by decide) ?_
  refine lv_iload_n hx hb dX11_at_8 rfl (lv_at hl 1 rfl) ?_
  refine lv_aload_n hx hb dX11_at_9 rfl (lv_at hl 0 rfl) ?_
  refine n_len C hw 0 rfl hL_t hf_t (n := N) rfl dX11_at_10 ?_
  refine n_icmp_lt (tgt := 18) hx hb (by omega) (by omega) dX11_at_11 (by decide) (fun h_11 => ?_) (fun h_11 => ?_)
  · skip
    refine lv_aload_n hx hb dX11_at_18 rfl (lv_at hl 0 rfl) ?_
    refine lv_iload_n hx hb dX11_at_19 rfl (lv_at hl 1 rfl) ?_
    refine n_ald C hw 0 rfl hL_t hf_t (by omega) (by omega) dX11_at_20 ?_
    exact p_iret C hw ⟨by first | rw [rg_in (by omega)] | rw [rg_out (by omega)], rfl⟩ hr hlocks dX11_at_21
  · skip
    refine lv_iconst (v := nI 0) hx hb dX11_at_14 (by decide) ?_
    refine lv_goto (tgt := 21) hx hb dX11_at_15 (by decide) ?_
    exact p_iret C hw ⟨by first | rw [rg_in (by omega)] | rw [rg_out (by omega)], rfl⟩ hr hlocks dX11_at_21

set_option maxHeartbeats 4000000 in
set_option maxRecDepth 100000 in
/-- Levels.at -/
theorem c_X4_at (l : Launch) (D : va_G) (cy : Nat → ClassId) (S : pS) (sz : Nat) (h la nn j q : Nat) (rq : Nat → Option Nat) (hL_h : h ∈ S.1) (hf_h : S.2 h = .inr (4, [.ref la, .ref nn])) (hL_la : la ∈ S.1) (hf_la : S.2 la = aQ (cy 2) 5 rq) (hj : j < 5) (hq : rq j = some q) : Met l yX4_at wsX4_at ({ frames := 0, cells := 0, slots := 0, locals := 0 }) (pPc D cy S sz [.ref h, .int (nI j)]) (pQq D cy S sz (fun r S' => r = some q ∧ S = S')) 0 0 (pA S sz) := by
  refine Met.ofW (cc := cX4_at) (maxL := 3) (ret := (some (.object "SoundingLine$Row"))) (by decide) rfl ?_
  intro p e s m args below meth c s₁ B hml hv
  obtain ⟨rfl, rfl, C, hw, hA, hr, hlocks⟩ := p_start B hml hv
  have hx := C.1
  have hb := C.2.1
  have hl := lv_entry ([.ref h, .int (nI j)]) (n := 3) (Nat.le_of_ble_eq_true rfl)
  rw [lg_entry_eq]
  generalize (lg_sl ([.ref h, .int (nI j)]) ++ List.replicate (3 - (lg_sl ([.ref h, .int (nI j)])).length) Slot.unset).toArray = ls at hl ⊢
  have hl : lv_has ls 3 [(0, .ref h), (1, .int (nI j))] := hl
  have hin_RX4 : ∀ w ∈ u_ws RX4 TX4 2, w ∈ wsX4_at := by decide +kernel
  refine lv_iload_n hx hb dX4_at_0 rfl (lv_at hl 1 rfl) ?_
  refine n_if_lt (tgt := 13) hx hb (by omega) dX4_at_1 (by decide) ?_
  refine lv_iload_n hx hb dX4_at_4 rfl (lv_at hl 1 rfl) ?_
  refine lv_aload_n hx hb dX4_at_5 rfl (lv_at hl 0 rfl) ?_
  refine p_get C hw (ci := 4) (Cn := RX4) (T := TX4) (N := 2) hL_h hf_h rfl hin_RX4 0 (by decide) (List.mem_of_getElem? (i := 1) rfl) rfl rfl dX4_at_6 ?_
  refine n_len C hw 2 rfl hL_la hf_la (n := 5) rfl dX4_at_9 ?_
  refine n_icmp_lt (tgt := 18) hx hb (by omega) (by omega) dX4_at_10 (by decide) (fun h_10 => ?_) (fun h_10 => ?_)
  · skip
    refine lv_aload_n hx hb dX4_at_18 rfl (lv_at hl 0 rfl) ?_
    refine p_get C hw (ci := 4) (Cn := RX4) (T := TX4) (N := 2) hL_h hf_h rfl hin_RX4 0 (by decide) (List.mem_of_getElem? (i := 1) rfl) rfl rfl dX4_at_19 ?_
    refine lv_iload_n hx hb dX4_at_22 rfl (lv_at hl 1 rfl) ?_
    refine p_aldq C hw 2 rfl hL_la hf_la (by omega) (by omega) (r := some q) hq dX4_at_23 ?_
    refine lv_astore_n (lv' := [(2, .ref q), (0, .ref h), (1, .int (nI j))]) hx hb dX4_at_24 rfl hl (by decide) rfl (fun ls hl => ?_)
    refine lv_aload_n hx hb dX4_at_25 rfl (lv_at hl 0 rfl) ?_
    refine lv_ifnonnull (tgt := 36) hx hb dX4_at_26 (by decide) ?_
    refine lv_aload_n hx hb dX4_at_36 rfl (lv_at hl 0 rfl) ?_
    exact p_qret C hw (v := some q) ⟨rfl, rfl⟩ hr (Or.inl ⟨_, rfl⟩) hlocks dX4_at_37
  · omega

set_option maxHeartbeats 4000000 in
set_option maxRecDepth 100000 in
/-- Line.kind -/
theorem c_X5_kind (l : Launch) (D : va_G) (cy : Nat → ClassId) (S : pS) (sz : Nat) (h k : Nat) (fa fb fc : Int32) (hL_h : h ∈ S.1) (hf_h : S.2 h = .inr (5, [.int (nI k), .int fa, .int fb, .int fc]))  : Met l yX5_kind wsX5_kind ({ frames := 0, cells := 0, slots := 0, locals := 0 }) (pPc D cy S sz [.ref h]) (pQi D cy S sz (fun r S' => r = nI k ∧ S = S')) 0 0 (pA S sz) := by
  refine Met.ofW (cc := cX5_kind) (maxL := 1) (ret := (some .int)) (by decide) rfl ?_
  intro p e s m args below meth c s₁ B hml hv
  obtain ⟨rfl, rfl, C, hw, hA, hr, hlocks⟩ := p_start B hml hv
  have hx := C.1
  have hb := C.2.1
  have hl := lv_entry ([.ref h]) (n := 1) (Nat.le_of_ble_eq_true rfl)
  rw [lg_entry_eq]
  generalize (lg_sl ([.ref h]) ++ List.replicate (1 - (lg_sl ([.ref h])).length) Slot.unset).toArray = ls at hl ⊢
  have hl : lv_has ls 1 [(0, .ref h)] := hl
  have hin_RX5 : ∀ w ∈ u_ws RX5 TX5 4, w ∈ wsX5_kind := by decide +kernel
  refine lv_aload_n hx hb dX5_kind_0 rfl (lv_at hl 0 rfl) ?_
  refine p_get C hw (ci := 5) (Cn := RX5) (T := TX5) (N := 4) hL_h hf_h rfl hin_RX5 0 (by decide) (List.mem_of_getElem? (i := 1) rfl) rfl rfl dX5_kind_1 ?_
  exact p_iret C hw ⟨rfl, rfl⟩ hr hlocks dX5_kind_4

set_option maxHeartbeats 4000000 in
set_option maxRecDepth 100000 in
/-- Line.become -/
theorem c_X5_become (l : Launch) (D : va_G) (cy : Nat → ClassId) (S : pS) (sz : Nat) (h k : Nat) (fa fb fc : Int32) (k2 : Nat) (a2 b2 c2 : Int32) (hL_h : h ∈ S.1) (hf_h : S.2 h = .inr (5, [.int (nI k), .int fa, .int fb, .int fc]))  : Met l yX5_become wsX5_become ({ frames := 0, cells := 0, slots := 0, locals := 0 }) (pPc D cy S sz [.ref h, .int (nI k2), .int a2, .int b2, .int c2]) (pQv D cy S sz (fun S' => S' = pup S h (.inr (5, [.int (nI k2), .int a2, .int b2, .int c2])))) 0 0 (pA S sz) := by
  refine Met.ofW (cc := cX5_become) (maxL := 5) (ret := none) (by decide) rfl ?_
  intro p e s m args below meth c s₁ B hml hv
  obtain ⟨rfl, rfl, C, hw, hA, hr, hlocks⟩ := p_start B hml hv
  have hx := C.1
  have hb := C.2.1
  have hl := lv_entry ([.ref h, .int (nI k2), .int a2, .int b2, .int c2]) (n := 5) (Nat.le_of_ble_eq_true rfl)
  rw [lg_entry_eq]
  generalize (lg_sl ([.ref h, .int (nI k2), .int a2, .int b2, .int c2]) ++ List.replicate (5 - (lg_sl ([.ref h, .int (nI k2), .int a2, .int b2, .int c2])).length) Slot.unset).toArray = ls at hl ⊢
  have hl : lv_has ls 5 [(0, .ref h), (1, .int (nI k2)), (2, .int a2), (3, .int b2), (4, .int c2)] := hl
  have hin_RX5 : ∀ w ∈ u_ws RX5 TX5 4, w ∈ wsX5_become := by decide +kernel
  refine lv_aload_n hx hb dX5_become_0 rfl (lv_at hl 0 rfl) ?_
  refine lv_iload_n hx hb dX5_become_1 rfl (lv_at hl 1 rfl) ?_
  refine p_put C hw (ci := 5) (Cn := RX5) (T := TX5) (N := 4) tyX5 tyX5_ok nmX5 hL_h hf_h rfl hin_RX5 0 (by decide) (List.mem_of_getElem? (i := 1) rfl) rfl rfl rfl rfl rfl (by simp) dX5_become_2 rfl (fun H locs hw => ?_)
  obtain ⟨S1, hS1⟩ : ∃ z, z = pup S h (.inr (5, [.int (nI k2), .int fa, .int fb, .int fc])) := ⟨_, rfl⟩
  replace hw : pW D (pA S s.heap.size) s.heap S1 H locs := by rw [hS1]; exact hw
  have hL2 : h ∈ S1.1 := by rw [hS1]; exact hL_h
  have hf3 : S1.2 h = .inr (5, [.int (nI k2), .int fa, .int fb, .int fc]) := by rw [hS1]; exact pup_s
  refine lv_aload_n hx hb dX5_become_5 rfl (lv_at hl 0 rfl) ?_
  refine lv_iload_n hx hb dX5_become_6 rfl (lv_at hl 2 rfl) ?_
  refine p_put C hw (ci := 5) (Cn := RX5) (T := TX5) (N := 4) tyX5 tyX5_ok nmX5 hL2 hf3 rfl hin_RX5 1 (by decide) (List.mem_of_getElem? (i := 2) rfl) rfl rfl rfl rfl rfl (by simp) dX5_become_7 rfl (fun H locs hw => ?_)
  obtain ⟨S4, hS4⟩ : ∃ z, z = pup S1 h (.inr (5, [.int (nI k2), .int a2, .int fb, .int fc])) := ⟨_, rfl⟩
  replace hw : pW D (pA S s.heap.size) s.heap S4 H locs := by rw [hS4]; exact hw
  have hL5 : h ∈ S4.1 := by rw [hS4]; exact hL2
  have hf6 : S4.2 h = .inr (5, [.int (nI k2), .int a2, .int fb, .int fc]) := by rw [hS4]; exact pup_s
  refine lv_aload_n hx hb dX5_become_10 rfl (lv_at hl 0 rfl) ?_
  refine lv_iload_n hx hb dX5_become_11 rfl (lv_at hl 3 rfl) ?_
  refine p_put C hw (ci := 5) (Cn := RX5) (T := TX5) (N := 4) tyX5 tyX5_ok nmX5 hL5 hf6 rfl hin_RX5 2 (by decide) (List.mem_of_getElem? (i := 3) rfl) rfl rfl rfl rfl rfl (by simp) dX5_become_12 rfl (fun H locs hw => ?_)
  obtain ⟨S7, hS7⟩ : ∃ z, z = pup S4 h (.inr (5, [.int (nI k2), .int a2, .int b2, .int fc])) := ⟨_, rfl⟩
  replace hw : pW D (pA S s.heap.size) s.heap S7 H locs := by rw [hS7]; exact hw
  have hL8 : h ∈ S7.1 := by rw [hS7]; exact hL5
  have hf9 : S7.2 h = .inr (5, [.int (nI k2), .int a2, .int b2, .int fc]) := by rw [hS7]; exact pup_s
  refine lv_aload_n hx hb dX5_become_15 rfl (lv_at hl 0 rfl) ?_
  refine lv_iload hx hb dX5_become_16 (lv_at hl 4 rfl) ?_
  refine p_put C hw (ci := 5) (Cn := RX5) (T := TX5) (N := 4) tyX5 tyX5_ok nmX5 hL8 hf9 rfl hin_RX5 3 (by decide) (List.mem_of_getElem? (i := 4) rfl) rfl rfl rfl rfl rfl (by simp) dX5_become_18 rfl (fun H locs hw => ?_)
  obtain ⟨S10, hS10⟩ : ∃ z, z = pup S7 h (.inr (5, [.int (nI k2), .int a2, .int b2, .int c2])) := ⟨_, rfl⟩
  replace hw : pW D (pA S s.heap.size) s.heap S10 H locs := by rw [hS10]; exact hw
  have hL11 : h ∈ S10.1 := by rw [hS10]; exact hL8
  have hf12 : S10.2 h = .inr (5, [.int (nI k2), .int a2, .int b2, .int c2]) := by rw [hS10]; exact pup_s
  exact p_vret C hw (by rw [hS10, hS7, hS4, hS1]; simp only [pup_pup]) hr hlocks dX5_become_21

set_option maxHeartbeats 4000000 in
set_option maxRecDepth 100000 in
/-- Line.burst -/
theorem c_X5_burst (l : Launch) (D : va_G) (cy : Nat → ClassId) (S : pS) (sz : Nat) (h k fa fb fc o c1 N n : Nat) (g : Nat → Nat) (hL_h : h ∈ S.1) (hf_h : S.2 h = .inr (5, [.int (nI k), .int (nI fa), .int (nI fb), .int (nI fc)])) (hL_o : o ∈ S.1) (hf_o : S.2 o = .inr (7, [.ref c1, .int (nI n)])) (hL_c1 : c1 ∈ S.1) (hf_c1 : S.2 c1 = aN (cy 0) N g) (hN : N < 2 ^ 27) (hn : n ≤ N) (hg : ∀ q, g q ≤ 2) (ha : fa < 2 ^ 30) (hbb : fb < 2 ^ 30) (hc : fc < 2 ^ 30) : Met l yX5_burst wsX5_burst ({ frames := 2, cells := 0, slots := 0, locals := 43 }) (pPc D cy S sz [.ref h, .ref o]) (pQv D cy S sz (fun S' => S' = pup S c1 (aN (cy 0) N (rburst g n fa fb fc n)))) 0 0 (pA S sz) := by
  refine Met.ofW (cc := cX5_burst) (maxL := 3) (ret := none) (by decide) rfl ?_
  intro p e s m args below meth c s₁ B hml hv
  obtain ⟨rfl, rfl, C, hw, hA, hr, hlocks⟩ := p_start B hml hv
  have hx := C.1
  have hb := C.2.1
  have hl := lv_entry ([.ref h, .ref o]) (n := 3) (Nat.le_of_ble_eq_true rfl)
  rw [lg_entry_eq]
  generalize (lg_sl ([.ref h, .ref o]) ++ List.replicate (3 - (lg_sl ([.ref h, .ref o])).length) Slot.unset).toArray = ls at hl ⊢
  have hl : lv_has ls 3 [(0, .ref h), (1, .ref o)] := hl
  have hin_RX5 : ∀ w ∈ u_ws RX5 TX5 4, w ∈ wsX5_burst := by decide +kernel
  refine lv_iconst (v := nI 0) hx hb dX5_burst_0 (by decide) ?_
  refine lv_aload_n hx hb dX5_burst_1 rfl (lv_at hl 0 rfl) ?_
  refine p_get C hw (ci := 5) (Cn := RX5) (T := TX5) (N := 4) hL_h hf_h rfl hin_RX5 1 (by decide) (List.mem_of_getElem? (i := 1) rfl) rfl rfl dX5_burst_2 ?_
  refine n_mmax C hl.1.symm (index := 31) (List.mem_of_getElem? (i := 2) rfl) (List.mem_of_getElem? (i := 3) rfl) (List.mem_of_getElem? (i := 4) rfl) (List.mem_of_getElem? (i := 5) rfl) (Nat.le_of_ble_eq_true rfl) (Nat.le_of_ble_eq_true rfl) (Nat.le_of_ble_eq_true rfl) (Nat.le_of_ble_eq_true rfl) (by omega) (by omega) dX5_burst_5 ?_
  refine n_ren (b := fa) (by omega) ?_
  refine lv_istore_n (lv' := [(2, .int (nI fa)), (0, .ref h), (1, .ref o)]) hx hb dX5_burst_8 rfl hl (by decide) rfl (fun ls hl => ?_)
  have loop9 : ∀ (kf : Nat) (i : Nat), n - i < kf → ∀ (S1 : pS), ∀ (H : Heap) (locs : List Loc) (ls : Array Slot), (h ∈ S1.1) → (S1.2 h = .inr (5, [.int (nI k), .int (nI fa), .int (nI fb), .int (nI fc)])) → (o ∈ S1.1) → (S1.2 o = .inr (7, [.ref c1, .int (nI n)])) → (c1 ∈ S1.1) → (S1.2 c1 = aN (cy 0) N (rburst g n fa fb fc i)) → (fa ≤ i) → (i ≤ fa + n) → (S1 = pup S c1 (aN (cy 0) N (rburst g n fa fb fc i))) → pW D (pA S s.heap.size) s.heap S1 H locs → lv_has ls 3 [(2, .int (nI i)), (0, .ref h), (1, .ref o)] → W p l e (headSpec wsX5_burst ({ frames := 2, cells := 0, slots := 0, locals := 43 } : Room)).room s m ([.ref h, .ref o]).toArray below meth c H locs 0 0 (MQ below (pQv D cy S s.heap.size (fun S' => S' = pup S c1 (aN (cy 0) N (rburst g n fa fb fc n)))) ([.ref h, .ref o]).toArray s 0 0 (pA S s.heap.size)) (F0 m 9 ls []) := by
    intro kf
    induction kf with
    | zero => intro i hm; exact absurd hm (Nat.not_lt_zero _)
    | succ kf ih9 =>
      intro i hm S1 H locs ls hL1 hf2 hL3 hf4 hL5 hf6 hi hi2 hS1 hw hl
      refine lv_iload_n hx hb dX5_burst_9 rfl (lv_at hl 0 rfl) ?_
      refine lv_aload_n hx hb dX5_burst_10 rfl (lv_at hl 2 rfl) ?_
      refine p_calli (va_runV (As := []) (rest := [.int (nI i)]) C.fix (c_X7_size l D cy S1 H.size o c1 n hL3 hf4) (cwV 0 C.2.2.2.2.1 gX5_burst_X7_size rfl rfl rfl hdV_yX7_size_RX7 ⟨Nat.le_of_ble_eq_true rfl, Nat.le_of_ble_eq_true rfl⟩) (p_preV C hw hL3 hf4 rfl) rfl rfl hl.1 rfl (lv_room (Nat.le_of_ble_eq_true rfl)) dX5_burst_11 ⟨Nat.le_of_ble_eq_true rfl, Nat.le_of_ble_eq_true rfl⟩) hw hA (fun r8 S7 H locs hpost hw => ?_)
      obtain ⟨hr_, hS_⟩ := hpost
      subst hr_
      subst hS_
      refine n_icmp_ge (tgt := 53) hx hb (by omega) (by omega) dX5_burst_14 (by decide) (fun h_14 => ?_) (fun h_14 => ?_)
      · skip
        exact p_vret C hw (by rw [hS1, rburst_end (by omega)]) hr hlocks dX5_burst_53
      · skip
        refine lv_aload_n hx hb dX5_burst_17 rfl (lv_at hl 1 rfl) ?_
        refine p_get C hw (ci := 5) (Cn := RX5) (T := TX5) (N := 4) hL1 hf2 rfl hin_RX5 3 (by decide) (List.mem_of_getElem? (i := 6) rfl) rfl rfl dX5_burst_18 ?_
        refine n_if_le (tgt := 47) hx hb (by omega) dX5_burst_21 (by decide) (fun h_21 => ?_) (fun h_21 => ?_)
        · skip
          refine lv_iinc (v := (nI (i + 1))) (lv' := [(2, .int (nI (i + 1))), (0, .ref h), (1, .ref o)]) hx hb dX5_burst_47 hl (k := 0) rfl (by rw [show Int32.ofInt 1 = nI 1 from by decide, nI_add]) (by decide) rfl (fun ls hl => ?_)
          refine lv_goto (tgt := 9) hx hb dX5_burst_50 (by decide) ?_
          exact ih9 (i + 1) (by omega) S1 H locs ls hL1 hf2 hL3 hf4 hL5 (by first | rw [rburst_skip (by omega)]; assumption | (rw [hpost, rburst_turn (by omega) (by omega) (by omega) h_39]; exact pup_s)) (by omega) (by omega) (by first | rw [hS1, rburst_skip (by omega)] | rw [hpost, hS1, pup_pup, rburst_turn (by omega) (by omega) (by omega) h_39]) hw (lv_sub hl [0, 1, 2] rfl)
        · skip
          refine lv_iload_n hx hb dX5_burst_24 rfl (lv_at hl 0 rfl) ?_
          refine lv_aload_n hx hb dX5_burst_25 rfl (lv_at hl 1 rfl) ?_
          refine p_get C hw (ci := 5) (Cn := RX5) (T := TX5) (N := 4) hL1 hf2 rfl hin_RX5 1 (by decide) (List.mem_of_getElem? (i := 1) rfl) rfl rfl dX5_burst_26 ?_
          refine n_isub hx hb (by omega) dX5_burst_29 ?_
          refine lv_aload_n hx hb dX5_burst_30 rfl (lv_at hl 1 rfl) ?_
          refine p_get C hw (ci := 5) (Cn := RX5) (T := TX5) (N := 4) hL1 hf2 rfl hin_RX5 3 (by decide) (List.mem_of_getElem? (i := 6) rfl) rfl rfl dX5_burst_31 ?_
          refine n_irem hx hb (by omega) (by omega) (by omega) dX5_burst_34 ?_
          refine lv_aload_n hx hb dX5_burst_35 rfl (lv_at hl 1 rfl) ?_
          refine p_get C hw (ci := 5) (Cn := RX5) (T := TX5) (N := 4) hL1 hf2 rfl hin_RX5 2 (by decide) (List.mem_of_getElem? (i := 7) rfl) rfl rfl dX5_burst_36 ?_
          refine n_icmp_ge (tgt := 47) hx hb (by have := Nat.mod_lt (i - fa) h_21; omega) (by omega) dX5_burst_39 (by decide) (fun h_39 => ?_) (fun h_39 => ?_)
          · skip
            refine lv_iinc (v := (nI (i + 1))) (lv' := [(2, .int (nI (i + 1))), (0, .ref h), (1, .ref o)]) hx hb dX5_burst_47 hl (k := 0) rfl (by rw [show Int32.ofInt 1 = nI 1 from by decide, nI_add]) (by decide) rfl (fun ls hl => ?_)
            refine lv_goto (tgt := 9) hx hb dX5_burst_50 (by decide) ?_
            exact ih9 (i + 1) (by omega) S1 H locs ls hL1 hf2 hL3 hf4 hL5 (by first | rw [rburst_skip (by omega)]; assumption | (rw [hpost, rburst_turn (by omega) (by omega) (by omega) h_39]; exact pup_s)) (by omega) (by omega) (by first | rw [hS1, rburst_skip (by omega)] | rw [hpost, hS1, pup_pup, rburst_turn (by omega) (by omega) (by omega) h_39]) hw (lv_sub hl [0, 1, 2] rfl)
          · skip
            refine lv_aload_n hx hb dX5_burst_42 rfl (lv_at hl 2 rfl) ?_
            refine lv_iload_n hx hb dX5_burst_43 rfl (lv_at hl 0 rfl) ?_
            refine p_callv (va_runV (As := [.int (nI i)]) (rest := []) C.fix (c_X7_turn l D cy S1 H.size o c1 N n i (rburst g n fa fb fc i) hL3 hf4 hL5 hf6 hN hn (by omega) (rburst_le hg)) (cwV 1 C.2.2.2.2.1 gX5_burst_X7_turn rfl rfl rfl hdV_yX7_turn_RX7 ⟨Nat.le_of_ble_eq_true rfl, Nat.le_of_ble_eq_true rfl⟩) (p_preV C hw hL3 hf4 rfl) rfl rfl hl.1 rfl (lv_room (Nat.le_of_ble_eq_true rfl)) dX5_burst_44 ⟨Nat.le_of_ble_eq_true rfl, Nat.le_of_ble_eq_true rfl⟩) hw hA (fun S9 H locs hpost hw => ?_)
            have hL11 : h ∈ S9.1 := by rw [hpost]; exact hL1
            have hf12 : S9.2 h = .inr (5, [.int (nI k), .int (nI fa), .int (nI fb), .int (nI fc)]) := by rw [hpost]; exact (pup_n (ne_cells hf2 hf6 (by nofun))).trans hf2
            have hL13 : o ∈ S9.1 := by rw [hpost]; exact hL3
            have hf14 : S9.2 o = .inr (7, [.ref c1, .int (nI n)]) := by rw [hpost]; exact (pup_n (ne_cells hf4 hf6 (by nofun))).trans hf4
            have hL15 : c1 ∈ S9.1 := by rw [hpost]; exact hL5
            have hf16 : S9.2 c1 = aN (cy 0) N (rturn (rburst g n fa fb fc i) n i) := by rw [hpost]; exact pup_s
            refine lv_iinc (v := (nI (i + 1))) (lv' := [(2, .int (nI (i + 1))), (0, .ref h), (1, .ref o)]) hx hb dX5_burst_47 hl (k := 0) rfl (by rw [show Int32.ofInt 1 = nI 1 from by decide, nI_add]) (by decide) rfl (fun ls hl => ?_)
            refine lv_goto (tgt := 9) hx hb dX5_burst_50 (by decide) ?_
            exact ih9 (i + 1) (by omega) S9 H locs ls hL11 hf12 hL13 hf14 hL15 (by first | rw [rburst_skip (by omega)]; assumption | (rw [hpost, rburst_turn (by omega) (by omega) (by omega) h_39]; exact pup_s)) (by omega) (by omega) (by first | rw [hS1, rburst_skip (by omega)] | rw [hpost, hS1, pup_pup, rburst_turn (by omega) (by omega) (by omega) h_39]) hw (lv_sub hl [0, 1, 2] rfl)
  exact loop9 (n - fa + 1) fa (by omega) S s.heap [] ls hL_h hf_h hL_o hf_o hL_c1 (by rw [rburst_0]; exact hf_c1) (Nat.le_refl _) (by omega) (by rw [rburst_0]; exact (pup_self hf_c1).symm) hw (lv_sub hl [0, 1, 2] rfl)

set_option maxHeartbeats 4000000 in
set_option maxRecDepth 100000 in
/-- Line.scatter -/
theorem c_X5_scatter (l : Launch) (D : va_G) (cy : Nat → ClassId) (S : pS) (sz : Nat) (h k fa fb : Nat) (fc : Int32) (o c1 N n : Nat) (g : Nat → Nat) (hL_h : h ∈ S.1) (hf_h : S.2 h = .inr (5, [.int (nI k), .int (nI fa), .int (nI fb), .int fc])) (hL_o : o ∈ S.1) (hf_o : S.2 o = .inr (7, [.ref c1, .int (nI n)])) (hL_c1 : c1 ∈ S.1) (hf_c1 : S.2 c1 = aN (cy 0) N g) (hN : N < 2 ^ 27) (hn : n ≤ N) (hg : ∀ q, g q ≤ 2) (hk : k ≤ 3) (ha : fa < 2 ^ 30) (hbb : fb < 2 ^ 30) : Met l yX5_scatter wsX5_scatter ({ frames := 2, cells := 0, slots := 0, locals := 43 }) (pPc D cy S sz [.ref h, .ref o]) (pQv D cy S sz (fun S' => S' = pup S c1 (aN (cy 0) N (rscat g n k fa fb n)))) 0 0 (pA S sz) := by
  refine Met.ofW (cc := cX5_scatter) (maxL := 5) (ret := none) (by decide) rfl ?_
  intro p e s m args below meth c s₁ B hml hv
  obtain ⟨rfl, rfl, C, hw, hA, hr, hlocks⟩ := p_start B hml hv
  have hx := C.1
  have hb := C.2.1
  have hl := lv_entry ([.ref h, .ref o]) (n := 5) (Nat.le_of_ble_eq_true rfl)
  rw [lg_entry_eq]
  generalize (lg_sl ([.ref h, .ref o]) ++ List.replicate (5 - (lg_sl ([.ref h, .ref o])).length) Slot.unset).toArray = ls at hl ⊢
  have hl : lv_has ls 5 [(0, .ref h), (1, .ref o)] := hl
  have hin_RX5 : ∀ w ∈ u_ws RX5 TX5 4, w ∈ wsX5_scatter := by decide +kernel
  refine lv_aload_n hx hb dX5_scatter_0 rfl (lv_at hl 0 rfl) ?_
  refine p_get C hw (ci := 5) (Cn := RX5) (T := TX5) (N := 4) hL_h hf_h rfl hin_RX5 2 (by decide) (List.mem_of_getElem? (i := 1) rfl) rfl rfl dX5_scatter_1 ?_
  refine n_i2l hx hb (by omega) dX5_scatter_4 ?_
  refine lv_lstore_n (lv' := [(2, .long (lN fb)), (0, .ref h), (1, .ref o)]) hx hb dX5_scatter_5 rfl hl (by decide) rfl (fun ls hl => ?_)
  refine lv_iconst (v := nI 0) hx hb dX5_scatter_6 (by decide) ?_
  refine lv_istore (lv' := [(4, .int (nI 0)), (2, .long (lN fb)), (0, .ref h), (1, .ref o)]) hx hb dX5_scatter_7 hl (by decide) rfl (fun ls hl => ?_)
  have loop9 : ∀ (kf : Nat) (i : Nat), n - i < kf → ∀ (S1 : pS), ∀ (H : Heap) (locs : List Loc) (ls : Array Slot), (h ∈ S1.1) → (S1.2 h = .inr (5, [.int (nI k), .int (nI fa), .int (nI fb), .int fc])) → (o ∈ S1.1) → (S1.2 o = .inr (7, [.ref c1, .int (nI n)])) → (c1 ∈ S1.1) → (S1.2 c1 = aN (cy 0) N (rscat g n k fa fb i)) → (i ≤ n) → (S1 = pup S c1 (aN (cy 0) N (rscat g n k fa fb i))) → pW D (pA S s.heap.size) s.heap S1 H locs → lv_has ls 5 [(4, .int (nI i)), (2, .long (lN (rnd fb i))), (0, .ref h), (1, .ref o)] → W p l e (headSpec wsX5_scatter ({ frames := 2, cells := 0, slots := 0, locals := 43 } : Room)).room s m ([.ref h, .ref o]).toArray below meth c H locs 0 0 (MQ below (pQv D cy S s.heap.size (fun S' => S' = pup S c1 (aN (cy 0) N (rscat g n k fa fb n)))) ([.ref h, .ref o]).toArray s 0 0 (pA S s.heap.size)) (F0 m 9 ls []) := by
    intro kf
    induction kf with
    | zero => intro i hm; exact absurd hm (Nat.not_lt_zero _)
    | succ kf ih9 =>
      intro i hm S1 H locs ls hL1 hf2 hL3 hf4 hL5 hf6 hi hS1 hw hl
      have hrb := rnd_lt (s := fb) (by omega) i
      refine lv_iload hx hb dX5_scatter_9 (lv_at hl 0 rfl) ?_
      refine lv_aload_n hx hb dX5_scatter_11 rfl (lv_at hl 3 rfl) ?_
      refine p_calli (va_runV (As := []) (rest := [.int (nI i)]) C.fix (c_X7_size l D cy S1 H.size o c1 n hL3 hf4) (cwV 0 C.2.2.2.2.1 gX5_scatter_X7_size rfl rfl rfl hdV_yX7_size_RX7 ⟨Nat.le_of_ble_eq_true rfl, Nat.le_of_ble_eq_true rfl⟩) (p_preV C hw hL3 hf4 rfl) rfl rfl hl.1 rfl (lv_room (Nat.le_of_ble_eq_true rfl)) dX5_scatter_12 ⟨Nat.le_of_ble_eq_true rfl, Nat.le_of_ble_eq_true rfl⟩) hw hA (fun r8 S7 H locs hpost hw => ?_)
      obtain ⟨hr_, hS_⟩ := hpost
      subst hr_
      subst hS_
      refine n_icmp_ge (tgt := 80) hx hb (by omega) (by omega) dX5_scatter_15 (by decide) (fun h_15 => ?_) (fun h_15 => ?_)
      · skip
        exact p_vret C hw (by rw [hS1, show n = i from by omega]) hr hlocks dX5_scatter_80
      · skip
        refine lv_lload_n hx hb dX5_scatter_18 rfl (lv_at hl 1 rfl) ?_
        refine lv_ldc2 (v := lN 1103515245) hx hb C.2.2.2.1 (C.2.2.2.2.1 (.constantLong RX5 47 (1103515245)) (List.mem_of_getElem? (i := 2) rfl)) dX5_scatter_19 ?_
        refine n_lmul hx hb dX5_scatter_22 ?_
        refine lv_ldc2 (v := lN 12345) hx hb C.2.2.2.1 (C.2.2.2.2.1 (.constantLong RX5 49 (12345)) (List.mem_of_getElem? (i := 3) rfl)) dX5_scatter_23 ?_
        refine n_ladd hx hb dX5_scatter_26 ?_
        refine lv_ldc2 (v := lN 2147483648) hx hb C.2.2.2.1 (C.2.2.2.2.1 (.constantLong RX5 51 (2147483648)) (List.mem_of_getElem? (i := 4) rfl)) dX5_scatter_27 ?_
        refine n_lrem hx hb (by omega) (by omega) (by omega) dX5_scatter_30 ?_
        rw [show (rnd fb i * 1103515245 + 12345) % 2147483648 = rnd fb (i + 1) from rfl]
        refine lv_lstore_n (lv' := [(2, .long (lN (rnd fb (i + 1)))), (4, .int (nI i)), (0, .ref h), (1, .ref o)]) hx hb dX5_scatter_31 rfl hl (by decide) rfl (fun ls hl => ?_)
        refine lv_lload_n hx hb dX5_scatter_32 rfl (lv_at hl 0 rfl) ?_
        have hrb2 := rnd_lt (s := fb) (by omega) (i + 1)
        refine lv_ldc2 (v := lN 65536) hx hb C.2.2.2.1 (C.2.2.2.2.1 (.constantLong RX5 53 (65536)) (List.mem_of_getElem? (i := 5) rfl)) dX5_scatter_33 ?_
        refine n_ldiv hx hb (by omega) (by omega) (by omega) dX5_scatter_36 ?_
        refine lv_ldc2 (v := lN 1000) hx hb C.2.2.2.1 (C.2.2.2.2.1 (.constantLong RX5 55 (1000)) (List.mem_of_getElem? (i := 6) rfl)) dX5_scatter_37 ?_
        refine n_lrem hx hb (by omega) (by omega) (by omega) dX5_scatter_40 ?_
        refine lv_aload_n hx hb dX5_scatter_41 rfl (lv_at hl 2 rfl) ?_
        refine p_get C hw (ci := 5) (Cn := RX5) (T := TX5) (N := 4) hL1 hf2 rfl hin_RX5 1 (by decide) (List.mem_of_getElem? (i := 7) rfl) rfl rfl dX5_scatter_42 ?_
        refine n_i2l hx hb (by omega) dX5_scatter_45 ?_
        refine W.lcmp hx hb dX5_scatter_46 ?_
        refine lv_if_ge (tgt := 74) hx hb dX5_scatter_47 (by decide) (fun h_47 => ?_) (fun h_47 => ?_)
        · skip
          have hh : fa ≤ rnd fb (i + 1) / 65536 % 1000 := (pk_lLE (by omega) (by omega)).mp ((lg_cmp_ge _ _).mp h_47)
          refine lv_iinc (v := (nI (i + 1))) (lv' := [(4, .int (nI (i + 1))), (2, .long (lN (rnd fb (i + 1)))), (0, .ref h), (1, .ref o)]) hx hb dX5_scatter_74 hl (k := 1) rfl (by rw [show Int32.ofInt 1 = nI 1 from by decide, nI_add]) (by decide) rfl (fun ls hl => ?_)
          refine lv_goto (tgt := 9) hx hb dX5_scatter_77 (by decide) ?_
          exact ih9 (i + 1) (by omega) S1 H locs ls hL1 hf2 hL3 hf4 hL5 (by first | rw [rscat_skip hh]; assumption | (subst h_55; rw [hpost, rscat_lost (by omega) hh]; exact pup_s) | (rw [hpost, rscat_turn h_55 (by omega) hh]; exact pup_s)) (by omega) (by first | rw [hS1, rscat_skip hh] | (subst h_55; rw [hpost, hS1, pup_pup, rscat_lost (by omega) hh]) | rw [hpost, hS1, pup_pup, rscat_turn h_55 (by omega) hh]) hw (lv_sub hl [0, 1, 2, 3] rfl)
        · skip
          have hh : rnd fb (i + 1) / 65536 % 1000 < fa := Nat.lt_of_not_le (fun z => h_47 ((lg_cmp_ge _ _).mpr ((pk_lLE (by omega) (by omega)).mpr z)))
          refine lv_aload_n hx hb dX5_scatter_50 rfl (lv_at hl 2 rfl) ?_
          refine p_get C hw (ci := 5) (Cn := RX5) (T := TX5) (N := 4) hL1 hf2 rfl hin_RX5 0 (by decide) (List.mem_of_getElem? (i := 8) rfl) rfl rfl dX5_scatter_51 ?_
          refine lv_iconst (v := nI 3) hx hb dX5_scatter_54 (by decide) ?_
          refine n_icmp_ne (tgt := 68) hx hb (by omega) (by omega) dX5_scatter_55 (by decide) (fun h_55 => ?_) (fun h_55 => ?_)
          · skip
            refine lv_aload_n hx hb dX5_scatter_68 rfl (lv_at hl 3 rfl) ?_
            refine lv_iload hx hb dX5_scatter_69 (lv_at hl 1 rfl) ?_
            refine p_callv (va_runV (As := [.int (nI i)]) (rest := []) C.fix (c_X7_turn l D cy S1 H.size o c1 N n i (rscat g n k fa fb i) hL3 hf4 hL5 hf6 hN hn (by omega) (rscat_le hg)) (cwV 1 C.2.2.2.2.1 gX5_scatter_X7_turn rfl rfl rfl hdV_yX7_turn_RX7 ⟨Nat.le_of_ble_eq_true rfl, Nat.le_of_ble_eq_true rfl⟩) (p_preV C hw hL3 hf4 rfl) rfl rfl hl.1 rfl (lv_room (Nat.le_of_ble_eq_true rfl)) dX5_scatter_71 ⟨Nat.le_of_ble_eq_true rfl, Nat.le_of_ble_eq_true rfl⟩) hw hA (fun S9 H locs hpost hw => ?_)
            have hL11 : h ∈ S9.1 := by rw [hpost]; exact hL1
            have hf12 : S9.2 h = .inr (5, [.int (nI k), .int (nI fa), .int (nI fb), .int fc]) := by rw [hpost]; exact (pup_n (ne_cells hf2 hf6 (by nofun))).trans hf2
            have hL13 : o ∈ S9.1 := by rw [hpost]; exact hL3
            have hf14 : S9.2 o = .inr (7, [.ref c1, .int (nI n)]) := by rw [hpost]; exact (pup_n (ne_cells hf4 hf6 (by nofun))).trans hf4
            have hL15 : c1 ∈ S9.1 := by rw [hpost]; exact hL5
            have hf16 : S9.2 c1 = aN (cy 0) N (rturn (rscat g n k fa fb i) n i) := by rw [hpost]; exact pup_s
            refine lv_iinc (v := (nI (i + 1))) (lv' := [(4, .int (nI (i + 1))), (2, .long (lN (rnd fb (i + 1)))), (0, .ref h), (1, .ref o)]) hx hb dX5_scatter_74 hl (k := 1) rfl (by rw [show Int32.ofInt 1 = nI 1 from by decide, nI_add]) (by decide) rfl (fun ls hl => ?_)
            refine lv_goto (tgt := 9) hx hb dX5_scatter_77 (by decide) ?_
            exact ih9 (i + 1) (by omega) S9 H locs ls hL11 hf12 hL13 hf14 hL15 (by first | rw [rscat_skip hh]; assumption | (subst h_55; rw [hpost, rscat_lost (by omega) hh]; exact pup_s) | (rw [hpost, rscat_turn h_55 (by omega) hh]; exact pup_s)) (by omega) (by first | rw [hS1, rscat_skip hh] | (subst h_55; rw [hpost, hS1, pup_pup, rscat_lost (by omega) hh]) | rw [hpost, hS1, pup_pup, rscat_turn h_55 (by omega) hh]) hw (lv_sub hl [0, 1, 2, 3] rfl)
          · skip
            refine lv_aload_n hx hb dX5_scatter_58 rfl (lv_at hl 3 rfl) ?_
            refine lv_iload hx hb dX5_scatter_59 (lv_at hl 1 rfl) ?_
            refine lv_iconst (v := nI 2) hx hb dX5_scatter_61 (by decide) ?_
            refine p_callv (va_runV (As := [.int (nI i), .int (nI 2)]) (rest := []) C.fix (c_X7_put l D cy S1 H.size o c1 N n i 2 (rscat g n k fa fb i) hL3 hf4 hL5 hf6 hN hn (by omega)) (cwV 2 C.2.2.2.2.1 gX5_scatter_X7_put rfl rfl rfl hdV_yX7_put_RX7 ⟨Nat.le_of_ble_eq_true rfl, Nat.le_of_ble_eq_true rfl⟩) (p_preV C hw hL3 hf4 rfl) rfl rfl hl.1 rfl (lv_room (Nat.le_of_ble_eq_true rfl)) dX5_scatter_62 ⟨Nat.le_of_ble_eq_true rfl, Nat.le_of_ble_eq_true rfl⟩) hw hA (fun S17 H locs hpost hw => ?_)
            have hL19 : h ∈ S17.1 := by rw [hpost]; exact hL1
            have hf20 : S17.2 h = .inr (5, [.int (nI k), .int (nI fa), .int (nI fb), .int fc]) := by rw [hpost]; exact (pup_n (ne_cells hf2 hf6 (by nofun))).trans hf2
            have hL21 : o ∈ S17.1 := by rw [hpost]; exact hL3
            have hf22 : S17.2 o = .inr (7, [.ref c1, .int (nI n)]) := by rw [hpost]; exact (pup_n (ne_cells hf4 hf6 (by nofun))).trans hf4
            have hL23 : c1 ∈ S17.1 := by rw [hpost]; exact hL5
            have hf24 : S17.2 c1 = aN (cy 0) N (rput (rscat g n k fa fb i) n i 2) := by rw [hpost]; exact pup_s
            refine lv_goto (tgt := 74) hx hb dX5_scatter_65 (by decide) ?_
            refine lv_iinc (v := (nI (i + 1))) (lv' := [(4, .int (nI (i + 1))), (2, .long (lN (rnd fb (i + 1)))), (0, .ref h), (1, .ref o)]) hx hb dX5_scatter_74 hl (k := 1) rfl (by rw [show Int32.ofInt 1 = nI 1 from by decide, nI_add]) (by decide) rfl (fun ls hl => ?_)
            refine lv_goto (tgt := 9) hx hb dX5_scatter_77 (by decide) ?_
            exact ih9 (i + 1) (by omega) S17 H locs ls hL19 hf20 hL21 hf22 hL23 (by first | rw [rscat_skip hh]; assumption | (subst h_55; rw [hpost, rscat_lost (by omega) hh]; exact pup_s) | (rw [hpost, rscat_turn h_55 (by omega) hh]; exact pup_s)) (by omega) (by first | rw [hS1, rscat_skip hh] | (subst h_55; rw [hpost, hS1, pup_pup, rscat_lost (by omega) hh]) | rw [hpost, hS1, pup_pup, rscat_turn h_55 (by omega) hh]) hw (lv_sub hl [0, 1, 2, 3] rfl)
  exact loop9 (n - 0 + 1) 0 (by omega) S s.heap [] ls hL_h hf_h hL_o hf_o hL_c1 (by rw [rscat_0]; exact hf_c1) (Nat.zero_le _) (by rw [rscat_0]; exact (pup_self hf_c1).symm) hw (lv_sub hl [0, 1, 2, 3] rfl)

set_option maxHeartbeats 4000000 in
set_option maxRecDepth 100000 in
/-- Lattice.startAt -/
theorem c_X3_startAt (l : Launch) (D : va_G) (cy : Nat → ClassId) (S : pS) (sz : Nat) (h lf lx lw st far : Nat) (fg : Nat → Nat) (hL_h : h ∈ S.1) (hf_h : S.2 h = .inr (3, [.ref lf, .ref lx, .ref lw])) (hL_lf : lf ∈ S.1) (hf_lf : S.2 lf = aN (cy 0) 16 fg) (hs : st < 2 ^ 31) : Met l yX3_startAt wsX3_startAt ({ frames := 0, cells := 0, slots := 0, locals := 0 }) (pPc D cy S sz [.ref h, .int (nI st), .int (nI far)]) (pQv D cy S sz (fun S' => S' = pup S lf (aN (cy 0) 16 (lsta fg st far 16)))) 0 0 (pA S sz) := by
  refine Met.ofW (cc := cX3_startAt) (maxL := 4) (ret := none) (by decide) rfl ?_
  intro p e s m args below meth c s₁ B hml hv
  obtain ⟨rfl, rfl, C, hw, hA, hr, hlocks⟩ := p_start B hml hv
  have hx := C.1
  have hb := C.2.1
  have hl := lv_entry ([.ref h, .int (nI st), .int (nI far)]) (n := 4) (Nat.le_of_ble_eq_true rfl)
  rw [lg_entry_eq]
  generalize (lg_sl ([.ref h, .int (nI st), .int (nI far)]) ++ List.replicate (4 - (lg_sl ([.ref h, .int (nI st), .int (nI far)])).length) Slot.unset).toArray = ls at hl ⊢
  have hl : lv_has ls 4 [(0, .ref h), (1, .int (nI st)), (2, .int (nI far))] := hl
  have hin_RX3 : ∀ w ∈ u_ws RX3 TX3 3, w ∈ wsX3_startAt := by decide +kernel
  refine lv_iconst (v := nI 0) hx hb dX3_startAt_0 (by decide) ?_
  refine lv_istore_n (lv' := [(3, .int (nI 0)), (0, .ref h), (1, .int (nI st)), (2, .int (nI far))]) hx hb dX3_startAt_1 rfl hl (by decide) rfl (fun ls hl => ?_)
  have loop2 : ∀ (kf : Nat) (i : Nat), 16 - i < kf → ∀ (S1 : pS), ∀ (H : Heap) (locs : List Loc) (ls : Array Slot), (h ∈ S1.1) → (S1.2 h = .inr (3, [.ref lf, .ref lx, .ref lw])) → (lf ∈ S1.1) → (S1.2 lf = aN (cy 0) 16 (lsta fg st far i)) → (i ≤ 16) → (S1 = pup S lf (aN (cy 0) 16 (lsta fg st far i))) → pW D (pA S s.heap.size) s.heap S1 H locs → lv_has ls 4 [(3, .int (nI i)), (0, .ref h), (1, .int (nI st)), (2, .int (nI far))] → W p l e (headSpec wsX3_startAt ({ frames := 0, cells := 0, slots := 0, locals := 0 } : Room)).room s m ([.ref h, .int (nI st), .int (nI far)]).toArray below meth c H locs 0 0 (MQ below (pQv D cy S s.heap.size (fun S' => S' = pup S lf (aN (cy 0) 16 (lsta fg st far 16)))) ([.ref h, .int (nI st), .int (nI far)]).toArray s 0 0 (pA S s.heap.size)) (F0 m 2 ls []) := by
    intro kf
    induction kf with
    | zero => intro i hm; exact absurd hm (Nat.not_lt_zero _)
    | succ kf ih2 =>
      intro i hm S1 H locs ls hL1 hf2 hL3 hf4 hi hS1 hw hl
      refine lv_iload_n hx hb dX3_startAt_2 rfl (lv_at hl 0 rfl) ?_
      refine lv_aload_n hx hb dX3_startAt_3 rfl (lv_at hl 1 rfl) ?_
      refine p_get C hw (ci := 3) (Cn := RX3) (T := TX3) (N := 3) hL1 hf2 rfl hin_RX3 0 (by decide) (List.mem_of_getElem? (i := 1) rfl) rfl rfl dX3_startAt_4 ?_
      refine n_len C hw 0 rfl hL3 hf4 (n := 16) rfl dX3_startAt_7 ?_
      refine n_icmp_ge (tgt := 34) hx hb (by omega) (by omega) dX3_startAt_8 (by decide) (fun h_8 => ?_) (fun h_8 => ?_)
      · skip
        exact p_vret C hw (by rw [hS1, show i = 16 from by omega]) hr hlocks dX3_startAt_34
      · skip
        refine lv_aload_n hx hb dX3_startAt_11 rfl (lv_at hl 1 rfl) ?_
        refine p_get C hw (ci := 3) (Cn := RX3) (T := TX3) (N := 3) hL1 hf2 rfl hin_RX3 0 (by decide) (List.mem_of_getElem? (i := 1) rfl) rfl rfl dX3_startAt_12 ?_
        refine lv_iload_n hx hb dX3_startAt_15 rfl (lv_at hl 0 rfl) ?_
        refine lv_iload_n hx hb dX3_startAt_16 rfl (lv_at hl 0 rfl) ?_
        refine lv_iload_n hx hb dX3_startAt_17 rfl (lv_at hl 2 rfl) ?_
        refine n_icmp_ne (tgt := 25) hx hb (by omega) (by omega) dX3_startAt_18 (by decide) (fun h_18 => ?_) (fun h_18 => ?_)
        · skip
          refine lv_ldc (v := nI 1000000) hx hb C.2.2.2.1 (C.2.2.2.2.1 (.constant RX3 21 (1000000)) (List.mem_of_getElem? (i := 2) rfl)) dX3_startAt_25 ?_
          refine n_ast C hw 0 rfl hL3 hf4 (by omega) (by omega) dX3_startAt_27 (fun H locs hw => ?_)
          obtain ⟨S5, hS5⟩ : ∃ z, z = pup S1 lf (aN (cy 0) 16 (nup (lsta fg st far i) i 1000000)) := ⟨_, rfl⟩
          replace hw : pW D (pA S s.heap.size) s.heap S5 H locs := by rw [hS5]; exact hw
          have hL6 : h ∈ S5.1 := by rw [hS5]; exact hL1
          have hf7 : S5.2 h = .inr (3, [.ref lf, .ref lx, .ref lw]) := by rw [hS5]; exact (pup_n (ne_cells hf2 hf4 (by nofun))).trans hf2
          have hL8 : lf ∈ S5.1 := by rw [hS5]; exact hL3
          have hf9 : S5.2 lf = aN (cy 0) 16 (nup (lsta fg st far i) i 1000000) := by rw [hS5]; exact pup_s
          refine lv_iinc (v := (nI (i + 1))) (lv' := [(3, .int (nI (i + 1))), (0, .ref h), (1, .int (nI st)), (2, .int (nI far))]) hx hb dX3_startAt_28 hl (k := 0) rfl (by rw [show Int32.ofInt 1 = nI 1 from by decide, nI_add]) (by decide) rfl (fun ls hl => ?_)
          refine lv_goto (tgt := 2) hx hb dX3_startAt_31 (by decide) ?_
          exact ih2 (i + 1) (by omega) S5 H locs ls hL6 hf7 hL8 (by rw [hS5]; first | (rw [lsta_s (by rw [if_neg h_18])]; exact pup_s) | (rw [lsta_s (by rw [if_pos h_18])]; exact pup_s)) (by omega) (by rw [hS5, hS1, pup_pup]; first | rw [lsta_s (by rw [if_neg h_18])] | rw [lsta_s (by rw [if_pos h_18])]) hw (lv_sub hl [0, 1, 2, 3] rfl)
        · skip
          refine lv_iload_n hx hb dX3_startAt_21 rfl (lv_at hl 3 rfl) ?_
          refine lv_goto (tgt := 27) hx hb dX3_startAt_22 (by decide) ?_
          refine n_ast C hw 0 rfl hL3 hf4 (by omega) (by omega) dX3_startAt_27 (fun H locs hw => ?_)
          obtain ⟨S10, hS10⟩ : ∃ z, z = pup S1 lf (aN (cy 0) 16 (nup (lsta fg st far i) i far)) := ⟨_, rfl⟩
          replace hw : pW D (pA S s.heap.size) s.heap S10 H locs := by rw [hS10]; exact hw
          have hL11 : h ∈ S10.1 := by rw [hS10]; exact hL1
          have hf12 : S10.2 h = .inr (3, [.ref lf, .ref lx, .ref lw]) := by rw [hS10]; exact (pup_n (ne_cells hf2 hf4 (by nofun))).trans hf2
          have hL13 : lf ∈ S10.1 := by rw [hS10]; exact hL3
          have hf14 : S10.2 lf = aN (cy 0) 16 (nup (lsta fg st far i) i far) := by rw [hS10]; exact pup_s
          refine lv_iinc (v := (nI (i + 1))) (lv' := [(3, .int (nI (i + 1))), (0, .ref h), (1, .int (nI st)), (2, .int (nI far))]) hx hb dX3_startAt_28 hl (k := 0) rfl (by rw [show Int32.ofInt 1 = nI 1 from by decide, nI_add]) (by decide) rfl (fun ls hl => ?_)
          refine lv_goto (tgt := 2) hx hb dX3_startAt_31 (by decide) ?_
          exact ih2 (i + 1) (by omega) S10 H locs ls hL11 hf12 hL13 (by rw [hS10]; first | (rw [lsta_s (by rw [if_neg h_18])]; exact pup_s) | (rw [lsta_s (by rw [if_pos h_18])]; exact pup_s)) (by omega) (by rw [hS10, hS1, pup_pup]; first | rw [lsta_s (by rw [if_neg h_18])] | rw [lsta_s (by rw [if_pos h_18])]) hw (lv_sub hl [0, 1, 2, 3] rfl)
  exact loop2 (16 - 0 + 1) 0 (by omega) S s.heap [] ls hL_h hf_h hL_lf (by rw [lsta_0]; exact hf_lf) (Nat.zero_le _) (by rw [lsta_0]; exact (pup_self hf_lf).symm) hw (lv_sub hl [0, 1, 2, 3] rfl)

set_option maxHeartbeats 4000000 in
set_option maxRecDepth 100000 in
/-- Lattice.farnessOf -/
theorem c_X3_farnessOf (l : Launch) (D : va_G) (cy : Nat → ClassId) (S : pS) (sz : Nat) (h lf lx lw j : Nat) (fg : Nat → Nat) (hL_h : h ∈ S.1) (hf_h : S.2 h = .inr (3, [.ref lf, .ref lx, .ref lw])) (hL_lf : lf ∈ S.1) (hf_lf : S.2 lf = aN (cy 0) 16 fg) (hj : j < 16) : Met l yX3_farnessOf wsX3_farnessOf ({ frames := 0, cells := 0, slots := 0, locals := 0 }) (pPc D cy S sz [.ref h, .int (nI j)]) (pQi D cy S sz (fun r S' => r = nI (fg j) ∧ S = S')) 0 0 (pA S sz) := by
  refine Met.ofW (cc := cX3_farnessOf) (maxL := 2) (ret := (some .int)) (by decide) rfl ?_
  intro p e s m args below meth c s₁ B hml hv
  obtain ⟨rfl, rfl, C, hw, hA, hr, hlocks⟩ := p_start B hml hv
  have hx := C.1
  have hb := C.2.1
  have hl := lv_entry ([.ref h, .int (nI j)]) (n := 2) (Nat.le_of_ble_eq_true rfl)
  rw [lg_entry_eq]
  generalize (lg_sl ([.ref h, .int (nI j)]) ++ List.replicate (2 - (lg_sl ([.ref h, .int (nI j)])).length) Slot.unset).toArray = ls at hl ⊢
  have hl : lv_has ls 2 [(0, .ref h), (1, .int (nI j))] := hl
  have hin_RX3 : ∀ w ∈ u_ws RX3 TX3 3, w ∈ wsX3_farnessOf := by decide +kernel
  refine lv_iload_n hx hb dX3_farnessOf_0 rfl (lv_at hl 1 rfl) ?_
  refine n_if_lt (tgt := 22) hx hb (by omega) dX3_farnessOf_1 (by decide) ?_
  refine lv_iload_n hx hb dX3_farnessOf_4 rfl (lv_at hl 1 rfl) ?_
  refine lv_aload_n hx hb dX3_farnessOf_5 rfl (lv_at hl 0 rfl) ?_
  refine p_get C hw (ci := 3) (Cn := RX3) (T := TX3) (N := 3) hL_h hf_h rfl hin_RX3 0 (by decide) (List.mem_of_getElem? (i := 1) rfl) rfl rfl dX3_farnessOf_6 ?_
  refine n_len C hw 0 rfl hL_lf hf_lf (n := 16) rfl dX3_farnessOf_9 ?_
  refine n_icmp_ge (tgt := 22) hx hb (by omega) (by omega) dX3_farnessOf_10 (by decide) (fun h_10 => ?_) (fun h_10 => ?_)
  · exact absurd h_10 (by omega)
  · skip
    refine lv_aload_n hx hb dX3_farnessOf_13 rfl (lv_at hl 0 rfl) ?_
    refine p_get C hw (ci := 3) (Cn := RX3) (T := TX3) (N := 3) hL_h hf_h rfl hin_RX3 0 (by decide) (List.mem_of_getElem? (i := 1) rfl) rfl rfl dX3_farnessOf_14 ?_
    refine lv_iload_n hx hb dX3_farnessOf_17 rfl (lv_at hl 1 rfl) ?_
    refine n_ald C hw 0 rfl hL_lf hf_lf (by omega) (by omega) dX3_farnessOf_18 ?_
    refine lv_goto (tgt := 24) hx hb dX3_farnessOf_19 (by decide) ?_
    exact p_iret C hw ⟨rfl, rfl⟩ hr hlocks dX3_farnessOf_24

set_option maxHeartbeats 4000000 in
set_option maxRecDepth 100000 in
/-- Lattice.forget -/
theorem c_X3_forget (l : Launch) (D : va_G) (cy : Nat → ClassId) (S : pS) (sz : Nat) (h lf lx lw j : Nat) (fg : Nat → Nat) (hL_h : h ∈ S.1) (hf_h : S.2 h = .inr (3, [.ref lf, .ref lx, .ref lw])) (hL_lf : lf ∈ S.1) (hf_lf : S.2 lf = aN (cy 0) 16 fg) (hj : j < 16) : Met l yX3_forget wsX3_forget ({ frames := 0, cells := 0, slots := 0, locals := 0 }) (pPc D cy S sz [.ref h, .int (nI j)]) (pQv D cy S sz (fun S' => S' = pup S lf (aN (cy 0) 16 (nup fg j 1000000)))) 0 0 (pA S sz) := by
  refine Met.ofW (cc := cX3_forget) (maxL := 2) (ret := none) (by decide) rfl ?_
  intro p e s m args below meth c s₁ B hml hv
  obtain ⟨rfl, rfl, C, hw, hA, hr, hlocks⟩ := p_start B hml hv
  have hx := C.1
  have hb := C.2.1
  have hl := lv_entry ([.ref h, .int (nI j)]) (n := 2) (Nat.le_of_ble_eq_true rfl)
  rw [lg_entry_eq]
  generalize (lg_sl ([.ref h, .int (nI j)]) ++ List.replicate (2 - (lg_sl ([.ref h, .int (nI j)])).length) Slot.unset).toArray = ls at hl ⊢
  have hl : lv_has ls 2 [(0, .ref h), (1, .int (nI j))] := hl
  have hin_RX3 : ∀ w ∈ u_ws RX3 TX3 3, w ∈ wsX3_forget := by decide +kernel
  refine lv_iload_n hx hb dX3_forget_0 rfl (lv_at hl 1 rfl) ?_
  refine n_if_lt (tgt := 21) hx hb (by omega) dX3_forget_1 (by decide) ?_
  refine lv_iload_n hx hb dX3_forget_4 rfl (lv_at hl 1 rfl) ?_
  refine lv_aload_n hx hb dX3_forget_5 rfl (lv_at hl 0 rfl) ?_
  refine p_get C hw (ci := 3) (Cn := RX3) (T := TX3) (N := 3) hL_h hf_h rfl hin_RX3 0 (by decide) (List.mem_of_getElem? (i := 1) rfl) rfl rfl dX3_forget_6 ?_
  refine n_len C hw 0 rfl hL_lf hf_lf (n := 16) rfl dX3_forget_9 ?_
  refine n_icmp_ge (tgt := 21) hx hb (by omega) (by omega) dX3_forget_10 (by decide) (fun h_10 => ?_) (fun h_10 => ?_)
  · exact absurd h_10 (by omega)
  · skip
    refine lv_aload_n hx hb dX3_forget_13 rfl (lv_at hl 0 rfl) ?_
    refine p_get C hw (ci := 3) (Cn := RX3) (T := TX3) (N := 3) hL_h hf_h rfl hin_RX3 0 (by decide) (List.mem_of_getElem? (i := 1) rfl) rfl rfl dX3_forget_14 ?_
    refine lv_iload_n hx hb dX3_forget_17 rfl (lv_at hl 1 rfl) ?_
    refine lv_ldc (v := nI 1000000) hx hb C.2.2.2.1 (C.2.2.2.2.1 (.constant RX3 21 (1000000)) (List.mem_of_getElem? (i := 2) rfl)) dX3_forget_18 ?_
    refine n_ast C hw 0 rfl hL_lf hf_lf (by omega) (by omega) dX3_forget_20 (fun H locs hw => ?_)
    obtain ⟨S1, hS1⟩ : ∃ z, z = pup S lf (aN (cy 0) 16 (nup fg j 1000000)) := ⟨_, rfl⟩
    replace hw : pW D (pA S s.heap.size) s.heap S1 H locs := by rw [hS1]; exact hw
    have hL2 : h ∈ S1.1 := by rw [hS1]; exact hL_h
    have hf3 : S1.2 h = .inr (3, [.ref lf, .ref lx, .ref lw]) := by rw [hS1]; exact (pup_n (ne_cells hf_h hf_lf (by nofun))).trans hf_h
    have hL4 : lf ∈ S1.1 := by rw [hS1]; exact hL_lf
    have hf5 : S1.2 lf = aN (cy 0) 16 (nup fg j 1000000) := by rw [hS1]; exact pup_s
    exact p_vret C hw (by assumption) hr hlocks dX3_forget_21

set_option maxHeartbeats 4000000 in
set_option maxRecDepth 100000 in
/-- Lattice.keepNext -/
theorem c_X3_keepNext (l : Launch) (D : va_G) (cy : Nat → ClassId) (S : pS) (sz : Nat) (h lf lx lw j v : Nat) (xg : Nat → Nat) (hL_h : h ∈ S.1) (hf_h : S.2 h = .inr (3, [.ref lf, .ref lx, .ref lw])) (hL_lx : lx ∈ S.1) (hf_lx : S.2 lx = aN (cy 0) 16 xg) (hj : j < 16) : Met l yX3_keepNext wsX3_keepNext ({ frames := 0, cells := 0, slots := 0, locals := 0 }) (pPc D cy S sz [.ref h, .int (nI j), .int (nI v)]) (pQv D cy S sz (fun S' => S' = pup S lx (aN (cy 0) 16 (nup xg j v)))) 0 0 (pA S sz) := by
  refine Met.ofW (cc := cX3_keepNext) (maxL := 3) (ret := none) (by decide) rfl ?_
  intro p e s m args below meth c s₁ B hml hv
  obtain ⟨rfl, rfl, C, hw, hA, hr, hlocks⟩ := p_start B hml hv
  have hx := C.1
  have hb := C.2.1
  have hl := lv_entry ([.ref h, .int (nI j), .int (nI v)]) (n := 3) (Nat.le_of_ble_eq_true rfl)
  rw [lg_entry_eq]
  generalize (lg_sl ([.ref h, .int (nI j), .int (nI v)]) ++ List.replicate (3 - (lg_sl ([.ref h, .int (nI j), .int (nI v)])).length) Slot.unset).toArray = ls at hl ⊢
  have hl : lv_has ls 3 [(0, .ref h), (1, .int (nI j)), (2, .int (nI v))] := hl
  have hin_RX3 : ∀ w ∈ u_ws RX3 TX3 3, w ∈ wsX3_keepNext := by decide +kernel
  refine lv_iload_n hx hb dX3_keepNext_0 rfl (lv_at hl 1 rfl) ?_
  refine n_if_lt (tgt := 20) hx hb (by omega) dX3_keepNext_1 (by decide) ?_
  refine lv_iload_n hx hb dX3_keepNext_4 rfl (lv_at hl 1 rfl) ?_
  refine lv_aload_n hx hb dX3_keepNext_5 rfl (lv_at hl 0 rfl) ?_
  refine p_get C hw (ci := 3) (Cn := RX3) (T := TX3) (N := 3) hL_h hf_h rfl hin_RX3 1 (by decide) (List.mem_of_getElem? (i := 1) rfl) rfl rfl dX3_keepNext_6 ?_
  refine n_len C hw 0 rfl hL_lx hf_lx (n := 16) rfl dX3_keepNext_9 ?_
  refine n_icmp_ge (tgt := 20) hx hb (by omega) (by omega) dX3_keepNext_10 (by decide) (fun h_10 => ?_) (fun h_10 => ?_)
  · exact absurd h_10 (by omega)
  · skip
    refine lv_aload_n hx hb dX3_keepNext_13 rfl (lv_at hl 0 rfl) ?_
    refine p_get C hw (ci := 3) (Cn := RX3) (T := TX3) (N := 3) hL_h hf_h rfl hin_RX3 1 (by decide) (List.mem_of_getElem? (i := 1) rfl) rfl rfl dX3_keepNext_14 ?_
    refine lv_iload_n hx hb dX3_keepNext_17 rfl (lv_at hl 1 rfl) ?_
    refine lv_iload_n hx hb dX3_keepNext_18 rfl (lv_at hl 2 rfl) ?_
    refine n_ast C hw 0 rfl hL_lx hf_lx (by omega) (by omega) dX3_keepNext_19 (fun H locs hw => ?_)
    obtain ⟨S1, hS1⟩ : ∃ z, z = pup S lx (aN (cy 0) 16 (nup xg j v)) := ⟨_, rfl⟩
    replace hw : pW D (pA S s.heap.size) s.heap S1 H locs := by rw [hS1]; exact hw
    have hL2 : h ∈ S1.1 := by rw [hS1]; exact hL_h
    have hf3 : S1.2 h = .inr (3, [.ref lf, .ref lx, .ref lw]) := by rw [hS1]; exact (pup_n (ne_cells hf_h hf_lx (by nofun))).trans hf_h
    have hL4 : lx ∈ S1.1 := by rw [hS1]; exact hL_lx
    have hf5 : S1.2 lx = aN (cy 0) 16 (nup xg j v) := by rw [hS1]; exact pup_s
    exact p_vret C hw (by assumption) hr hlocks dX3_keepNext_20

set_option maxHeartbeats 4000000 in
set_option maxRecDepth 100000 in
/-- Lattice.endStep -/
theorem c_X3_endStep (l : Launch) (D : va_G) (cy : Nat → ClassId) (S : pS) (sz : Nat) (h lf lx lw j w v : Nat) (fg xg wg : Nat → Nat) (hL_h : h ∈ S.1) (hf_h : S.2 h = .inr (3, [.ref lf, .ref lx, .ref lw])) (hL_lf : lf ∈ S.1) (hf_lf : S.2 lf = aN (cy 0) 16 fg) (hL_lx : lx ∈ S.1) (hf_lx : S.2 lx = aN (cy 0) 16 xg) (hL_lw : lw ∈ S.1) (hf_lw : S.2 lw = aN (cy 0) 320 wg) (hj : j < 320) (hw16 : w ≤ 16) (hne1 : lf ≠ lw) (hne2 : lx ≠ lw) (hne3 : lx ≠ lf) : Met l yX3_endStep wsX3_endStep ({ frames := 0, cells := 0, slots := 0, locals := 0 }) (pPc D cy S sz [.ref h, .int (nI j), .int (nI w), .int (nI v)]) (pQv D cy S sz (fun S' => S' = pup (pup S lw (aN (cy 0) 320 (nup wg j v))) lf (aN (cy 0) 16 (lcop fg xg w)))) 0 0 (pA S sz) := by
  refine Met.ofW (cc := cX3_endStep) (maxL := 5) (ret := none) (by decide) rfl ?_
  intro p e s m args below meth c s₁ B hml hv
  obtain ⟨rfl, rfl, C, hw, hA, hr, hlocks⟩ := p_start B hml hv
  have hx := C.1
  have hb := C.2.1
  have hl := lv_entry ([.ref h, .int (nI j), .int (nI w), .int (nI v)]) (n := 5) (Nat.le_of_ble_eq_true rfl)
  rw [lg_entry_eq]
  generalize (lg_sl ([.ref h, .int (nI j), .int (nI w), .int (nI v)]) ++ List.replicate (5 - (lg_sl ([.ref h, .int (nI j), .int (nI w), .int (nI v)])).length) Slot.unset).toArray = ls at hl ⊢
  have hl : lv_has ls 5 [(0, .ref h), (1, .int (nI j)), (2, .int (nI w)), (3, .int (nI v))] := hl
  have hin_RX3 : ∀ w ∈ u_ws RX3 TX3 3, w ∈ wsX3_endStep := by decide +kernel
  refine lv_iload_n hx hb dX3_endStep_0 rfl (lv_at hl 1 rfl) ?_
  refine n_if_lt (tgt := 20) hx hb (by omega) dX3_endStep_1 (by decide) ?_
  refine lv_iload_n hx hb dX3_endStep_4 rfl (lv_at hl 1 rfl) ?_
  refine lv_aload_n hx hb dX3_endStep_5 rfl (lv_at hl 0 rfl) ?_
  refine p_get C hw (ci := 3) (Cn := RX3) (T := TX3) (N := 3) hL_h hf_h rfl hin_RX3 2 (by decide) (List.mem_of_getElem? (i := 1) rfl) rfl rfl dX3_endStep_6 ?_
  refine n_len C hw 0 rfl hL_lw hf_lw (n := 320) rfl dX3_endStep_9 ?_
  refine n_icmp_ge (tgt := 20) hx hb (by omega) (by omega) dX3_endStep_10 (by decide) (fun h_10 => ?_) (fun h_10 => ?_)
  · exact absurd h_10 (by omega)
  · skip
    refine lv_aload_n hx hb dX3_endStep_13 rfl (lv_at hl 0 rfl) ?_
    refine p_get C hw (ci := 3) (Cn := RX3) (T := TX3) (N := 3) hL_h hf_h rfl hin_RX3 2 (by decide) (List.mem_of_getElem? (i := 1) rfl) rfl rfl dX3_endStep_14 ?_
    refine lv_iload_n hx hb dX3_endStep_17 rfl (lv_at hl 1 rfl) ?_
    refine lv_iload_n hx hb dX3_endStep_18 rfl (lv_at hl 3 rfl) ?_
    refine n_ast C hw 0 rfl hL_lw hf_lw (by omega) (by omega) dX3_endStep_19 (fun H locs hw => ?_)
    obtain ⟨S1, hS1⟩ : ∃ z, z = pup S lw (aN (cy 0) 320 (nup wg j v)) := ⟨_, rfl⟩
    replace hw : pW D (pA S s.heap.size) s.heap S1 H locs := by rw [hS1]; exact hw
    have hL2 : h ∈ S1.1 := by rw [hS1]; exact hL_h
    have hf3 : S1.2 h = .inr (3, [.ref lf, .ref lx, .ref lw]) := by rw [hS1]; exact (pup_n (ne_cells hf_h hf_lw (by nofun))).trans hf_h
    have hL4 : lf ∈ S1.1 := by rw [hS1]; exact hL_lf
    have hf5 : S1.2 lf = aN (cy 0) 16 fg := by rw [hS1]; exact (pup_n (by first | assumption | exact Ne.symm (by assumption))).trans hf_lf
    have hL6 : lx ∈ S1.1 := by rw [hS1]; exact hL_lx
    have hf7 : S1.2 lx = aN (cy 0) 16 xg := by rw [hS1]; exact (pup_n (by first | assumption | exact Ne.symm (by assumption))).trans hf_lx
    have hL8 : lw ∈ S1.1 := by rw [hS1]; exact hL_lw
    have hf9 : S1.2 lw = aN (cy 0) 320 (nup wg j v) := by rw [hS1]; exact pup_s
    refine lv_iconst (v := nI 0) hx hb dX3_endStep_20 (by decide) ?_
    refine lv_istore (lv' := [(4, .int (nI 0)), (0, .ref h), (1, .int (nI j)), (2, .int (nI w)), (3, .int (nI v))]) hx hb dX3_endStep_21 hl (by decide) rfl (fun ls hl => ?_)
    have loop23 : ∀ (kf : Nat) (i : Nat), w - i < kf → ∀ (S1 : pS), ∀ (H : Heap) (locs : List Loc) (ls : Array Slot), (h ∈ S1.1) → (S1.2 h = .inr (3, [.ref lf, .ref lx, .ref lw])) → (lf ∈ S1.1) → (S1.2 lf = aN (cy 0) 16 (lcop fg xg i)) → (lx ∈ S1.1) → (S1.2 lx = aN (cy 0) 16 xg) → (lw ∈ S1.1) → (S1.2 lw = aN (cy 0) 320 (nup wg j v)) → (i ≤ w) → (S1 = pup (pup S lw (aN (cy 0) 320 (nup wg j v))) lf (aN (cy 0) 16 (lcop fg xg i))) → pW D (pA S s.heap.size) s.heap S1 H locs → lv_has ls 5 [(4, .int (nI i)), (0, .ref h), (1, .int (nI j)), (2, .int (nI w)), (3, .int (nI v))] → W p l e (headSpec wsX3_endStep ({ frames := 0, cells := 0, slots := 0, locals := 0 } : Room)).room s m ([.ref h, .int (nI j), .int (nI w), .int (nI v)]).toArray below meth c H locs 0 0 (MQ below (pQv D cy S s.heap.size (fun S' => S' = pup (pup S lw (aN (cy 0) 320 (nup wg j v))) lf (aN (cy 0) 16 (lcop fg xg w)))) ([.ref h, .int (nI j), .int (nI w), .int (nI v)]).toArray s 0 0 (pA S s.heap.size)) (F0 m 23 ls []) := by
      intro kf
      induction kf with
      | zero => intro i hm; exact absurd hm (Nat.not_lt_zero _)
      | succ kf ih23 =>
        intro i hm S1 H locs ls hL10 hf11 hL12 hf13 hL14 hf15 hL16 hf17 hi hS1 hw hl
        refine lv_iload hx hb dX3_endStep_23 (lv_at hl 0 rfl) ?_
        refine lv_iload_n hx hb dX3_endStep_25 rfl (lv_at hl 3 rfl) ?_
        refine n_icmp_ge (tgt := 69) hx hb (by omega) (by omega) dX3_endStep_26 (by decide) (fun h_26 => ?_) (fun h_26 => ?_)
        · skip
          exact p_vret C hw (by rw [hS1, show w = i from by omega]) hr hlocks dX3_endStep_69
        · skip
          refine lv_iload hx hb dX3_endStep_29 (lv_at hl 0 rfl) ?_
          refine lv_aload_n hx hb dX3_endStep_31 rfl (lv_at hl 1 rfl) ?_
          refine p_get C hw (ci := 3) (Cn := RX3) (T := TX3) (N := 3) hL10 hf11 rfl hin_RX3 0 (by decide) (List.mem_of_getElem? (i := 2) rfl) rfl rfl dX3_endStep_32 ?_
          refine n_len C hw 0 rfl hL12 hf13 (n := 16) rfl dX3_endStep_35 ?_
          refine n_icmp_ge (tgt := 69) hx hb (by omega) (by omega) dX3_endStep_36 (by decide) (fun h_36 => ?_) (fun h_36 => ?_)
          · exact absurd h_36 (by omega)
          · skip
            refine lv_iload hx hb dX3_endStep_39 (lv_at hl 0 rfl) ?_
            refine lv_aload_n hx hb dX3_endStep_41 rfl (lv_at hl 1 rfl) ?_
            refine p_get C hw (ci := 3) (Cn := RX3) (T := TX3) (N := 3) hL10 hf11 rfl hin_RX3 1 (by decide) (List.mem_of_getElem? (i := 3) rfl) rfl rfl dX3_endStep_42 ?_
            refine n_len C hw 0 rfl hL14 hf15 (n := 16) rfl dX3_endStep_45 ?_
            refine n_icmp_ge (tgt := 69) hx hb (by omega) (by omega) dX3_endStep_46 (by decide) (fun h_46 => ?_) (fun h_46 => ?_)
            · exact absurd h_46 (by omega)
            · skip
              refine lv_aload_n hx hb dX3_endStep_49 rfl (lv_at hl 1 rfl) ?_
              refine p_get C hw (ci := 3) (Cn := RX3) (T := TX3) (N := 3) hL10 hf11 rfl hin_RX3 0 (by decide) (List.mem_of_getElem? (i := 2) rfl) rfl rfl dX3_endStep_50 ?_
              refine lv_iload hx hb dX3_endStep_53 (lv_at hl 0 rfl) ?_
              refine lv_aload_n hx hb dX3_endStep_55 rfl (lv_at hl 1 rfl) ?_
              refine p_get C hw (ci := 3) (Cn := RX3) (T := TX3) (N := 3) hL10 hf11 rfl hin_RX3 1 (by decide) (List.mem_of_getElem? (i := 3) rfl) rfl rfl dX3_endStep_56 ?_
              refine lv_iload hx hb dX3_endStep_59 (lv_at hl 0 rfl) ?_
              refine n_ald C hw 0 rfl hL14 hf15 (by omega) (by omega) dX3_endStep_61 ?_
              refine n_ast C hw 0 rfl hL12 hf13 (by omega) (by omega) dX3_endStep_62 (fun H locs hw => ?_)
              obtain ⟨S18, hS18⟩ : ∃ z, z = pup S1 lf (aN (cy 0) 16 (nup (lcop fg xg i) i (xg i))) := ⟨_, rfl⟩
              replace hw : pW D (pA S s.heap.size) s.heap S18 H locs := by rw [hS18]; exact hw
              have hL19 : h ∈ S18.1 := by rw [hS18]; exact hL10
              have hf20 : S18.2 h = .inr (3, [.ref lf, .ref lx, .ref lw]) := by rw [hS18]; exact (pup_n (ne_cells hf11 hf13 (by nofun))).trans hf11
              have hL21 : lx ∈ S18.1 := by rw [hS18]; exact hL14
              have hf22 : S18.2 lx = aN (cy 0) 16 xg := by rw [hS18]; exact (pup_n (by first | assumption | exact Ne.symm (by assumption))).trans hf15
              have hL23 : lw ∈ S18.1 := by rw [hS18]; exact hL16
              have hf24 : S18.2 lw = aN (cy 0) 320 (nup wg j v) := by rw [hS18]; exact (pup_n (by first | assumption | exact Ne.symm (by assumption))).trans hf17
              have hL25 : lf ∈ S18.1 := by rw [hS18]; exact hL12
              have hf26 : S18.2 lf = aN (cy 0) 16 (nup (lcop fg xg i) i (xg i)) := by rw [hS18]; exact pup_s
              refine lv_iinc (v := (nI (i + 1))) (lv' := [(4, .int (nI (i + 1))), (0, .ref h), (1, .int (nI j)), (2, .int (nI w)), (3, .int (nI v))]) hx hb dX3_endStep_63 hl (k := 0) rfl (by rw [show Int32.ofInt 1 = nI 1 from by decide, nI_add]) (by decide) rfl (fun ls hl => ?_)
              refine lv_goto (tgt := 23) hx hb dX3_endStep_66 (by decide) ?_
              exact ih23 (i + 1) (by omega) S18 H locs ls hL19 hf20 hL25 (by rw [hS18, lcop_s]; exact pup_s) hL21 hf22 hL23 hf24 (by omega) (by rw [hS18, hS1, pup_pup, lcop_s]) hw (lv_sub hl [0, 1, 2, 3, 4] rfl)
    exact loop23 (w - 0 + 1) 0 (by omega) S1 H locs ls hL2 hf3 hL4 (by rw [lcop_0]; assumption) hL6 hf7 hL8 hf9 (Nat.zero_le _) (by rw [lcop_0, hS1]; exact (pup_self ((pup_n hne1).trans hf_lf)).symm) hw (lv_sub hl [0, 1, 2, 3, 4] rfl)

theorem hdS_yX11_at : yX11_at.cls ≠ "java/lang/invoke/MethodHandle" ∧ yX11_at.cls ≠ "java/lang/invoke/VarHandle" ∧ (parseMethodDescriptor yX11_at.desc).map (fun d => d.parameters.length) = some 2 := by decide +kernel
set_option maxHeartbeats 4000000 in
set_option maxRecDepth 100000 in
/-- Lattice.cameFromGreater -/
theorem c_X3_cameFromGreater (l : Launch) (D : va_G) (cy : Nat → ClassId) (S : pS) (sz : Nat) (h lf lx lw j w : Nat) (wg : Nat → Nat) (hL_h : h ∈ S.1) (hf_h : S.2 h = .inr (3, [.ref lf, .ref lx, .ref lw])) (hL_lw : lw ∈ S.1) (hf_lw : S.2 lw = aN (cy 0) 320 wg) (hj : j < 2 ^ 31) (hw16 : w < 16) (hwb : ∀ q, wg q < 65536) : Met l yX3_cameFromGreater wsX3_cameFromGreater ({ frames := 1, cells := 0, slots := 0, locals := 21 }) (pPc D cy S sz [.ref h, .int (nI j), .int (nI w)]) (pQi D cy S sz (fun r S' => r = nI (rg wg 320 j / 2 ^ w % 2) ∧ S = S')) 0 0 (pA S sz) := by
  refine Met.ofW (cc := cX3_cameFromGreater) (maxL := 3) (ret := (some .int)) (by decide) rfl ?_
  intro p e s m args below meth c s₁ B hml hv
  obtain ⟨rfl, rfl, C, hw, hA, hr, hlocks⟩ := p_start B hml hv
  have hx := C.1
  have hb := C.2.1
  have hl := lv_entry ([.ref h, .int (nI j), .int (nI w)]) (n := 3) (Nat.le_of_ble_eq_true rfl)
  rw [lg_entry_eq]
  generalize (lg_sl ([.ref h, .int (nI j), .int (nI w)]) ++ List.replicate (3 - (lg_sl ([.ref h, .int (nI j), .int (nI w)])).length) Slot.unset).toArray = ls at hl ⊢
  have hl : lv_has ls 3 [(0, .ref h), (1, .int (nI j)), (2, .int (nI w))] := hl
  have hin_RX3 : ∀ w ∈ u_ws RX3 TX3 3, w ∈ wsX3_cameFromGreater := by decide +kernel
  refine lv_aload_n hx hb dX3_cameFromGreater_0 rfl (lv_at hl 0 rfl) ?_
  refine p_get C hw (ci := 3) (Cn := RX3) (T := TX3) (N := 3) hL_h hf_h rfl hin_RX3 2 (by decide) (List.mem_of_getElem? (i := 1) rfl) rfl rfl dX3_cameFromGreater_1 ?_
  refine lv_iload_n hx hb dX3_cameFromGreater_4 rfl (lv_at hl 1 rfl) ?_
  refine p_calli (va_runSN (As := [.ref lw, .int (nI j)]) (rest := []) C.fix (c_X11_at l D cy S s.heap.size lw 320 j wg hL_lw hf_lw (by omega) hj) ⟨va_cnB 2 C.2.2.2.2.1 gX3_cameFromGreater_X11_at_n22 rfl rfl rfl (show va_Nw (.methodLinkNest RX3 22 yX11_at "SoundingLine") s from C.2.2.2.2.2.2.1 8 (RX3, 22, yX11_at) rfl) (C.2.2.2.2.1 (.initialized RX11) (List.mem_of_getElem? (i := 3) rfl)) hdS_yX11_at ⟨Nat.le_of_ble_eq_true rfl, Nat.le_of_ble_eq_true rfl⟩, C.2.2.2.2.1 (.static yX11_at) (List.mem_of_getElem? (i := 2) rfl), trivial⟩ (p_preS C hw) rfl rfl hl.1 rfl (lv_room (Nat.le_of_ble_eq_true rfl)) dX3_cameFromGreater_5 ⟨Nat.le_of_ble_eq_true rfl, Nat.le_of_ble_eq_true rfl⟩) hw hA (fun r2 S1 H locs hpost hw => ?_)
  obtain ⟨hr_, hS_⟩ := hpost
  subst hr_
  subst hS_
  have hrb : rg wg 320 j < 65536 := by unfold rg; split; exact hwb j; omega
  refine lv_iload_n hx hb dX3_cameFromGreater_8 rfl (lv_at hl 2 rfl) ?_
  refine n_iushr hx hb (by omega) (by omega) dX3_cameFromGreater_9 ?_
  refine lv_iconst (v := nI 1) hx hb dX3_cameFromGreater_10 (by decide) ?_
  refine n_iand hx hb dX3_cameFromGreater_11 ?_
  exact p_iret C hw ⟨by rw [Nat.and_one_is_mod], rfl⟩ hr hlocks dX3_cameFromGreater_12

