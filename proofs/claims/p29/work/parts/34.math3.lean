/-! TRAIL: what comes back -/
theorem win_split {f : Nat → Nat} {nb mm i : Nat} : win f nb mm i < 2 ^ (mm + 1) ∧ win f nb mm i % 2 ^ mm = tst f nb mm i ∧ win f nb mm i / 2 = tst f nb mm (i + 1) ∧ win f nb mm i / 2 ^ mm = numAt f nb i 1 := by
  have hs := @tst_lt f nb mm i
  have hp : 0 < 2 ^ mm := Nat.two_pow_pos mm
  have e : win f nb mm i = numAt f nb i 1 * 2 ^ mm + tst f nb mm i := or_low hs
  refine ⟨win_lt, ?_, ?_, ?_⟩
  · rw [e, Nat.mul_comm, Nat.mul_add_mod, Nat.mod_eq_of_lt hs]
  · show _ = (numAt f nb i 1 * 2 ^ mm ||| tst f nb mm i) / 2 ^ 1
    rw [Nat.pow_one]; rfl
  · rw [e, Nat.mul_comm, Nat.mul_add_div hp, Nat.div_eq_of_lt hs, Nat.add_zero]
theorem tst_z {f : Nat → Nat} {nb mm : Nat} : ∀ j, j ≤ mm → tst f nb mm (nb + j) < 2 ^ (mm - j)
  | 0, _ => tst_lt nb
  | j + 1, hj => by
    have ih := tst_z (f := f) (nb := nb) (mm := mm) j (by omega)
    have h0 : numAt f nb (nb + j) 1 = 0 := by rw [numAt_1, rg_out (by omega), if_neg (by decide)]
    show (numAt f nb (nb + j) 1 * 2 ^ mm ||| tst f nb mm (nb + j)) / 2 ^ 1 < _
    rw [h0, Nat.zero_mul, Nat.zero_or, Nat.pow_one]
    have e : mm - j = (mm - (j + 1)) + 1 := by omega
    rw [e, Nat.pow_succ] at ih
    omega
theorem tst_end {f : Nat → Nat} {nb mm : Nat} : tst f nb mm (nb + mm) = 0 := by
  have := tst_z (f := f) (nb := nb) (mm := mm) mm (Nat.le_refl _)
  rw [Nat.sub_self, Nat.pow_zero] at this; omega
theorem cnt_blocks (f : Nat → Bool) (kk : Nat) : ∀ s, sumN (fun i => cnt (fun j => f (i * kk + j)) kk) s = cnt f (s * kk)
  | 0 => by rw [Nat.zero_mul]; rfl
  | s + 1 => by rw [Nat.succ_mul, cnt_add]; show sumN _ s + _ = _; rw [cnt_blocks f kk s]
/-- the table of a trail is linear -/
theorem bit_cases {a : Nat} : a % 2 = 0 ∨ a % 2 = 1 := Nat.mod_two_eq_zero_or_one a
theorem trN_x {f1 f2 f3 u v : Nat} : trN f1 f2 f3 (u ^^^ v) = trN f1 f2 f3 u ^^^ trN f1 f2 f3 v := by
  have e : ∀ f, bc ((u ^^^ v) &&& f) % 2 = (bc (u &&& f) % 2 + bc (v &&& f) % 2) % 2 := fun f => by
    unfold bc
    rw [Nat.and_xor_distrib_right, bcF_par, Nat.add_mod]
  unfold trN tr2
  rw [e f1, e f2, e f3]
  rcases @bit_cases (bc (u &&& f1)) with a1 | a1 <;> rcases @bit_cases (bc (u &&& f2)) with a2 | a2 <;> rcases @bit_cases (bc (u &&& f3)) with a3 | a3 <;> rcases @bit_cases (bc (v &&& f1)) with b1 | b1 <;> rcases @bit_cases (bc (v &&& f2)) with b2 | b2 <;> rcases @bit_cases (bc (v &&& f3)) with b3 | b3 <;> rw [a1, a2, a3, b1, b2, b3] <;> split <;> decide
theorem trN_lt {f1 f2 f3 v : Nat} : trN f1 f2 f3 v < 2 ^ mk3 f3 := by
  have h2 := @tr2_le f1 f2 v
  unfold trN mk3
  split
  · exact Nat.lt_of_le_of_lt h2 (by decide)
  · rw [or_b (by omega)]
    have : bc (v &&& f3) % 2 < 2 := Nat.mod_lt _ (by decide)
    show _ < 8; omega
theorem trN_1 {f1 f2 f3 v : Nat} (h : trN f1 f2 f3 v = 0) : bc (v &&& f1) % 2 = 0 := by
  unfold trN tr2 at h
  split at h
  · rw [or_b (by omega)] at h; omega
  · rw [or_b (by omega), or_b (by omega)] at h; omega
theorem ttab_rg {f1 f2 f3 w : Nat} (hw : w < 32) : rg (ttab f1 f2 f3 32) 32 w = trN f1 f2 f3 w := by
  rw [rg_in hw]; unfold ttab; rw [if_pos hw]
/-- a way of windows from 0 to 0 -/
def Way (mm steps : Nat) (d : Nat → Nat) : Prop := (∀ i, i < steps → d i < 2 ^ (mm + 1)) ∧ (0 < steps → d 0 % 2 ^ mm = 0) ∧ (∀ i, i + 1 < steps → d (i + 1) % 2 ^ mm = d i / 2) ∧ (0 < steps → d (steps - 1) / 2 = 0)
theorem Way.low {mm steps i : Nat} {d : Nat → Nat} (h : Way mm steps d) (h0 : d i = 2 ^ mm) : ∀ j, j ≤ mm → i + j < steps → d (i + j) % 2 ^ (mm - j + 1) = 2 ^ (mm - j)
  | 0, _, hs => by rw [Nat.add_zero, h0, Nat.sub_zero, Nat.mod_eq_of_lt (Nat.pow_lt_pow_right (by decide) (Nat.lt_succ_self _))]
  | j + 1, hj, hs => by
    have ih := h.low h0 j (by omega) (by omega)
    have e := h.2.2.1 (i + j) (by omega)
    have e1 : mm - (j + 1) + 1 = mm - j := by omega
    have hd : 2 ^ (mm - j) ∣ 2 ^ mm := Nat.pow_dvd_pow 2 (by omega)
    rw [e1, ← Nat.add_assoc, ← Nat.mod_mod_of_dvd (d (i + j + 1)) hd, e]
    have e2 : 2 ^ (mm - j + 1) = 2 * 2 ^ (mm - j) := by rw [Nat.pow_succ, Nat.mul_comm]
    rw [e2] at ih
    have e3 : d (i + j) / 2 % 2 ^ (mm - j) = d (i + j) % (2 * 2 ^ (mm - j)) / 2 := by
      rw [Nat.mod_mul_right_div_self]
    rw [e3, ih]
    have e4 : 2 ^ (mm - j) = 2 ^ (mm - (j + 1)) * 2 := by rw [← e1, Nat.pow_succ]
    rw [e4]; omega
theorem Way.first {mm steps i : Nat} {d : Nat → Nat} (h : Way mm steps d) (hi : i < steps) (hz : ∀ j, j < i → d j = 0) (hn : d i ≠ 0) : d i = 2 ^ mm := by
  have h0 : d i % 2 ^ mm = 0 := by
    cases i with
    | zero => exact h.2.1 hi
    | succ i => rw [h.2.2.1 i hi, hz i (by omega)]
  have hl := h.1 i hi
  rw [Nat.pow_succ] at hl
  have hp : 0 < 2 ^ mm := Nat.two_pow_pos mm
  have e := Nat.div_add_mod (d i) (2 ^ mm)
  rw [h0, Nat.add_zero] at e
  have q : d i / 2 ^ mm = 1 := by
    have a : d i / 2 ^ mm < 2 := Nat.div_lt_of_lt_mul hl
    have b : d i / 2 ^ mm ≠ 0 := fun z => hn (by rw [← e, z, Nat.mul_zero])
    exact Nat.le_antisymm (Nat.le_of_lt_succ a) (Nat.pos_of_ne_zero b)
  rw [← e, q, Nat.mul_one]
/-- a mask that isn't 0 sees every way that isn't 0 -/
theorem top_of {f mm : Nat} (h0 : 1 ≤ f) (h : f < 2 ^ (mm + 1)) : ∃ p, p ≤ mm ∧ 2 ^ p ≤ f ∧ f < 2 ^ (p + 1) := by
  induction mm with
  | zero => exact ⟨0, Nat.le_refl _, by simpa using h0, h⟩
  | succ m ih =>
    by_cases z : f < 2 ^ (m + 1)
    · obtain ⟨p, a, b⟩ := ih z; exact ⟨p, by omega, b⟩
    · exact ⟨m + 1, Nat.le_refl _, by omega, h⟩
theorem bc_pow {p : Nat} (hp : p < 12) : bc (2 ^ p) = 1 := by
  have : ∀ p, p < 12 → bc (2 ^ p) = 1 := by decide
  exact this p hp
theorem and_top {d f p : Nat} (hd : d % 2 ^ (p + 1) = 2 ^ p) (h1 : 2 ^ p ≤ f) (h2 : f < 2 ^ (p + 1)) : d &&& f = 2 ^ p := by
  have tf : f.testBit p = true := top_bit h1 h2
  refine Nat.eq_of_testBit_eq fun i => ?_
  rw [Nat.testBit_and, Nat.testBit_two_pow]
  by_cases hi : i ≤ p
  · have e : d.testBit i = (d % 2 ^ (p + 1)).testBit i := by
      rw [Nat.testBit_mod_two_pow]; simp [show i < p + 1 by omega]
    rw [e, hd, Nat.testBit_two_pow]
    by_cases z : p = i
    · subst z; simp [tf]
    · simp [z]
  · have e : f.testBit i = false := Nat.testBit_lt_two_pow (Nat.lt_of_lt_of_le h2 (Nat.pow_le_pow_right (by decide) (by omega)))
    rw [e]; simp [show ¬ p = i by omega]
theorem Way.zero {mm steps f : Nat} {d : Nat → Nat} (h : Way mm steps d) (h4 : mm ≤ 4) (hf0 : 1 ≤ f) (hf : f < 2 ^ (mm + 1)) (hz : ∀ i, i < steps → bc (d i &&& f) % 2 = 0) : ∀ n i, i < n → i < steps → d i = 0
  | 0, i, hi, _ => absurd hi (Nat.not_lt_zero _)
  | n + 1, i, hi, hs => by
    have ih := h.zero h4 hf0 hf hz n
    by_cases e : i < n
    · exact ih i e hs
    · have hin : i = n := by omega
      subst hin
      refine Classical.byContradiction fun hn => ?_
      have h0 := h.first hs (fun j hj => ih j hj (by omega)) hn
      obtain ⟨p, hp, p1, p2⟩ := top_of hf0 hf
      by_cases z : i + (mm - p) < steps
      · have a := h.low h0 (mm - p) (by omega) z
        rw [show mm - (mm - p) = p by omega] at a
        have b := hz _ z
        rw [and_top a p1 p2, bc_pow (by omega)] at b
        omega
      · have a := h.low h0 (steps - 1 - i) (by omega) (by omega)
        have b := h.2.2.2 (by omega)
        rw [show i + (steps - 1 - i) = steps - 1 by omega] at a
        have c : 2 ≤ 2 ^ (mm - (steps - 1 - i)) := by
          have := Nat.pow_le_pow_right (n := 2) (by decide) (show 1 ≤ mm - (steps - 1 - i) by omega)
          simpa using this
        have := Nat.mod_le (d (steps - 1)) (2 ^ (mm - (steps - 1 - i) + 1))
        omega
/-- a way that isn't 0 weighs at least what the words are apart -/
abbrev ag (tab : Nat → Nat) (mm kk k : Nat) : Nat → Nat := (apr tab mm kk (fun _ => 0) (fun _ => 0) (fun _ => 0) k).1.1
abbrev am (tab : Nat → Nat) (mm kk k : Nat) : Nat := (apr tab mm kk (fun _ => 0) (fun _ => 0) (fun _ => 0) k).2
theorem nx_le {fg tab x : Nat → Nat} {mm b k w : Nat} (h1 : 1 ≤ mm) (hw : w < 2 ^ (mm + 1)) : lcop fg (nxt fg tab mm b k x (2 ^ mm)) (2 ^ mm) (w / 2) ≤ fg (w % 2 ^ mm) + farT tab b k w := by
  rw [Nat.pow_succ] at hw
  have hv : w / 2 < 2 ^ mm := by omega
  unfold lcop nxt
  rw [if_pos hv, if_pos hv]
  unfold loN hiN
  rw [wnd_eq h1 hv]
  rcases Nat.mod_two_eq_zero_or_one w with z | z
  · have m0 := two_mod (mm := mm) (v := w / 2) (b := 0) h1 (by omega)
    have e2 : 2 * (w / 2) = w := by omega
    rw [Nat.add_zero, e2, Nat.add_zero] at m0
    rw [e2, m0]; exact Nat.min_le_left _ _
  · have m0 := two_mod (mm := mm) (v := w / 2) (b := 1) h1 (by omega)
    have e2 : 2 * (w / 2) + 1 = w := by omega
    rw [e2] at m0
    rw [m0]
    refine Nat.le_trans (Nat.min_le_right _ _) ?_
    rw [e2]; exact Nat.le_refl _
theorem am_mono {tab : Nat → Nat} {mm kk a : Nat} : ∀ b, am tab mm kk (a + b) ≤ am tab mm kk a
  | 0 => Nat.le_refl _
  | b + 1 => Nat.le_trans (Nat.min_le_left _ _) (am_mono b)
theorem Way.heavy {tab d : Nat → Nat} {mm kk steps i : Nat} (h : Way mm steps d) (h1 : 1 ≤ mm) (h4 : mm ≤ 4) (hs : i < steps) (h0 : d i = 2 ^ mm) (K : Nat) (hK : K = 1 * 2 ^ kk - 1) : ∀ k, i + k < steps → (∃ k', k' ≤ k ∧ am tab mm kk k' ≤ sumN (fun j => farT tab 0 K (d (i + j))) (k' + 1)) ∨ (d (i + k) / 2 ≠ 0 ∧ ag tab mm kk k (d (i + k) / 2) ≤ sumN (fun j => farT tab 0 K (d (i + j))) (k + 1))
  | 0, _ => by
    have e16 := two_pow_4 h4
    have hp : 1 ≤ 2 ^ (mm - 1) := Nat.one_le_two_pow
    have e2 : 2 ^ mm = 2 ^ (mm - 1) * 2 := by rw [← Nat.pow_succ]; congr 1; omega
    refine Or.inr ⟨by rw [Nat.add_zero, h0]; omega, ?_⟩
    have e1 : sumN (fun j => farT tab 0 K (d (i + j))) (0 + 1) = farT tab 0 K (2 ^ mm) := by
      rw [← h0]; show 0 + farT tab 0 K (d (i + 0)) = _; rw [Nat.add_zero, Nat.zero_add]
    have e3 : ag tab mm kk 0 (2 ^ mm / 2) = farT tab 0 K (2 ^ mm) := by
      rw [hK]
      show lsta (fun _ => 0) (2 ^ mm / 2) (farT tab 0 (1 * 2 ^ kk - 1) (2 ^ mm)) 16 (2 ^ mm / 2) = _
      unfold lsta
      rw [if_pos (by omega), if_pos rfl]
    rw [Nat.add_zero, h0, e1, e3]; exact Nat.le_refl _
  | k + 1, hk => by
    rcases h.heavy (tab := tab) h1 h4 hs h0 K hK k (by omega) with ⟨k', a, b⟩ | ⟨a, b⟩
    · exact Or.inl ⟨k', by omega, b⟩
    · have st := h.2.2.1 (i + k) (by omega)
      have w := h.1 (i + k + 1) (by omega)
      have st2 := nx_le (fg := ag tab mm kk k) (tab := tab) (x := (apr tab mm kk (fun _ => 0) (fun _ => 0) (fun _ => 0) k).1.2.1) (b := 0) (k := K) h1 w
      rw [st] at st2
      have tot : lcop (ag tab mm kk k) (nxt (ag tab mm kk k) tab mm 0 K (apr tab mm kk (fun _ => 0) (fun _ => 0) (fun _ => 0) k).1.2.1 (2 ^ mm)) (2 ^ mm) (d (i + k + 1) / 2) ≤ sumN (fun j => farT tab 0 K (d (i + j))) (k + 1 + 1) := by
        show _ ≤ sumN _ (k + 1) + farT tab 0 K (d (i + (k + 1)))
        rw [← Nat.add_assoc]; omega
      by_cases z : d (i + k + 1) / 2 = 0
      · refine Or.inl ⟨k + 1, Nat.le_refl _, ?_⟩
        rw [z] at tot
        rw [hK] at tot ⊢
        exact Nat.le_trans (Nat.min_le_right _ _) tot
      · refine Or.inr ⟨by rw [← Nat.add_assoc]; exact z, ?_⟩
        rw [← Nat.add_assoc]
        show nup (lcop (ag tab mm kk k) (nxt (ag tab mm kk k) tab mm 0 (1 * 2 ^ kk - 1) (apr tab mm kk (fun _ => 0) (fun _ => 0) (fun _ => 0) k).1.2.1 (2 ^ mm)) (2 ^ mm)) 0 1000000 (d (i + k + 1) / 2) ≤ _
        rw [nup_n z, ← hK]; exact tot
theorem Way.apart {tab d : Nat → Nat} {mm kk steps i : Nat} (h : Way mm steps d) (h1 : 1 ≤ mm) (h4 : mm ≤ 4) (h20 : steps ≤ 20) (hs : i < steps) (h0 : d i = 2 ^ mm) : trA tab mm kk ≤ sumN (fun j => farT tab 0 (1 * 2 ^ kk - 1) (d j)) steps := by
  have fin : ∀ k', k' ≤ steps - 1 - i → am tab mm kk k' ≤ sumN (fun j => farT tab 0 (1 * 2 ^ kk - 1) (d (i + j))) (k' + 1) → trA tab mm kk ≤ sumN (fun j => farT tab 0 (1 * 2 ^ kk - 1) (d j)) steps := fun k' hk' hle => by
    have a := am_mono (tab := tab) (mm := mm) (kk := kk) (a := k') (19 - k')
    rw [show k' + (19 - k') = 19 by omega] at a
    have b := sumN_part (g := fun j => farT tab 0 (1 * 2 ^ kk - 1) (d j)) (a := i) (b := k' + 1) (n := steps) (by omega)
    exact Nat.le_trans a (Nat.le_trans hle b)
  rcases h.heavy (tab := tab) h1 h4 hs h0 _ rfl (steps - 1 - i) (by omega) with ⟨k', a, b⟩ | ⟨a, -⟩
  · exact fin k' a b
  · rw [show i + (steps - 1 - i) = steps - 1 by omega] at a
    exact absurd (h.2.2.2 (by omega)) a
/-- what a trail decodes, where few bits are wrong -/
theorem trl_ok {f r : Nat → Nat} {nb mm f1 f2 f3 e : Nat} (h1 : 1 ≤ mm) (h4 : mm ≤ 4) (hf1 : 1 ≤ f1) (hf : f1 < 2 ^ (mm + 1)) (h160 : stp mm nb ≤ 160) (hfb : ∀ q, q < nb → f q ≤ 1) (hr : ∀ q, q < stp mm nb * mk3 f3 → r q ≤ 1)
    (hD : cnt (dif r (trF (ttab f1 f2 f3 32) f nb mm (mk3 f3))) (stp mm nb * mk3 f3) ≤ e) (he6 : e < 1000000) (he : e = 0 ∨ (2 * e < trA (ttab f1 f2 f3 32) mm (mk3 f3) ∧ stp mm nb ≤ 20)) {q : Nat} (hq : q < nb) : trD (ttab f1 f2 f3 32) r (stp mm nb * mk3 f3) mm (mk3 f3) nb q = f q := by
  have hst : stp mm nb = nb + mm := by unfold stp; rw [if_neg (by omega)]
  have hp32 : 2 ^ (mm + 1) ≤ 32 := two_pow_5 (by omega)
  have hk3 : mk3 f3 ≤ 12 := by rcases mk3_23 f3 with z | z <;> omega
  generalize hS : stp mm nb = s at *
  generalize hkk : mk3 f3 = kk at *
  generalize htab : ttab f1 f2 f3 32 = tab at *
  have tabw : ∀ w, w < 32 → rg tab 32 w = trN f1 f2 f3 w := fun w hw => by rw [← htab]; exact ttab_rg hw
  have tablt : ∀ w, w < 32 → rg tab 32 w < 2 ^ kk := fun w hw => by rw [tabw w hw, ← hkk]; exact trN_lt
  have hkn : ∀ i, knoAt r (s * kk) (i * kk) kk = 2 ^ kk - 1 := fun i => knoAt_all (rg_ne2 hr) kk
  have hR : ∀ i, numAt r (s * kk) (i * kk) kk < 2 ^ kk := fun i => numAt_lt _ _ _ _
  have hwf : ∀ i w, w < 32 → wf tab r (s * kk) kk i w = bc (rg tab 32 w ^^^ numAt r (s * kk) (i * kk) kk) := fun i w hw => by
    unfold wf farT; rw [hkn, and_all (Nat.xor_lt_two_pow (tablt w hw) (hR i))]
  -- the way that was coded
  have hU : ∀ i, i < s → win f nb mm i < 2 ^ (mm + 1) ∧ win f nb mm i % 2 ^ mm = tst f nb mm i ∧ win f nb mm i / 2 = tst f nb mm (i + 1) := fun i _ => ⟨win_split.1, win_split.2.1, win_split.2.2.1⟩
  have hUs := way_le (tab := tab) (r := r) (na := s * kk) (kk := kk) h1 h4 hU s (Nat.le_refl _)
  have hblk : ∀ i, i < s → wf tab r (s * kk) kk i (win f nb mm i) ≤ cnt (fun j => dif r (trF tab f nb mm kk) (i * kk + j)) kk := fun i hi => by
    have hin : i * kk + kk ≤ s * kk := by rw [← Nat.succ_mul]; exact Nat.mul_le_mul_right kk hi
    have hw32 : win f nb mm i < 32 := Nat.lt_of_lt_of_le (hU i hi).1 hp32
    rw [hwf i _ hw32]
    have e0 : numAt (trF tab f nb mm kk) (s * kk) (i * kk) kk = rg tab 32 (win f nb mm i) := numAt_lay (tablt _ hw32) (fun j hj => (trF_1 hj).symm) hin
    rw [← e0]
    unfold bc
    rw [ham kk 12 hk3]
    refine cnt_mono' fun j hj h => ?_
    rw [rg_in (by omega), rg_in (by omega)] at h
    unfold dif
    refine decide_eq_true fun z => ?_
    rw [z] at h
    exact absurd h (by simp)
  have hcost : sumN (fun i => wf tab r (s * kk) kk i (win f nb mm i)) s ≤ e := Nat.le_trans (sumN_le hblk) (by rw [cnt_blocks]; exact hD)
  -- the way that is kept
  have hWs := tW_sum (tab := tab) (r := r) (na := s * kk) (kk := kk) (steps := s) h1 h4 (by omega) s (Nat.le_refl _)
  have hend : tst f nb mm s = 0 := by rw [hst]; exact tst_end
  have hv0 : vf tab r (s * kk) mm kk 0 (tst f nb mm 0) = 0 := by
    show lsta (fun _ => 0) 0 0 16 0 = 0; rfl
  rw [hend, hv0] at hUs
  rw [tS_end] at hWs
  have h16 := two_pow_4 h4
  have hS0 : tS tab r (s * kk) mm kk s 0 = 0 := by
    refine Classical.byContradiction fun hn => ?_
    have hlt : tS tab r (s * kk) mm kk s 0 < 2 ^ mm := tS_lt h1 h4
    have : vf tab r (s * kk) mm kk 0 (tS tab r (s * kk) mm kk s 0) = 1000000 := by
      show lsta (fun _ => 0) 0 0 16 (tS tab r (s * kk) mm kk s 0) = 1000000
      unfold lsta; rw [if_pos (by omega), if_neg hn]
    omega
  have hWe : sumN (fun i => wf tab r (s * kk) kk i (tW tab r (s * kk) mm kk s i)) s ≤ e := by omega
  -- their difference
  have hd : Way mm s (fun i => tW tab r (s * kk) mm kk s i ^^^ win f nb mm i) := by
    refine ⟨fun i hi => Nat.xor_lt_two_pow (tS_step h1 h4 (by omega) hi).1 (hU i hi).1, fun h0 => ?_, fun i hi => ?_, fun h0 => ?_⟩
    · show (tW tab r (s * kk) mm kk s 0 ^^^ win f nb mm 0) % 2 ^ mm = 0
      rw [Nat.xor_mod_two_pow, (tS_step h1 h4 (by omega) h0).2.1, (hU 0 h0).2.1, hS0]
      exact Nat.xor_self 0
    · show (tW tab r (s * kk) mm kk s (i + 1) ^^^ win f nb mm (i + 1)) % 2 ^ mm = (tW tab r (s * kk) mm kk s i ^^^ win f nb mm i) / 2
      rw [Nat.xor_mod_two_pow, (tS_step h1 h4 (by omega) hi).2.1, (hU (i + 1) hi).2.1, Nat.xor_div_two, (tS_step h1 h4 (by omega) (show i < s by omega)).2.2.1, (hU i (by omega)).2.2]
    · show (tW tab r (s * kk) mm kk s (s - 1) ^^^ win f nb mm (s - 1)) / 2 = 0
      have e1 : s - 1 + 1 = s := by omega
      rw [Nat.xor_div_two, (tS_step h1 h4 (by omega) (show s - 1 < s by omega)).2.2.1, (hU (s - 1) (by omega)).2.2, e1, tS_end, hend]
      rfl
  have hW32 : ∀ i, i < s → tW tab r (s * kk) mm kk s i < 32 := fun i hi => Nat.lt_of_lt_of_le (tS_step h1 h4 (by omega) hi).1 hp32
  have hU32 : ∀ i, i < s → win f nb mm i < 32 := fun i hi => Nat.lt_of_lt_of_le (hU i hi).1 hp32
  have hd32 : ∀ i, i < s → tW tab r (s * kk) mm kk s i ^^^ win f nb mm i < 32 := fun i hi => Nat.lt_of_lt_of_le (hd.1 i hi) hp32
  have hlin : ∀ i, i < s → rg tab 32 (tW tab r (s * kk) mm kk s i ^^^ win f nb mm i) = rg tab 32 (tW tab r (s * kk) mm kk s i) ^^^ rg tab 32 (win f nb mm i) := fun i hi => by
    rw [tabw _ (hd32 i hi), tabw _ (hW32 i hi), tabw _ (hU32 i hi), trN_x]
  have hwt : ∀ i, i < s → bc (rg tab 32 (tW tab r (s * kk) mm kk s i ^^^ win f nb mm i)) ≤ wf tab r (s * kk) kk i (tW tab r (s * kk) mm kk s i) + wf tab r (s * kk) kk i (win f nb mm i) := fun i hi => by
    rw [hlin i hi, hwf i _ (hW32 i hi), hwf i _ (hU32 i hi)]
    have := bcF_xor 12 (rg tab 32 (tW tab r (s * kk) mm kk s i) ^^^ numAt r (s * kk) (i * kk) kk) (rg tab 32 (win f nb mm i) ^^^ numAt r (s * kk) (i * kk) kk)
    rw [xor_mid] at this
    exact this
  have htot : sumN (fun i => bc (rg tab 32 (tW tab r (s * kk) mm kk s i ^^^ win f nb mm i))) s ≤ 2 * e := by
    refine Nat.le_trans (sumN_le hwt) ?_
    rw [sumN_add]; omega
  have hfar : ∀ w, w < 32 → farT tab 0 (1 * 2 ^ kk - 1) w = bc (rg tab 32 w) := fun w hw => by
    unfold farT; rw [Nat.xor_zero, Nat.one_mul, and_all (tablt w hw)]
  have hzero : ∀ i, i < s → tW tab r (s * kk) mm kk s i ^^^ win f nb mm i = 0 := by
    rcases he with h | ⟨h, h20⟩
    · have hz := sumN_z (g := fun i => bc (rg tab 32 (tW tab r (s * kk) mm kk s i ^^^ win f nb mm i))) (k := s) (by omega)
      refine fun i hi => hd.zero h4 hf1 hf (fun i hi => ?_) s i hi hi
      have a := hz i hi
      have b := bcF_zero 12 _ (Nat.lt_of_lt_of_le (tablt _ (hd32 i hi)) (Nat.pow_le_pow_right (by decide) hk3)) a
      rw [tabw _ (hd32 i hi)] at b
      exact trN_1 b
    · refine Classical.byContradiction fun hn => ?_
      -- the first window that isn't 0
      have ⟨i, hi, hne, hz⟩ : ∃ i, i < s ∧ tW tab r (s * kk) mm kk s i ^^^ win f nb mm i ≠ 0 ∧ ∀ j, j < i → tW tab r (s * kk) mm kk s j ^^^ win f nb mm j = 0 := by
        refine Classical.byContradiction fun hc => hn fun i hi => ?_
        have all : ∀ n i, i < n → i < s → tW tab r (s * kk) mm kk s i ^^^ win f nb mm i = 0 := by
          intro n
          induction n with
          | zero => intro i h0; exact absurd h0 (Nat.not_lt_zero _)
          | succ n ih =>
            intro i h0 hs
            refine Classical.byContradiction fun hy => hc ⟨i, hs, hy, fun j hj => ih j (by omega) (by omega)⟩
        exact all s i hi hi
      have h0 := hd.first hi hz hne
      have a := hd.apart (tab := tab) (kk := kk) h1 h4 h20 hi h0
      rw [sumN_c (h := fun i => bc (rg tab 32 (tW tab r (s * kk) mm kk s i ^^^ win f nb mm i))) (fun j hj => hfar _ (hd32 j hj))] at a
      omega
  have hqs : q < s := by omega
  have e1 := xor_z (hzero q hqs)
  have e2 := (tS_step (tab := tab) (r := r) (na := s * kk) (kk := kk) (steps := s) h1 h4 (by omega) hqs).2.2.1
  have e3 : trD tab r (s * kk) mm kk nb q = tS tab r (s * kk) mm kk s (q + 1) / 2 ^ (mm - 1) := by
    unfold trD tS
    rw [hS, show s - 1 - q = s - (q + 1) by omega]
  have e4 := (win_split (f := f) (nb := nb) (mm := mm) (i := q)).2.2.2
  rw [e3, ← e2, e1, Nat.div_div_eq_div_mul]
  have e5 : 2 * 2 ^ (mm - 1) = 2 ^ mm := by rw [Nat.mul_comm, ← Nat.pow_succ]; congr 1; omega
  rw [e5, e4, numAt_1, rg_in hq]
  have := hfb q hq
  split <;> omega
