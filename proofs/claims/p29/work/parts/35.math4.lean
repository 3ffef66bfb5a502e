/-! a stage alone, few bits wrong; all stages, none wrong -/
theorem dec_ok {w : WV} {nb e : Nat} {f r : Nat → Nat} (hw : gok w) (hk : w.1 = 0 ∨ w.1 = 1 ∨ w.1 = 3) (hs : sSize w nb ≤ 320) (hf : ∀ q, q < nb → f q ≤ 1) (hr : ∀ q, q < sSize w nb → r q ≤ 1) (hD : cnt (dif r (sCode w nb f)) (sSize w nb) ≤ e) (he6 : e < 1000000) (he : 2 * e < sApart w) (he8 : e = 0 ∨ nb ≤ 8) : ∀ q, q < nb → sDec w nb (sSize w nb) r q = f q := by
  intro q hq
  have hw0 := hw
  rcases hw with ⟨h, h2, h5⟩ | ⟨h, h1, h4, hm, h10, a1, a2, a3, a4, b1, b2, b3, b4, ht⟩ | ⟨h, -⟩ | ⟨h, h1, h4, f1, f2, f3, b1, b2, b3, hkk, ht, h01⟩ | ⟨h, -⟩
  · have e0 : sSize w nb = nb * w.2.1 := by unfold sSize; rw [if_pos h]
    have e1 : sCode w nb f = fun q => if rg f nb (q / w.2.1) = 1 then 1 else 0 := by funext q; unfold sCode; rw [if_pos h]
    have e2 : sApart w = w.2.1 := by unfold sApart; rw [if_pos h]
    rw [e0] at hr hD ⊢; rw [e1] at hD; rw [e2] at he
    unfold sDec; rw [if_pos h]
    exact rep_ok h5 hf hr hD he hq
  · have n0 : ¬ w.1 = 0 := by omega
    have e0 : sSize w nb = blk nb w.2.1 * w.2.2.1 := by unfold sSize; rw [if_neg n0, if_pos h]
    have e1 : sCode w nb f = fun q => rg (bwt w.2.1 a1 a2 a3 a4 16) 16 (numAt f nb (q / w.2.2.1 * w.2.1) w.2.1) / 2 ^ (w.2.2.1 - 1 - q % w.2.2.1) % 2 := by funext q; unfold sCode; rw [if_neg n0, if_pos h, ht]
    have e2 : sApart w = leaN (bwt w.2.1 a1 a2 a3 a4 16) w.2.2.1 (2 ^ w.2.1) := by unfold sApart; rw [if_neg n0, if_pos h, ht]
    rw [e0] at hr hD ⊢; rw [e1] at hD; rw [e2] at he
    have hq2 : q / w.2.1 < blk nb w.2.1 := Nat.div_lt_of_lt_mul (by rw [Nat.mul_comm]; exact Nat.lt_of_lt_of_le hq (blk_ge h1))
    have hm2 : q % w.2.1 < w.2.1 := Nat.mod_lt _ h1
    have e3 : q / w.2.1 * w.2.1 + q % w.2.1 = q := by rw [Nat.mul_comm]; exact Nat.div_add_mod q _
    unfold sDec; rw [if_neg n0, if_pos h, ht, blk_ok h1 h4 h10 b1 b2 b3 b4 hf hr hD he hq2, numAt_bit _ hm2, e3, rg_in hq]
    have := hf q hq
    split <;> omega
  · omega
  · have n0 : ¬ w.1 = 0 := by omega
    have n1 : ¬ w.1 = 1 := by omega
    have n2 : ¬ w.1 = 2 := by omega
    have e0 : sSize w nb = stp w.2.1 nb * mk3 f3 := by unfold sSize; rw [if_neg n0, if_neg n1, if_neg n2, if_pos h, hkk]
    have e1 : sCode w nb f = trF (ttab f1 f2 f3 32) f nb w.2.1 (mk3 f3) := by funext q; unfold sCode; rw [if_neg n0, if_neg n1, if_neg n2, if_pos h, ht, hkk]
    have e2 : sApart w = trA (ttab f1 f2 f3 32) w.2.1 (mk3 f3) := by unfold sApart; rw [if_neg n0, if_neg n1, if_pos h, ht, hkk]
    have h160 := (stp_320 hw0 h hs).1
    rw [e0] at hr hD ⊢; rw [e1] at hD; rw [e2] at he
    unfold sDec; rw [if_neg n0, if_neg n1, if_neg n2, if_pos h, ht, hkk]
    refine trl_ok h1 h4 h01 b1 h160 hf hr hD he6 ?_ hq
    rcases he8 with z | z
    · exact Or.inl z
    · refine Or.inr ⟨he, ?_⟩
      have := @stp_le w.2.1 nb
      omega
  · omega
theorem dec_24 {w : WV} {nb : Nat} {f r : Nat → Nat} (hw : gok w) (hk : w.1 = 2 ∨ w.1 = 4) (hf : ∀ q, q < nb → f q ≤ 1) (hr : ∀ q, q < sSize w nb → r q = sCode w nb f q) : ∀ q, q < nb → sDec w nb (sSize w nb) r q = f q := by
  intro q hq
  have hfq := hf q hq
  have n0 : ¬ w.1 = 0 := by omega
  have n1 : ¬ w.1 = 1 := by omega
  rcases hw with ⟨h, -⟩ | ⟨h, -⟩ | ⟨h, d1, d2, h1, h32⟩ | ⟨h, -⟩ | ⟨h, h1, h10, c1, c10⟩
  · omega
  · omega
  · have e0 : sSize w nb = blk nb w.2.2.1 * (w.2.2.1 + degN w.2.1 9) := by unfold sSize; rw [if_neg n0, if_neg n1, if_pos h]
    have hm2 : q % w.2.2.1 < w.2.2.1 := Nat.mod_lt _ h1
    have hq2 : q / w.2.2.1 < blk nb w.2.2.1 := Nat.div_lt_of_lt_mul (by rw [Nat.mul_comm]; exact Nat.lt_of_lt_of_le hq (blk_ge h1))
    have e3 : q / w.2.2.1 * w.2.2.1 + q % w.2.2.1 = q := by rw [Nat.mul_comm]; exact Nat.div_add_mod q _
    have hin : q / w.2.2.1 * (w.2.2.1 + degN w.2.1 9) + q % w.2.2.1 < sSize w nb := by
      rw [e0]
      have := Nat.mul_le_mul_right (w.2.2.1 + degN w.2.1 9) (Nat.succ_le_of_lt hq2)
      rw [Nat.succ_mul] at this; omega
    have a := hr _ hin
    unfold sDec; rw [if_neg n0, if_neg n1, if_pos h]
    unfold chkD
    rw [rg_in hin, a]
    unfold sCode; rw [if_neg n0, if_neg n1, if_pos h, ← chkF_1 hm2, e3, numAt_1, rg_in hq]
    split <;> omega
  · omega
  · have n2 : ¬ w.1 = 2 := by omega
    have n3 : ¬ w.1 = 3 := by omega
    have e0 : sSize w nb = blk nb (w.2.1 * w.2.2.1) * w.2.1 * w.2.2.1 := by unfold sSize; rw [if_neg n0, if_neg n1, if_neg n2, if_neg n3]
    have hin : wvI w.2.1 w.2.2.1 q < sSize w nb := by rw [e0]; exact wvI_lt (k := 0) h1 c1 hq
    have a := hr _ hin
    unfold sDec; rw [if_neg n0, if_neg n1, if_neg n2, if_neg n3, rg_in hin, a]
    unfold sCode; rw [if_neg n0, if_neg n1, if_neg n2, if_neg n3]
    unfold wvF
    rw [wvN_I h1 c1, numAt_1, rg_in hq]
    split <;> omega
theorem dec_all {w : WV} {nb : Nat} {f r : Nat → Nat} (hw : gok w) (hs : sSize w nb ≤ 320) (ha : 0 < sApart w) (hf : ∀ q, q < nb → f q ≤ 1) (hr : ∀ q, q < sSize w nb → r q = sCode w nb f q) : ∀ q, q < nb → sDec w nb (sSize w nb) r q = f q := by
  have hk : (w.1 = 0 ∨ w.1 = 1 ∨ w.1 = 3) ∨ w.1 = 2 ∨ w.1 = 4 := by
    rcases hw with ⟨h, -⟩ | ⟨h, -⟩ | ⟨h, -⟩ | ⟨h, -⟩ | ⟨h, -⟩ <;> omega
  rcases hk with hk | hk
  · exact dec_ok (e := 0) hw hk hs hf (fun q hq => by rw [hr q hq]; exact sCode_le q) (by rw [cnt_none fun i hi => by unfold dif; exact decide_eq_false (fun z => z (hr i hi))]; exact Nat.le_refl _) (by decide) (by omega) (Or.inl rfl)
  · exact dec_24 hw hk hf hr
theorem Cod.le1 {ws : Nat → WV} {n : Nat} {V : RV} (h : Cod ws n V) (hb : ∀ q, q < V.1 0 → V.2 0 q ≤ 1) : ∀ j, j ≤ n → ∀ q, q < V.1 j → V.2 j q ≤ 1
  | 0, _ => hb
  | j + 1, hj => fun q hq => by rw [(h j (by omega)).2 q hq]; exact sCode_le q
theorem back_ok {ws : Nat → WV} {n : Nat} {V : RV} {f : Nat → Nat} (hw : ∀ j, j < n → gok (ws j)) (h320 : ∀ j, j ≤ n → V.1 j ≤ 320) (hC : Cod ws n V) (hb : ∀ q, q < V.1 0 → V.2 0 q ≤ 1) (ha : ∀ j, j < n → 0 < sApart (ws j)) (hf : ∀ q, q < V.1 n → f q = V.2 n q) : ∀ d, d ≤ n → ∀ q, q < V.1 (n - d) → dRow ws V.1 n f d q = V.2 (n - d) q
  | 0, _ => hf
  | d + 1, hd => fun q hq => by
    have ih := back_ok hw h320 hC hb ha hf d (by omega)
    have e1 : n - d - 1 + 1 = n - d := by omega
    have e2 : n - (d + 1) = n - d - 1 := by omega
    have hs := hC (n - d - 1) (by omega)
    rw [e1] at hs
    rw [e2] at hq ⊢
    show sDec (ws (n - d - 1)) (V.1 (n - d - 1)) (V.1 (n - d)) (dRow ws V.1 n f d) q = _
    rw [hs.1]
    exact dec_all (hw _ (by omega)) (by rw [← hs.1]; exact h320 _ (by omega)) (ha _ (by omega)) (hC.le1 hb _ (by omega)) (fun q hq => by rw [← hs.1] at hq; rw [ih q hq]; exact hs.2 q hq) q hq
theorem eOf_0 {ws : Nat → WV} {n : Nat} {V : RV} {f : Nat → Nat} (h : ∀ q, q < V.1 0 → dRow ws V.1 n f n q = V.2 0 q) : eOf ws n V f = 0 := by
  unfold eOf
  refine cnt_none fun i hi => ?_
  unfold isOther
  rw [rg_in hi, rg_in hi, h i hi]
  exact decide_eq_false (fun z => z rfl)
theorem cnt_win {f : Nat → Bool} {a m : Nat} (h : ∀ q, f q = true → a ≤ q ∧ q < a + m) : ∀ k, cnt f k ≤ m ∧ (k ≤ a → cnt f k = 0) ∧ (a ≤ k → k ≤ a + m → cnt f k ≤ k - a)
  | 0 => ⟨Nat.zero_le _, fun _ => rfl, fun _ _ => Nat.zero_le _⟩
  | k + 1 => by
    obtain ⟨i1, i2, i3⟩ := cnt_win h k
    by_cases z : f k = true
    · have := h k z
      rw [cnt_t z]
      have := i3 (by omega) (by omega)
      exact ⟨by omega, fun _ => by omega, fun _ _ => by omega⟩
    · have z' : f k = false := by cases y : f k; rfl; exact absurd y z
      rw [cnt_f z']
      exact ⟨i1, fun _ => i2 (by omega), fun a1 a2 => by
        by_cases y : k < a
        · rw [i2 (by omega)]; omega
        · have := i3 (by omega) (by omega); omega⟩
/-- fewer errors in a row than half of what the words are apart don't break a stage alone -/
theorem brk_ok {ws : Nat → WV} {V : RV} {fr : Nat} (hw : gok (ws 0)) (hk : (ws 0).1 = 0 ∨ (ws 0).1 = 1 ∨ (ws 0).1 = 3) (h8 : V.1 0 ≤ 8) (h320 : V.1 1 ≤ 320) (hC : Cod ws 1 V) (hb : ∀ q, q < V.1 0 → V.2 0 q ≤ 1) (hd : 0 < sApart (ws 0)) (h0 : brkN ws 1 V fr ≠ 0) : (sApart (ws 0) - 1) / 2 < brkN ws 1 V fr := by
  refine Nat.lt_of_not_le fun hle => ?_
  have hs := hC 0 (by omega)
  obtain ⟨h1, h2⟩ := brk_e h0
  have hle1 : ∀ q, q < V.1 1 → V.2 1 q ≤ 1 := hC.le1 hb 1 (Nat.le_refl _)
  have hz : eOf ws 1 V (trn (V.2 1) fr (brkN ws 1 V fr)) = 0 := by
    refine eOf_0 fun q hq => ?_
    show sDec (ws 0) (V.1 0) (V.1 1) (trn (V.2 1) fr (brkN ws 1 V fr)) q = _
    rw [hs.1]
    refine dec_ok (e := brkN ws 1 V fr) hw hk (by rw [← hs.1]; exact h320) hb (fun q hq => ?_) ?_ (by unfold brkN at *; omega) (by omega) (Or.inr h8) q hq
    · rw [← hs.1] at hq
      have := hle1 q hq
      unfold trn; split <;> omega
    · refine Nat.le_trans ?_ (cnt_win (f := dif (trn (V.2 1) fr (brkN ws 1 V fr)) (V.2 1)) (a := fr) (m := brkN ws 1 V fr) (fun q hq => ?_) (sSize (ws 0) (V.1 0))).1
      · refine cnt_mono' fun i hi h => ?_
        unfold dif at h ⊢
        rw [← hs.1] at hi
        rw [hs.2 i hi]; exact h
      · refine Classical.byContradiction fun hn => ?_
        unfold dif at hq
        have := of_decide_eq_true hq
        refine this ?_
        unfold trn; rw [if_neg (fun z => hn ⟨z.1, z.2.1⟩)]
  have h1' : 0 < eOf ws 1 V (trn (V.2 1) fr (brkN ws 1 V fr)) := h1
  omega
