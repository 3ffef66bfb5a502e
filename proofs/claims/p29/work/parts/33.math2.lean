/-! TRAIL: the way of least farness -/
def sumN (g : Nat → Nat) : Nat → Nat
  | 0 => 0
  | k + 1 => sumN g k + g k
theorem sumN_le {g h : Nat → Nat} : ∀ {k : Nat}, (∀ i, i < k → g i ≤ h i) → sumN g k ≤ sumN h k
  | 0, _ => Nat.le_refl _
  | k + 1, H => by have := sumN_le (k := k) (fun i hi => H i (by omega)); have := H k (by omega); unfold sumN; omega
theorem sumN_c {g h : Nat → Nat} : ∀ {k : Nat}, (∀ i, i < k → g i = h i) → sumN g k = sumN h k
  | 0, _ => rfl
  | k + 1, H => by unfold sumN; rw [sumN_c (k := k) (fun i hi => H i (by omega)), H k (by omega)]
theorem sumN_add (g h : Nat → Nat) : ∀ k, sumN (fun i => g i + h i) k = sumN g k + sumN h k
  | 0 => rfl
  | k + 1 => by unfold sumN; rw [sumN_add g h k]; omega
theorem sumN_app (g : Nat → Nat) (a : Nat) : ∀ b, sumN g (a + b) = sumN g a + sumN (fun i => g (a + i)) b
  | 0 => rfl
  | b + 1 => by show sumN g (a + b) + g (a + b) = sumN g a + (sumN (fun i => g (a + i)) b + g (a + b)); rw [sumN_app g a b]; omega
theorem sumN_part {g : Nat → Nat} {a b n : Nat} (h : a + b ≤ n) : sumN (fun i => g (a + i)) b ≤ sumN g n := by
  obtain ⟨c, rfl⟩ := Nat.le.dest h
  have h1 := sumN_app g a b
  have h2 := sumN_app g (a + b) c
  omega
theorem sumN_z {g : Nat → Nat} : ∀ {k : Nat}, sumN g k = 0 → ∀ i, i < k → g i = 0
  | 0, _, i, hi => absurd hi (Nat.not_lt_zero _)
  | k + 1, h, i, hi => by
    unfold sumN at h
    by_cases e : i = k
    · subst e; omega
    · exact sumN_z (k := k) (by omega) i (by omega)
/-- windows: the state ahead and the state behind -/
theorem ahd_eq {mm v : Nat} (h1 : 1 ≤ mm) : ahd mm v = 2 * (v % 2 ^ (mm - 1)) := by
  obtain ⟨k, rfl⟩ : ∃ k, mm = k + 1 := ⟨mm - 1, by omega⟩
  unfold ahd
  rw [Nat.and_two_pow_sub_one_eq_mod, Nat.pow_one, Nat.add_sub_cancel, Nat.pow_succ, Nat.mul_comm v 2, Nat.mul_comm (2 ^ k) 2, Nat.mul_mod_mul_left]
theorem or_low {b s mm : Nat} (h : s < 2 ^ mm) : b * 2 ^ mm ||| s = b * 2 ^ mm + s := by
  have := Nat.two_pow_add_eq_or_of_lt h b
  rw [Nat.mul_comm] at this
  exact this.symm
theorem wnd_eq {mm v : Nat} (h1 : 1 ≤ mm) (hv : v < 2 ^ mm) : wnd mm v = 2 * v := by
  obtain ⟨k, rfl⟩ : ∃ k, mm = k + 1 := ⟨mm - 1, by omega⟩
  have hp : 0 < 2 ^ k := Nat.two_pow_pos k
  have ha : ahd (k + 1) v < 2 ^ (k + 1) := by
    rw [ahd_eq h1, Nat.add_sub_cancel, Nat.pow_succ]
    have := Nat.mod_lt v hp; omega
  unfold wnd
  rw [or_low ha, ahd_eq h1, Nat.add_sub_cancel, Nat.pow_succ]
  have := Nat.div_add_mod v (2 ^ k)
  rw [← Nat.mul_assoc, Nat.mul_comm (v / 2 ^ k) (2 ^ k)]
  omega
theorem two_mod {mm v b : Nat} (h1 : 1 ≤ mm) (hb : b ≤ 1) : (2 * v + b) % 2 ^ mm = ahd mm v + b := by
  obtain ⟨k, rfl⟩ : ∃ k, mm = k + 1 := ⟨mm - 1, by omega⟩
  have hp : 0 < 2 ^ k := Nat.two_pow_pos k
  have hm := Nat.mod_lt v hp
  rw [ahd_eq h1, Nat.add_sub_cancel, Nat.pow_succ]
  have e := Nat.div_add_mod v (2 ^ k)
  have : 2 * v + b = (2 * (v % 2 ^ k) + b) + 2 ^ k * 2 * (v / 2 ^ k) := by
    rw [Nat.mul_comm (2 ^ k) 2, Nat.mul_assoc]; omega
  rw [this, Nat.add_mul_mod_self_left, Nat.mod_eq_of_lt (by omega)]
/-- a step of the lattice: over any window, and by the one that is kept -/
theorem frg_bit {fg tab : Nat → Nat} {mm b k : Nat} : ∀ n v, v < n → frg fg tab mm b k n / 2 ^ v % 2 = if hiN fg tab mm b k v < loN fg tab mm b k v then 1 else 0
  | 0, v, h => absurd h (Nat.not_lt_zero _)
  | n + 1, v, h => by
    have hl := @frg_lt fg tab mm b k n
    by_cases e : v = n
    · subst e
      by_cases z : hiN fg tab mm b k v < loN fg tab mm b k v
      · rw [← frg_t z, if_pos z, Nat.or_comm, or_low hl, Nat.one_mul]
        rw [show 2 ^ v + frg fg tab mm b k v = frg fg tab mm b k v + 2 ^ v * 1 by omega, Nat.add_mul_div_left _ _ (Nat.two_pow_pos v), Nat.div_eq_of_lt hl]
      · rw [frg_f (by omega), if_neg z, Nat.div_eq_of_lt hl]
    · have ih := frg_bit (fg := fg) (tab := tab) (mm := mm) (b := b) (k := k) n v (by omega)
      by_cases z : hiN fg tab mm b k n < loN fg tab mm b k n
      · rw [← frg_t z, Nat.or_comm, or_low hl, Nat.one_mul, ← ih]
        obtain ⟨d, rfl⟩ : ∃ d, n = v + d + 1 := ⟨n - v - 1, by omega⟩
        rw [show 2 ^ (v + d + 1) + frg fg tab mm b k (v + d + 1) = frg fg tab mm b k (v + d + 1) + 2 ^ v * (2 * 2 ^ d) by rw [Nat.pow_succ, Nat.pow_add, Nat.mul_comm 2 (2 ^ d), Nat.mul_assoc]; omega, Nat.add_mul_div_left _ _ (Nat.two_pow_pos v)]
        omega
      · rw [frg_f (by omega)]; exact ih
section VIT
variable {tab r : Nat → Nat} {na mm kk : Nat}
/-- the lattice's farness behind i steps -/
abbrev vf (tab r : Nat → Nat) (na mm kk i : Nat) : Nat → Nat := (vit tab r na mm kk (fun _ => 0) (fun _ => 0) (fun _ => 0) i).1
/-- how far a window's bits are from those that came at step i -/
def wf (tab r : Nat → Nat) (na kk i w : Nat) : Nat := farT tab (numAt r na (i * kk) kk) (knoAt r na (i * kk) kk) w
theorem vf_s {i v : Nat} (h1 : 1 ≤ mm) (h4 : mm ≤ 4) (hv : v < 2 ^ mm) : vf tab r na mm kk (i + 1) v = min (vf tab r na mm kk i (ahd mm v) + wf tab r na kk i (2 * v)) (vf tab r na mm kk i (ahd mm v + 1) + wf tab r na kk i (2 * v + 1)) := by
  show lcop _ (nxt _ tab mm _ _ _ (2 ^ mm)) (2 ^ mm) v = _
  unfold lcop nxt
  rw [if_pos hv, if_pos hv]
  unfold loN hiN wf
  rw [wnd_eq h1 hv]
theorem vf_le {i w : Nat} (h1 : 1 ≤ mm) (h4 : mm ≤ 4) (hw : w < 2 ^ (mm + 1)) : vf tab r na mm kk (i + 1) (w / 2) ≤ vf tab r na mm kk i (w % 2 ^ mm) + wf tab r na kk i w := by
  rw [Nat.pow_succ] at hw
  have hv : w / 2 < 2 ^ mm := by omega
  rw [vf_s h1 h4 hv]
  rcases Nat.mod_two_eq_zero_or_one w with z | z
  · have e : w = 2 * (w / 2) + 0 := by omega
    have m0 := two_mod (mm := mm) (v := w / 2) (b := 0) h1 (by omega)
    rw [← e] at m0
    have e2 : 2 * (w / 2) = w := by omega
    rw [e2, m0, Nat.add_zero]; exact Nat.min_le_left _ _
  · have e : w = 2 * (w / 2) + 1 := by omega
    have m0 := two_mod (mm := mm) (v := w / 2) (b := 1) h1 (by omega)
    rw [← e] at m0
    rw [m0]
    refine Nat.le_trans (Nat.min_le_right _ _) ?_
    rw [← e]; exact Nat.le_refl _
theorem vf_at {i v : Nat} (h1 : 1 ≤ mm) (h4 : mm ≤ 4) (hv : v < 2 ^ mm) : ∃ b, b ≤ 1 ∧ frg (vf tab r na mm kk i) tab mm (numAt r na (i * kk) kk) (knoAt r na (i * kk) kk) (2 ^ mm) / 2 ^ v % 2 = b ∧ vf tab r na mm kk (i + 1) v = vf tab r na mm kk i (ahd mm v + b) + wf tab r na kk i (2 * v + b) := by
  rw [frg_bit _ v hv, vf_s h1 h4 hv]
  have e1 : loN (vf tab r na mm kk i) tab mm (numAt r na (i * kk) kk) (knoAt r na (i * kk) kk) v = vf tab r na mm kk i (ahd mm v) + wf tab r na kk i (2 * v) := by unfold loN wf; rw [wnd_eq h1 hv]
  have e2 : hiN (vf tab r na mm kk i) tab mm (numAt r na (i * kk) kk) (knoAt r na (i * kk) kk) v = vf tab r na mm kk i (ahd mm v + 1) + wf tab r na kk i (2 * v + 1) := by unfold hiN wf; rw [wnd_eq h1 hv]
  rw [e1, e2]
  by_cases z : vf tab r na mm kk i (ahd mm v + 1) + wf tab r na kk i (2 * v + 1) < vf tab r na mm kk i (ahd mm v) + wf tab r na kk i (2 * v)
  · exact ⟨1, Nat.le_refl _, if_pos z, Nat.min_eq_right (Nat.le_of_lt z)⟩
  · exact ⟨0, by omega, if_neg z, Nat.min_eq_left (by omega)⟩
theorem vit_w2 {i : Nat} : ∀ {k : Nat}, i < k → (vit tab r na mm kk (fun _ => 0) (fun _ => 0) (fun _ => 0) k).2.2 i = frg (vf tab r na mm kk i) tab mm (numAt r na (i * kk) kk) (knoAt r na (i * kk) kk) (2 ^ mm)
  | 0, h => absurd h (Nat.not_lt_zero _)
  | k + 1, h => by
    show nup _ k _ i = _
    by_cases e : i = k
    · subst e; exact nup_s
    · rw [nup_n e]; exact vit_w2 (by omega)
/-- the state of the kept way, ahead of step i; its window at step i -/
def tS (tab r : Nat → Nat) (na mm kk steps i : Nat) : Nat := tbk mm steps (vit tab r na mm kk (fun _ => 0) (fun _ => 0) (fun _ => 0) steps).2.2 (steps - i)
theorem tS_end {steps : Nat} : tS tab r na mm kk steps steps = 0 := by unfold tS; rw [Nat.sub_self]; rfl
theorem tS_lt {steps i : Nat} (h1 : 1 ≤ mm) (h4 : mm ≤ 4) : tS tab r na mm kk steps i < 2 ^ mm := tbk_lt h1 h4 _
def tW (tab r : Nat → Nat) (na mm kk steps i : Nat) : Nat := 2 * tS tab r na mm kk steps (i + 1) + frg (vf tab r na mm kk i) tab mm (numAt r na (i * kk) kk) (knoAt r na (i * kk) kk) (2 ^ mm) / 2 ^ tS tab r na mm kk steps (i + 1) % 2
theorem tS_step {steps i : Nat} (h1 : 1 ≤ mm) (h4 : mm ≤ 4) (h320 : steps ≤ 320) (hi : i < steps) : tW tab r na mm kk steps i < 2 ^ (mm + 1) ∧ tW tab r na mm kk steps i % 2 ^ mm = tS tab r na mm kk steps i ∧ tW tab r na mm kk steps i / 2 = tS tab r na mm kk steps (i + 1) ∧ vf tab r na mm kk (i + 1) (tS tab r na mm kk steps (i + 1)) = vf tab r na mm kk i (tS tab r na mm kk steps i) + wf tab r na kk i (tW tab r na mm kk steps i) := by
  have hv : tS tab r na mm kk steps (i + 1) < 2 ^ mm := tS_lt h1 h4
  obtain ⟨b, hb, hbit, hcost⟩ := vf_at (tab := tab) (r := r) (na := na) (kk := kk) (i := i) h1 h4 hv
  have e : tS tab r na mm kk steps i = ahd mm (tS tab r na mm kk steps (i + 1)) + b := by
    rw [← hbit]
    have e1 : steps - i = (steps - (i + 1)) + 1 := by omega
    have e2 : steps - (steps - (i + 1)) - 1 = i := by omega
    show tbk mm steps _ (steps - i) = _
    rw [e1]
    show ahd mm _ + rg _ 320 (steps - (steps - (i + 1)) - 1) / _ % 2 = _
    rw [e2, rg_in (by omega), vit_w2 hi]
    rfl
  have ew : tW tab r na mm kk steps i = 2 * tS tab r na mm kk steps (i + 1) + b := by unfold tW; rw [hbit]
  rw [ew]
  refine ⟨by rw [Nat.pow_succ]; omega, ?_, by omega, ?_⟩
  · rw [two_mod h1 hb, e]
  · rw [e]; exact hcost
theorem tW_sum {steps : Nat} (h1 : 1 ≤ mm) (h4 : mm ≤ 4) (h320 : steps ≤ 320) : ∀ k, k ≤ steps → vf tab r na mm kk k (tS tab r na mm kk steps k) = vf tab r na mm kk 0 (tS tab r na mm kk steps 0) + sumN (fun i => wf tab r na kk i (tW tab r na mm kk steps i)) k
  | 0, _ => rfl
  | k + 1, hk => by
    have a := (tS_step (tab := tab) (r := r) (na := na) (kk := kk) h1 h4 h320 (show k < steps by omega)).2.2.2
    rw [a, tW_sum h1 h4 h320 k (by omega)]
    show _ = _ + (sumN (fun i => wf tab r na kk i (tW tab r na mm kk steps i)) k + wf tab r na kk k (tW tab r na mm kk steps k)); omega
theorem way_le {st U : Nat → Nat} {steps : Nat} (h1 : 1 ≤ mm) (h4 : mm ≤ 4) (hU : ∀ i, i < steps → U i < 2 ^ (mm + 1) ∧ U i % 2 ^ mm = st i ∧ U i / 2 = st (i + 1)) : ∀ k, k ≤ steps → vf tab r na mm kk k (st k) ≤ vf tab r na mm kk 0 (st 0) + sumN (fun i => wf tab r na kk i (U i)) k
  | 0, _ => Nat.le_refl _
  | k + 1, hk => by
    have ih := way_le h1 h4 hU k (by omega)
    obtain ⟨u1, u2, u3⟩ := hU k (by omega)
    have a := vf_le (tab := tab) (r := r) (na := na) (kk := kk) (i := k) h1 h4 u1
    rw [u2, u3] at a
    show _ ≤ _ + (sumN (fun i => wf tab r na kk i (U i)) k + wf tab r na kk k (U k)); omega
end VIT
