/-- how many 1s a number of at most twelve bits has -/
def bcF : Nat → Nat → Nat
  | 0, _ => 0
  | k + 1, a => a % 2 + bcF k (a / 2)
def bc (a : Nat) : Nat := bcF 12 a
def bc1 (a : Nat) : Nat := a - (a / 2 ^ 1 &&& 1431655765)
def bc2 (i : Nat) : Nat := (i &&& 858993459) + (i / 2 ^ 2 &&& 858993459)
def bc3 (i : Nat) : Nat := (i + i / 2 ^ 4) &&& 252645135
def bc4 (i : Nat) : Nat := i + i / 2 ^ 8
def bc5 (i : Nat) : Nat := i + i / 2 ^ 16
theorem bc_E {a : Nat} (h : a < 4096) : bc5 (bc4 (bc3 (bc2 (bc1 a)))) &&& 63 = bc a :=
  co_dec (N := 4096) (P := fun a => bc5 (bc4 (bc3 (bc2 (bc1 a)))) &&& 63 = bc a) (by decide +kernel) h
theorem bcF_le : ∀ k a, bcF k a ≤ k
  | 0, _ => Nat.le_refl 0
  | k + 1, a => by have := bcF_le k (a / 2); have := Nat.mod_lt a (show 0 < 2 by decide); unfold bcF; omega
theorem bc_le12 (a : Nat) : bc a ≤ 12 := bcF_le 12 a
theorem bcF_2 (k x b : Nat) (hb : b < 2) : bcF (k + 1) (x * 2 + b) = b + bcF k x := by
  have h1 : (x * 2 + b) % 2 = b := by omega
  have h2 : (x * 2 + b) / 2 = x := by omega
  simp [bcF, h1, h2]
/-- 1s among some bits, and known ones -/
def isOneAt (g : Nat → Nat) (n j : Nat) : Nat → Bool := fun q => decide (rg g n (j + q) = 1)
def isKnoAt (g : Nat → Nat) (n j : Nat) : Nat → Bool := fun q => decide (rg g n (j + q) ≠ 2)
theorem bcF_num (g : Nat → Nat) (n j : Nat) : ∀ w k, w ≤ k → bcF k (numAt g n j w) = cnt (isOneAt g n j) w
  | 0, k, _ => by
    have : ∀ k, bcF k 0 = 0 := fun k => by induction k with
      | zero => rfl
      | succ k ih => simp [bcF, ih]
    exact this k
  | w + 1, 0, h => absurd h (by omega)
  | w + 1, k + 1, h => by
    have ih := bcF_num g n j w k (by omega)
    unfold numAt cnt
    rw [bcF_2 _ _ _ (by split <;> omega), ih]
    by_cases h1 : rg g n (j + w) = 1 <;> simp [isOneAt, h1, Nat.add_comm]
theorem bcF_kno (g : Nat → Nat) (n j : Nat) : ∀ w k, w ≤ k → bcF k (knoAt g n j w) = cnt (isKnoAt g n j) w
  | 0, k, _ => by
    have : ∀ k, bcF k 0 = 0 := fun k => by induction k with
      | zero => rfl
      | succ k ih => simp [bcF, ih]
    exact this k
  | w + 1, 0, h => absurd h (by omega)
  | w + 1, k + 1, h => by
    have ih := bcF_kno g n j w k (by omega)
    unfold knoAt cnt
    rw [bcF_2 _ _ _ (by split <;> omega), ih]
    by_cases h1 : rg g n (j + w) = 2 <;> simp [isKnoAt, h1, Nat.add_comm]
theorem cnt_mono {f g : Nat → Bool} (h : ∀ q, f q = true → g q = true) : ∀ k, cnt f k ≤ cnt g k
  | 0 => Nat.le_refl 0
  | k + 1 => by
    have := cnt_mono h k
    unfold cnt
    by_cases hf : f k = true
    · simp [hf, h k hf, this]
    · have h2 : f k = false := by simpa using hf
      rw [h2]
      exact Nat.le_trans this (Nat.le_add_right _ _)
theorem bc_num_kno {g : Nat → Nat} {n j w : Nat} (hw : w ≤ 12) : bc (numAt g n j w) ≤ bc (knoAt g n j w) := by
  unfold bc
  rw [bcF_num g n j w 12 hw, bcF_kno g n j w 12 hw]
  refine cnt_mono (fun q h => ?_) w
  simp only [isOneAt, isKnoAt, decide_eq_true_eq] at h ⊢
  omega
/-- repeat -/
def repl (gb : Nat → Nat) (nb : Nat) (ga : Nat → Nat) (na t k : Nat) : Nat → Nat := fun q => if q < k ∧ q < nb then (if rg ga na (q / t) = 1 then 1 else 0) else gb q
theorem repl_0 {gb : Nat → Nat} {nb : Nat} {ga : Nat → Nat} {na t : Nat} : repl gb nb ga na t 0 = gb := by funext q; simp [repl]
theorem repl_s {gb : Nat → Nat} {nb : Nat} {ga : Nat → Nat} {na t p i : Nat} (hi : i < t) : rput (repl gb nb ga na t (p * t + i)) nb (p * t + i) (numAt ga na p 1) = repl gb nb ga na t (p * t + (i + 1)) := by
  funext q
  have e : (p * t + i) / t = p := by
    rw [Nat.mul_comm, Nat.mul_add_div (by omega), Nat.div_eq_of_lt hi, Nat.add_zero]
  by_cases hq : q = p * t + i
  · subst hq
    by_cases h : p * t + i < nb
    · simp [rput, repl, h, e, numAt]
    · simp [rput, repl, h]
  · have : q < p * t + (i + 1) ↔ q < p * t + i := by omega
    simp [rput, repl, hq, this]
theorem repl_le {gb : Nat → Nat} {nb : Nat} {ga : Nat → Nat} {na t k : Nat} (hg : ∀ q, gb q ≤ 2) : ∀ q, repl gb nb ga na t k q ≤ 2 := by
  intro q; unfold repl; split
  · split <;> omega
  · exact hg q
def vote (ga : Nat → Nat) (na t p : Nat) : Nat :=
  if bc (knoAt ga na (p * t) t) - bc (numAt ga na (p * t) t) < bc (numAt ga na (p * t) t) then 1 else if bc (numAt ga na (p * t) t) < bc (knoAt ga na (p * t) t) - bc (numAt ga na (p * t) t) then 0 else 2
def rvot (gb ga : Nat → Nat) (na t k : Nat) : Nat → Nat := fun q => if q < k then vote ga na t q else gb q
theorem rvot_0 {gb ga : Nat → Nat} {na t : Nat} : rvot gb ga na t 0 = gb := by funext q; simp [rvot]
theorem rvot_s {gb ga : Nat → Nat} {na t p nb v : Nat} (hp : p < nb) (hv : v = vote ga na t p) : rput (rvot gb ga na t p) nb p v = rvot gb ga na t (p + 1) := by
  funext q
  by_cases hq : q = p
  · subst hq; simp [rput, rvot, hp, hv]
  · have : q < p + 1 ↔ q < p := by omega
    simp [rput, rvot, hq, this]
theorem rvot_le {gb ga : Nat → Nat} {na t k : Nat} (hg : ∀ q, gb q ≤ 2) : ∀ q, rvot gb ga na t k q ≤ 2 := by
  intro q; unfold rvot; split
  · unfold vote; split
    · omega
    · split <;> omega
  · exact hg q
/-- blocks -/
def chN (v t c a : Nat) : Nat := if c ≤ t ∧ v / 2 ^ (t - c) % 2 = 1 then a else 0
def bwd (t a1 a2 a3 a4 v : Nat) : Nat := chN v t 1 a1 ^^^ chN v t 2 a2 ^^^ chN v t 3 a3 ^^^ chN v t 4 a4
def bwt (t a1 a2 a3 a4 k : Nat) : Nat → Nat := fun q => if q < k then bwd t a1 a2 a3 a4 q else 0
theorem bwt_0 {t a1 a2 a3 a4 : Nat} : bwt t a1 a2 a3 a4 0 = fun _ => 0 := by funext q; simp [bwt]
theorem bwt_s {t a1 a2 a3 a4 k : Nat} : nup (bwt t a1 a2 a3 a4 k) k (chN k t 1 a1 ^^^ chN k t 2 a2 ^^^ chN k t 3 a3 ^^^ chN k t 4 a4) = bwt t a1 a2 a3 a4 (k + 1) := by
  funext q
  by_cases hq : q = k
  · subst hq; simp [nup, bwt, bwd]
  · have : q < k + 1 ↔ q < k := by omega
    simp [nup, bwt, hq, this]
theorem chN_lt {v t c a : Nat} (h : a < 1024) : chN v t c a < 1024 := by unfold chN; split <;> omega
theorem bwt_lt {t a1 a2 a3 a4 k : Nat} (h1 : a1 < 1024) (h2 : a2 < 1024) (h3 : a3 < 1024) (h4 : a4 < 1024) : ∀ q, bwt t a1 a2 a3 a4 k q < 1024 := by
  intro q; unfold bwt; split
  · exact Nat.xor_lt_two_pow (n := 10) (Nat.xor_lt_two_pow (n := 10) (Nat.xor_lt_two_pow (n := 10) (chN_lt h1) (chN_lt h2)) (chN_lt h3)) (chN_lt h4)
  · omega
theorem rg_lt {g : Nat → Nat} {n j B : Nat} (hg : ∀ q, g q < B) : rg g n j < B := by
  unfold rg; split
  · exact hg j
  · exact Nat.lt_of_le_of_lt (Nat.zero_le _) (hg 0)
theorem two_pow_4 {k : Nat} (h : k ≤ 4) : 2 ^ k ≤ 16 := by
  have := Nat.pow_le_pow_right (n := 2) (by decide) h
  simpa using this
def leaN (tab : Nat → Nat) (m0 : Nat) : Nat → Nat
  | 0 => m0
  | v + 1 => if v = 0 then m0 else min (leaN tab m0 v) (bc (rg tab 16 v))
theorem leaN_s {tab : Nat → Nat} {m0 v : Nat} (h : 1 ≤ v) : min (leaN tab m0 v) (bc (rg tab 16 v)) = leaN tab m0 (v + 1) := by
  show _ = if v = 0 then m0 else min (leaN tab m0 v) (bc (rg tab 16 v))
  rw [if_neg (by omega)]
theorem leaN_le {tab : Nat → Nat} {m0 : Nat} : ∀ v, leaN tab m0 v ≤ m0
  | 0 => Nat.le_refl _
  | v + 1 => by
    have := leaN_le (tab := tab) (m0 := m0) v
    unfold leaN; split
    · exact Nat.le_refl _
    · exact Nat.le_trans (Nat.min_le_left _ _) this
def hasOnes (tab : Nat → Nat) (ones : Nat) : Nat → Bool := fun v => decide (bc (rg tab 16 v) = ones)
def farN (tab : Nat → Nat) (bits known v : Nat) : Nat := bc ((rg tab 16 v ^^^ bits) &&& known)
def near (tab : Nat → Nat) (bits known : Nat) : Nat → Nat × Nat
  | 0 => (1000000, 0)
  | v + 1 => if farN tab bits known v < (near tab bits known v).1 then (farN tab bits known v, v) else near tab bits known v
theorem near_t {tab : Nat → Nat} {bits known v : Nat} (h : farN tab bits known v < (near tab bits known v).1) : near tab bits known (v + 1) = (farN tab bits known v, v) := if_pos h
theorem near_f {tab : Nat → Nat} {bits known v : Nat} (h : (near tab bits known v).1 ≤ farN tab bits known v) : near tab bits known (v + 1) = near tab bits known v := if_neg (by omega)
theorem near_le {tab : Nat → Nat} {bits known : Nat} : ∀ v, (near tab bits known v).1 ≤ 1000000
  | 0 => Nat.le_refl _
  | v + 1 => by
    have := near_le (tab := tab) (bits := bits) (known := known) v
    unfold near; split
    · show farN _ _ _ _ ≤ _; omega
    · exact this
theorem near_lt {tab : Nat → Nat} {bits known : Nat} : ∀ v, (near tab bits known v).2 ≤ v
  | 0 => Nat.le_refl _
  | v + 1 => by
    have := near_lt (tab := tab) (bits := bits) (known := known) v
    unfold near; split
    · show v ≤ v + 1; omega
    · omega
def rblk (gb : Nat → Nat) (nb : Nat) (tab ga : Nat → Nat) (na t m k : Nat) : Nat → Nat := fun q => if q < k * m ∧ q < nb then rg tab 16 (numAt ga na (q / m * t) t) / 2 ^ (m - 1 - q % m) % 2 else gb q
theorem rblk_0 {gb : Nat → Nat} {nb : Nat} {tab ga : Nat → Nat} {na t m : Nat} : rblk gb nb tab ga na t m 0 = gb := by funext q; simp [rblk]
theorem rblk_s {gb : Nat → Nat} {nb : Nat} {tab ga : Nat → Nat} {na t m k : Nat} : rnum (rblk gb nb tab ga na t m k) nb (k * m) (rg tab 16 (numAt ga na (k * t) t)) m m = rblk gb nb tab ga na t m (k + 1) := by
  funext q
  have e : (k + 1) * m = k * m + m := Nat.succ_mul k m
  unfold rnum rblk
  by_cases h : k * m ≤ q ∧ q < k * m + m ∧ q < nb
  · have hm : 0 < m := by omega
    have e1 : q / m = k := by
      have hq : q = m * k + (q - k * m) := by rw [Nat.mul_comm m k]; omega
      rw [hq, Nat.mul_add_div hm, Nat.div_eq_of_lt (by omega), Nat.add_zero]
    have e2 : q % m = q - k * m := by
      have hq : q = m * k + (q - k * m) := by rw [Nat.mul_comm m k]; omega
      have := Nat.mul_add_mod m k (q - k * m)
      rw [← hq] at this
      rw [this]; exact Nat.mod_eq_of_lt (by omega)
    rw [if_pos h, if_pos ⟨by omega, h.2.2⟩, e1, e2]
  · rw [if_neg h]
    by_cases h2 : q < k * m ∧ q < nb
    · rw [if_pos h2, if_pos ⟨by omega, h2.2⟩]
    · rw [if_neg h2, if_neg (by omega)]
theorem rblk_le {gb : Nat → Nat} {nb : Nat} {tab ga : Nat → Nat} {na t m k : Nat} (hg : ∀ q, gb q ≤ 2) : ∀ q, rblk gb nb tab ga na t m k q ≤ 2 := by
  intro q; unfold rblk; split
  · omega
  · exact hg q
def nearB (tab ga : Nat → Nat) (na t m k : Nat) : Nat := (near tab (numAt ga na (k * m) m) (knoAt ga na (k * m) m) (2 ^ t)).2
def rnea (gb : Nat → Nat) (nb : Nat) (tab ga : Nat → Nat) (na t m k : Nat) : Nat → Nat := fun q => if q < k * t ∧ q < nb then nearB tab ga na t m (q / t) / 2 ^ (t - 1 - q % t) % 2 else gb q
theorem rnea_0 {gb : Nat → Nat} {nb : Nat} {tab ga : Nat → Nat} {na t m : Nat} : rnea gb nb tab ga na t m 0 = gb := by funext q; simp [rnea]
theorem rnea_s {gb : Nat → Nat} {nb : Nat} {tab ga : Nat → Nat} {na t m k : Nat} : rnum (rnea gb nb tab ga na t m k) nb (k * t) (nearB tab ga na t m k) t t = rnea gb nb tab ga na t m (k + 1) := by
  funext q
  have e : (k + 1) * t = k * t + t := Nat.succ_mul k t
  unfold rnum rnea
  by_cases h : k * t ≤ q ∧ q < k * t + t ∧ q < nb
  · have hm : 0 < t := by omega
    have e1 : q / t = k := by
      have hq : q = t * k + (q - k * t) := by rw [Nat.mul_comm t k]; omega
      rw [hq, Nat.mul_add_div hm, Nat.div_eq_of_lt (by omega), Nat.add_zero]
    have e2 : q % t = q - k * t := by
      have hq : q = t * k + (q - k * t) := by rw [Nat.mul_comm t k]; omega
      have := Nat.mul_add_mod t k (q - k * t)
      rw [← hq] at this
      rw [this]; exact Nat.mod_eq_of_lt (by omega)
    rw [if_pos h, if_pos ⟨by omega, h.2.2⟩, e1, e2]
  · rw [if_neg h]
    by_cases h2 : q < k * t ∧ q < nb
    · rw [if_pos h2, if_pos ⟨by omega, h2.2⟩]
    · rw [if_neg h2, if_neg (by omega)]
theorem rnea_le {gb : Nat → Nat} {nb : Nat} {tab ga : Nat → Nat} {na t m k : Nat} (hg : ∀ q, gb q ≤ 2) : ∀ q, rnea gb nb tab ga na t m k q ≤ 2 := by
  intro q; unfold rnea; split
  · omega
  · exact hg q
theorem nearB_lt {tab ga : Nat → Nat} {na t m k : Nat} (ht : t ≤ 4) : nearB tab ga na t m k ≤ 16 := by
  unfold nearB
  have := near_lt (tab := tab) (bits := numAt ga na (k * m) m) (known := knoAt ga na (k * m) m) (2 ^ t)
  have := two_pow_4 ht
  omega
theorem blk_mul_le {n e : Nat} (h : 0 < e) : blk n e * e ≤ n + e := by
  unfold blk
  have := Nat.div_mul_le_self (n + e - 1) e
  omega
theorem lt_blk {k n e : Nat} (h : k < blk n e) : k * e ≤ n := by
  have he : 0 < e := by
    rcases Nat.eq_zero_or_pos e with rfl | he
    · rw [blk_0 (Or.inr rfl)] at h; omega
    · exact he
  have h1 : (k + 1) * e ≤ blk n e * e := Nat.mul_le_mul_right e h
  have h2 := Nat.div_mul_le_self (n + e - 1) e
  have h3 : (k + 1) * e = k * e + e := Nat.succ_mul k e
  unfold blk at h1
  omega
