/-- a row written place by place, as far as m -/
def rpos (F gb : Nat → Nat) (nb m : Nat) : Nat → Nat := fun q => if q < m ∧ q < nb then F q else gb q
theorem rpos_0 {F gb : Nat → Nat} {nb : Nat} : rpos F gb nb 0 = gb := by funext q; unfold rpos; rw [if_neg (by omega)]
theorem rpos_put {F gb : Nat → Nat} {nb m v : Nat} (h : v = F m) : rput (rpos F gb nb m) nb m v = rpos F gb nb (m + 1) := by
  funext q
  by_cases hq : q = m
  · subst hq
    by_cases hn : q < nb
    · simp [rput, rpos, hn, h]
    · simp [rput, rpos, hn]
  · have : q < m + 1 ↔ q < m := by omega
    simp [rput, rpos, hq, this]
theorem rpos_num {F gb : Nat → Nat} {nb m v w : Nat} (h : ∀ i, i < w → v / 2 ^ (w - 1 - i) % 2 = F (m + i)) : rnum (rpos F gb nb m) nb m v w w = rpos F gb nb (m + w) := by
  funext q
  unfold rnum rpos
  by_cases h1 : m ≤ q ∧ q < m + w ∧ q < nb
  · rw [if_pos h1, if_pos ⟨h1.2.1, h1.2.2⟩, h (q - m) (by omega), show m + (q - m) = q from by omega]
  · rw [if_neg h1]
    by_cases h2 : q < m ∧ q < nb
    · rw [if_pos h2, if_pos ⟨by omega, h2.2⟩]
    · rw [if_neg h2, if_neg (by omega)]
theorem rpos_le {F gb : Nat → Nat} {nb m : Nat} (hF : ∀ q, F q ≤ 2) (hg : ∀ q, gb q ≤ 2) : ∀ q, rpos F gb nb m q ≤ 2 := by
  intro q; unfold rpos; split
  · exact hF q
  · exact hg q
theorem numAt_1 {g : Nat → Nat} {n j : Nat} : numAt g n j 1 = if rg g n j = 1 then 1 else 0 := by simp [numAt]
theorem numAt_1le {g : Nat → Nat} {n j : Nat} : numAt g n j 1 ≤ 1 := by rw [numAt_1]; split <;> omega
theorem div_at {k e i : Nat} (h : i < e) : (k * e + i) / e = k := by
  rw [Nat.mul_comm, Nat.mul_add_div (by omega), Nat.div_eq_of_lt h, Nat.add_zero]
theorem mod_at {k e i : Nat} (h : i < e) : (k * e + i) % e = i := by
  rw [Nat.mul_comm, Nat.mul_add_mod, Nat.mod_eq_of_lt h]
/-- weave -/
def wvN (a c q : Nat) : Nat := q - q % (a * c) + q % (a * c) % a * c + q % (a * c) / a
def wvF (ga : Nat → Nat) (na a c : Nat) : Nat → Nat := fun q => numAt ga na (wvN a c q) 1
def rwd (gb : Nat → Nat) (nb : Nat) (ga : Nat → Nat) (na a c : Nat) : Nat → Nat → Nat
  | 0 => gb
  | k + 1 => rput (rwd gb nb ga na a c k) nb (wvN a c k) (rg ga na k)
theorem rwd_le {gb : Nat → Nat} {nb : Nat} {ga : Nat → Nat} {na a c : Nat} (hg : ∀ q, gb q ≤ 2) (ha : ∀ q, ga q ≤ 2) : ∀ k q, rwd gb nb ga na a c k q ≤ 2
  | 0, q => hg q
  | k + 1, q => by
    show rput (rwd gb nb ga na a c k) nb (wvN a c k) (rg ga na k) q ≤ 2
    unfold rput; split
    · exact rg_le ha na k
    · exact rwd_le hg ha k q
theorem wvN_le {a c q : Nat} (ha : 0 < a) (ha2 : a ≤ 10) (hc2 : c ≤ 10) : wvN a c q ≤ q + 200 := by
  unfold wvN
  have h1 : q % (a * c) % a < a := Nat.mod_lt _ ha
  have h2 : q % (a * c) % a * c ≤ 10 * 10 := Nat.mul_le_mul (by omega) hc2
  have h3 : q % (a * c) / a ≤ q % (a * c) := Nat.div_le_self _ _
  have h4 : q % (a * c) ≤ q := Nat.mod_le _ _
  omega
/-- checks -/
def degN (dv : Nat) : Nat → Nat
  | 0 => 0
  | v + 1 => if v ≠ 0 ∧ dv / 2 ^ v ≠ 0 then v else degN dv v
theorem degN_t {dv v : Nat} (h : dv / 2 ^ v = 0) : degN dv (v + 1) = degN dv v := if_neg (fun z => z.2 h)
theorem degN_f {dv v : Nat} (h0 : 1 ≤ v) (h : dv / 2 ^ v ≠ 0) : degN dv (v + 1) = v := if_pos ⟨by omega, h⟩
theorem degN_le {dv : Nat} : ∀ v, degN dv v ≤ v
  | 0 => Nat.le_refl 0
  | v + 1 => by have := degN_le (dv := dv) v; unfold degN; split <;> omega
def chX (ga : Nat → Nat) (na t st x i : Nat) : Nat := x * 2 + (if i < t ∧ rg ga na (st + i) = 1 then 1 else 0)
theorem chX_t {ga : Nat → Nat} {na t st x i : Nat} (h1 : i < t) (h2 : rg ga na (st + i) = 1) : x * 2 ^ 1 ||| 1 = chX ga na t st x i := by
  rw [or_1]; simp [chX, h1, h2]
theorem chX_f {ga : Nat → Nat} {na t st x i : Nat} (h : ¬ (i < t ∧ rg ga na (st + i) = 1)) : x * 2 ^ 1 ||| 0 = chX ga na t st x i := by
  rw [or_0]; simp [chX, h]
def rsN (ga : Nat → Nat) (na dv t r st : Nat) : Nat → Nat
  | 0 => 0
  | i + 1 => if chX ga na t st (rsN ga na dv t r st i) i &&& 1 * 2 ^ r = 0 then chX ga na t st (rsN ga na dv t r st i) i else chX ga na t st (rsN ga na dv t r st i) i ^^^ dv
theorem rsN_t {ga : Nat → Nat} {na dv t r st i : Nat} (h : chX ga na t st (rsN ga na dv t r st i) i &&& 1 * 2 ^ r = 0) : rsN ga na dv t r st (i + 1) = chX ga na t st (rsN ga na dv t r st i) i := if_pos h
theorem rsN_f {ga : Nat → Nat} {na dv t r st i : Nat} (h : chX ga na t st (rsN ga na dv t r st i) i &&& 1 * 2 ^ r ≠ 0) : rsN ga na dv t r st (i + 1) = chX ga na t st (rsN ga na dv t r st i) i ^^^ dv := if_neg h
theorem top_bit {x r : Nat} (h1 : 2 ^ r ≤ x) (h2 : x < 2 ^ (r + 1)) : x.testBit r = true := by
  rw [Nat.testBit_eq_decide_div_mod_eq]
  have h3 : x / 2 ^ r = 1 := by
    have ha : 1 ≤ x / 2 ^ r := (Nat.le_div_iff_mul_le (Nat.two_pow_pos r)).mpr (by omega)
    have hb : x / 2 ^ r < 2 := (Nat.div_lt_iff_lt_mul (Nat.two_pow_pos r)).mpr (by rw [Nat.pow_succ] at h2; omega)
    omega
  simp [h3]
theorem and_pow0 {X r : Nat} (h : X.testBit r = false) : X &&& 2 ^ r = 0 := by
  apply Nat.eq_of_testBit_eq
  intro i
  rw [Nat.testBit_and, Nat.testBit_two_pow, Nat.zero_testBit]
  by_cases hi : r = i
  · subst hi; simp [h]
  · simp [hi]
theorem and_pow1 {X r : Nat} (h : X.testBit r = true) : X &&& 2 ^ r ≠ 0 := fun z => by
  have h1 : (X &&& 2 ^ r).testBit r = false := by rw [z, Nat.zero_testBit]
  rw [Nat.testBit_and, Nat.testBit_two_pow, h] at h1
  simp at h1
theorem rsN_lt {ga : Nat → Nat} {na dv t r st : Nat} (h1 : 2 ^ r ≤ dv) (h2 : dv < 2 ^ (r + 1)) : ∀ i, rsN ga na dv t r st i < 2 ^ r
  | 0 => Nat.two_pow_pos r
  | i + 1 => by
    have ih := rsN_lt (ga := ga) (na := na) (t := t) (st := st) h1 h2 i
    have hx : chX ga na t st (rsN ga na dv t r st i) i < 2 ^ (r + 1) := by
      rw [Nat.pow_succ]; unfold chX; split <;> omega
    generalize hX : chX ga na t st (rsN ga na dv t r st i) i = X at hx
    have e : rsN ga na dv t r st (i + 1) = if X &&& 1 * 2 ^ r = 0 then X else X ^^^ dv := by rw [← hX]; rfl
    rw [e, Nat.one_mul]
    by_cases hb : X.testBit r = true
    · rw [if_neg (and_pow1 hb)]
      refine Nat.lt_pow_two_of_testBit _ (fun j hj => ?_)
      rw [Nat.testBit_xor]
      by_cases hjr : j = r
      · subst hjr; rw [hb, top_bit h1 h2]; rfl
      · have hj2 : 2 ^ (r + 1) ≤ 2 ^ j := Nat.pow_le_pow_right (by decide) (by omega)
        rw [Nat.testBit_lt_two_pow (Nat.lt_of_lt_of_le hx hj2), Nat.testBit_lt_two_pow (Nat.lt_of_lt_of_le h2 hj2)]; rfl
    · have hb2 : X.testBit r = false := by simpa using hb
      rw [if_pos (and_pow0 hb2)]
      exact Nat.lt_of_not_le (fun z => hb (top_bit z hx))
theorem two_pow_8 {r : Nat} (h : r ≤ 8) : 2 ^ r ≤ 256 := by
  have := Nat.pow_le_pow_right (n := 2) (by decide) h
  simpa using this
theorem chX_lt {ga : Nat → Nat} {na t st x i : Nat} (h : x < 256) : chX ga na t st x i < 512 := by unfold chX; split <;> omega
def chkF (ga : Nat → Nat) (na dv t r : Nat) : Nat → Nat := fun q =>
  if q % (t + r) < t then numAt ga na (q / (t + r) * t + q % (t + r)) 1 else rsN ga na dv t r (q / (t + r) * t) (t + r) / 2 ^ (r - 1 - (q % (t + r) - t)) % 2
theorem chkF_1 {ga : Nat → Nat} {na dv t r k i : Nat} (h : i < t) : numAt ga na (k * t + i) 1 = chkF ga na dv t r (k * (t + r) + i) := by
  unfold chkF
  rw [mod_at (by omega), div_at (by omega), if_pos h]
theorem chkF_2 {ga : Nat → Nat} {na dv t r k i : Nat} (h : i < r) : rsN ga na dv t r (k * t) (t + r) / 2 ^ (r - 1 - i) % 2 = chkF ga na dv t r (k * (t + r) + t + i) := by
  unfold chkF
  rw [show k * (t + r) + t + i = k * (t + r) + (t + i) from by omega, mod_at (by omega), div_at (by omega), if_neg (by omega), show t + i - t = i from by omega]
theorem chkF_le {ga : Nat → Nat} {na dv t r : Nat} : ∀ q, chkF ga na dv t r q ≤ 2 := by
  intro q; unfold chkF; split
  · have := numAt_1le (g := ga) (n := na) (j := q / (t + r) * t + q % (t + r)); omega
  · omega
def chkD (ga : Nat → Nat) (na t r : Nat) : Nat → Nat := fun q => rg ga na (q / t * (t + r) + q % t)
theorem chkD_1 {ga : Nat → Nat} {na t r k i : Nat} (h : i < t) : rg ga na (k * (t + r) + i) = chkD ga na t r (k * t + i) := by
  unfold chkD; rw [mod_at h, div_at h]
def anyL (g : Nat → Nat) (n st : Nat) : Nat → Bool
  | 0 => false
  | k + 1 => anyL g n st k || decide (rg g n (st + k) = 2)
theorem anyL_t {g : Nat → Nat} {n st k w : Nat} (h : rg g n (st + k) = 2) (hk : k < w) : anyL g n st w = true := by
  have h1 : ∀ d, anyL g n st (k + 1 + d) = true := fun d => by
    induction d with
    | zero => simp [anyL, h]
    | succ d ih => show (anyL g n st (k + 1 + d) || _) = true; rw [ih]; rfl
  have := h1 (w - (k + 1))
  rwa [show k + 1 + (w - (k + 1)) = w from by omega] at this
theorem anyL_f {g : Nat → Nat} {n st k : Nat} (h0 : anyL g n st k = false) (h : rg g n (st + k) ≠ 2) : anyL g n st (k + 1) = false := by
  show (anyL g n st k || decide (rg g n (st + k) = 2)) = false
  rw [h0, decide_eq_false h]; rfl
def damB (g : Nat → Nat) (n dv t r st : Nat) : Bool := anyL g n st (t + r) || decide (rsN g n dv t r st (t + r) ≠ numAt g n (st + t) r)
def damK (g : Nat → Nat) (n dv t r : Nat) : Nat → Bool := fun k => damB g n dv t r (k * (t + r))
