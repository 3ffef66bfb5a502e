/-! THE STAGES AS VALUES: kind, two numbers, a table; what each makes of a row of n bits f, and back -/
abbrev WV : Type := Nat × Nat × Nat × (Nat → Nat)
abbrev RV : Type := (Nat → Nat) × (Nat → Nat → Nat)
theorem rg_c {f f' : Nat → Nat} {n : Nat} (h : ∀ q, q < n → f q = f' q) (q : Nat) : rg f n q = rg f' n q := by
  unfold rg; split
  · exact h q (by assumption)
  · rfl
theorem rg_e {f f' : Nat → Nat} {n : Nat} (h : ∀ q, q < n → f q = f' q) : rg f n = rg f' n := funext (rg_c h)
theorem rg_rg (f : Nat → Nat) (n : Nat) : rg (rg f n) n = rg f n := rg_e (fun _ h => rg_in h)
theorem numAt_c {f f' : Nat → Nat} {n : Nat} (h : rg f n = rg f' n) (j : Nat) : ∀ k, numAt f n j k = numAt f' n j k
  | 0 => rfl
  | k + 1 => by unfold numAt; rw [numAt_c h j k, h]
theorem knoAt_c {f f' : Nat → Nat} {n : Nat} (h : rg f n = rg f' n) (j : Nat) : ∀ k, knoAt f n j k = knoAt f' n j k
  | 0 => rfl
  | k + 1 => by unfold knoAt; rw [knoAt_c h j k, h]
theorem vote_c {f f' : Nat → Nat} {n t p : Nat} (h : rg f n = rg f' n) : vote f n t p = vote f' n t p := by
  unfold vote; rw [numAt_c h, knoAt_c h]
theorem nearB_c {tab f f' : Nat → Nat} {n t m k : Nat} (h : rg f n = rg f' n) : nearB tab f n t m k = nearB tab f' n t m k := by
  unfold nearB; rw [numAt_c h, knoAt_c h]
theorem rsN_c {f f' : Nat → Nat} {n dv t r st : Nat} (h : rg f n = rg f' n) : ∀ i, rsN f n dv t r st i = rsN f' n dv t r st i
  | 0 => rfl
  | i + 1 => by unfold rsN; rw [rsN_c h i]; unfold chX; rw [h]
theorem chkF_c {f f' : Nat → Nat} {n dv t r : Nat} (h : rg f n = rg f' n) : chkF f n dv t r = chkF f' n dv t r := by
  funext q; unfold chkF; rw [rsN_c h, numAt_c h]
theorem chkD_c {f f' : Nat → Nat} {n t r : Nat} (h : rg f n = rg f' n) : chkD f n t r = chkD f' n t r := by
  funext q; unfold chkD; rw [h]
theorem tst_c {f f' : Nat → Nat} {n mm : Nat} (h : rg f n = rg f' n) : ∀ i, tst f n mm i = tst f' n mm i
  | 0 => rfl
  | i + 1 => by unfold tst; rw [tst_c h i, numAt_c h]
theorem trF_c {tab f f' : Nat → Nat} {n mm kk : Nat} (h : rg f n = rg f' n) : trF tab f n mm kk = trF tab f' n mm kk := by
  funext q; unfold trF win; rw [tst_c h, numAt_c h]
theorem wvF_c {f f' : Nat → Nat} {n a c : Nat} (h : rg f n = rg f' n) : wvF f n a c = wvF f' n a c := by
  funext q; unfold wvF; rw [numAt_c h]
/-- the lattice: what it holds at the start doesn't matter -/
theorem loN_c {f f' tab : Nat → Nat} {mm b k v : Nat} (h1 : 1 ≤ mm) (h4 : mm ≤ 4) (hv : v < 2 ^ mm) (h : ∀ q, q < 16 → f q = f' q) : loN f tab mm b k v = loN f' tab mm b k v := by
  have := ahd_lt h1 h4 hv; have := two_pow_4 h4
  unfold loN; rw [h _ (by omega)]
theorem hiN_c {f f' tab : Nat → Nat} {mm b k v : Nat} (h1 : 1 ≤ mm) (h4 : mm ≤ 4) (hv : v < 2 ^ mm) (h : ∀ q, q < 16 → f q = f' q) : hiN f tab mm b k v = hiN f' tab mm b k v := by
  have := ahd_lt h1 h4 hv; have := two_pow_4 h4
  unfold hiN; rw [h _ (by omega)]
theorem frg_c {f f' tab : Nat → Nat} {mm b k : Nat} (h1 : 1 ≤ mm) (h4 : mm ≤ 4) (h : ∀ q, q < 16 → f q = f' q) : ∀ v, v ≤ 2 ^ mm → frg f tab mm b k v = frg f' tab mm b k v
  | 0, _ => rfl
  | v + 1, hv => by
    unfold frg
    rw [frg_c h1 h4 h v (by omega), loN_c h1 h4 (by omega) h, hiN_c h1 h4 (by omega) h]
theorem nxt_c {f f' tab : Nat → Nat} {mm b k : Nat} {x x' : Nat → Nat} (h1 : 1 ≤ mm) (h4 : mm ≤ 4) (h : ∀ q, q < 16 → f q = f' q) {q : Nat} (hq : q < 2 ^ mm) : nxt f tab mm b k x (2 ^ mm) q = nxt f' tab mm b k x' (2 ^ mm) q := by
  unfold nxt; rw [if_pos hq, if_pos hq, loN_c h1 h4 hq h, hiN_c h1 h4 hq h]
theorem vit_c {tab ga ga' : Nat → Nat} {na mm kk : Nat} {fg xg wg fg' xg' wg' : Nat → Nat} (h1 : 1 ≤ mm) (h4 : mm ≤ 4) (hg : rg ga na = rg ga' na) : ∀ i, (∀ q, q < 16 → (vit tab ga na mm kk fg xg wg i).1 q = (vit tab ga' na mm kk fg' xg' wg' i).1 q) ∧ (∀ j, j < i → (vit tab ga na mm kk fg xg wg i).2.2 j = (vit tab ga' na mm kk fg' xg' wg' i).2.2 j)
  | 0 => ⟨fun q hq => by show lsta fg 0 0 16 q = lsta fg' 0 0 16 q; simp [lsta, hq], fun j hj => absurd hj (Nat.not_lt_zero _)⟩
  | i + 1 => by
    obtain ⟨a1, a2⟩ := vit_c (tab := tab) (kk := kk) (fg := fg) (xg := xg) (wg := wg) (fg' := fg') (xg' := xg') (wg' := wg') h1 h4 hg i
    have en := numAt_c hg (i * kk) kk; have ek := knoAt_c hg (i * kk) kk
    refine ⟨fun q hq => ?_, fun j hj => ?_⟩
    · show lcop (vit tab ga na mm kk fg xg wg i).1 _ (2 ^ mm) q = lcop (vit tab ga' na mm kk fg' xg' wg' i).1 _ (2 ^ mm) q
      unfold lcop
      by_cases h : q < 2 ^ mm
      · rw [if_pos h, if_pos h, en, ek]; exact nxt_c h1 h4 a1 h
      · rw [if_neg h, if_neg h]; exact a1 q hq
    · show nup (vit tab ga na mm kk fg xg wg i).2.2 i _ j = nup (vit tab ga' na mm kk fg' xg' wg' i).2.2 i _ j
      by_cases h : j = i
      · subst h; rw [nup_s, nup_s, en, ek]; exact frg_c h1 h4 a1 _ (Nat.le_refl _)
      · rw [nup_n h, nup_n h]; exact a2 j (by omega)
theorem tbk_c {mm steps : Nat} {w w' : Nat → Nat} (hs : steps ≤ 320) (h : ∀ j, j < steps → w j = w' j) : ∀ e, e ≤ steps → tbk mm steps w e = tbk mm steps w' e
  | 0, _ => rfl
  | e + 1, he => by
    unfold tbk
    rw [tbk_c hs h e (by omega), rg_in (show steps - e - 1 < 320 by omega), rg_in (show steps - e - 1 < 320 by omega), h _ (by omega)]
/-- the way's bits that a trail decodes -/
def trD (tab f : Nat → Nat) (na mm kk nb q : Nat) : Nat := tbk mm (stp mm nb) (vit tab f na mm kk (fun _ => 0) (fun _ => 0) (fun _ => 0) (stp mm nb)).2.2 (stp mm nb - 1 - q) / 2 ^ (mm - 1)
theorem trD_c {tab f f' : Nat → Nat} {na mm kk nb q : Nat} (h1 : 1 ≤ mm) (h4 : mm ≤ 4) (hs : stp mm nb ≤ 320) (h : rg f na = rg f' na) : trD tab f na mm kk nb q = trD tab f' na mm kk nb q := by
  unfold trD; rw [tbk_c hs (vit_c h1 h4 h _).2 _ (by omega)]
theorem rtb_D {gb tab f : Nat → Nat} {na mm kk nb q : Nat} {fg xg wg : Nat → Nat} (h1 : 1 ≤ mm) (h4 : mm ≤ 4) (hs : stp mm nb ≤ 320) (hq : q < nb) :
    rtb gb nb mm (stp mm nb) (vit tab f na mm kk fg xg wg (stp mm nb)).2.2 (stp mm nb) q = trD tab f na mm kk nb q := by
  have := @stp_ge mm nb
  unfold rtb trD
  rw [if_pos ⟨by omega, by omega, hq⟩, tbk_c hs (vit_c (fg' := fun _ => 0) (xg' := fun _ => 0) (wg' := fun _ => 0) h1 h4 (rfl : rg f na = rg f na) _).2 _ (by omega)]
/-- a weave's way back -/
def wvI (a c q : Nat) : Nat := q - q % (a * c) + q % (a * c) % c * a + q % (a * c) / c
theorem wv_split {e q : Nat} (h : 0 < e) : ∃ k i, i < e ∧ q = k * e + i := ⟨q / e, q % e, Nat.mod_lt _ h, by rw [Nat.mul_comm]; exact (Nat.div_add_mod q e).symm⟩
theorem wv_lt {a c i j : Nat} (hi : i < a) (hj : j < c) : j * a + i < a * c := by
  have : (j + 1) * a ≤ c * a := Nat.mul_le_mul_right _ hj
  rw [Nat.add_mul, Nat.one_mul, Nat.mul_comm c a] at this
  omega
theorem wv_lt2 {a c i j : Nat} (hi : i < a) (hj : j < c) : i * c + j < a * c := by
  have : (i + 1) * c ≤ a * c := Nat.mul_le_mul_right _ hi
  rw [Nat.add_mul, Nat.one_mul] at this
  omega
theorem wvN_at {a c k i j : Nat} (hi : i < a) (hj : j < c) : wvN a c (k * (a * c) + (j * a + i)) = k * (a * c) + (i * c + j) := by
  have h1 := wv_lt hi hj
  unfold wvN
  rw [mod_at h1, mod_at hi, div_at hi]
  omega
theorem wvI_at {a c k i j : Nat} (hi : i < a) (hj : j < c) : wvI a c (k * (a * c) + (i * c + j)) = k * (a * c) + (j * a + i) := by
  have h1 := wv_lt2 hi hj
  unfold wvI
  rw [mod_at h1, mod_at hj, div_at hj]
  omega
theorem wvN_I {a c q : Nat} (ha : 0 < a) (hc : 0 < c) : wvN a c (wvI a c q) = q := by
  obtain ⟨k, x, hx, rfl⟩ := wv_split (q := q) (Nat.mul_pos ha hc)
  obtain ⟨i, j, hj, rfl⟩ := wv_split (q := x) hc
  have hi : i < a := by
    refine Nat.lt_of_not_le fun h => ?_
    have := Nat.mul_le_mul_right c h
    omega
  rw [wvI_at hi hj, wvN_at hi hj]
theorem wvI_N {a c q : Nat} (ha : 0 < a) (hc : 0 < c) : wvI a c (wvN a c q) = q := by
  obtain ⟨k, x, hx, rfl⟩ := wv_split (q := q) (Nat.mul_pos ha hc)
  obtain ⟨j, i, hi, rfl⟩ := wv_split (q := x) ha
  have hj : j < c := by
    refine Nat.lt_of_not_le fun h => ?_
    have := Nat.mul_le_mul_right a h
    rw [Nat.mul_comm c a] at this
    omega
  rw [wvN_at hi hj, wvI_at hi hj]
theorem rwd_I {gb : Nat → Nat} {nb : Nat} {ga : Nat → Nat} {na a c : Nat} (ha : 0 < a) (hc : 0 < c) (q : Nat) : ∀ k, rwd gb nb ga na a c k q = if wvI a c q < k ∧ q < nb then rg ga na (wvI a c q) else gb q
  | 0 => by rw [if_neg (by omega)]; rfl
  | k + 1 => by
    show rput (rwd gb nb ga na a c k) nb (wvN a c k) (rg ga na k) q = _
    have ih := rwd_I (gb := gb) (nb := nb) (ga := ga) (na := na) ha hc q k
    unfold rput
    by_cases h : q = wvN a c k
    · have hk : wvI a c q = k := by rw [h]; exact wvI_N ha hc
      by_cases hq : q < nb
      · rw [if_pos ⟨h, by rw [← h]; exact hq⟩, if_pos ⟨by omega, hq⟩, hk]
      · rw [if_neg (fun z => hq (by rw [h]; exact z.2)), ih, if_neg (by omega), if_neg (by omega)]
    · have hk : wvI a c q ≠ k := fun z => h (by rw [← z]; exact (wvN_I ha hc).symm)
      rw [if_neg (fun z => h z.1), ih]
      by_cases h2 : wvI a c q < k ∧ q < nb
      · rw [if_pos h2, if_pos ⟨by omega, h2.2⟩]
      · rw [if_neg h2, if_neg (by omega)]
def sSize (w : WV) (n : Nat) : Nat := if w.1 = 0 then n * w.2.1 else if w.1 = 1 then blk n w.2.1 * w.2.2.1 else if w.1 = 2 then blk n w.2.2.1 * (w.2.2.1 + degN w.2.1 9) else if w.1 = 3 then stp w.2.1 n * w.2.2.1 else blk n (w.2.1 * w.2.2.1) * w.2.1 * w.2.2.1
def sCode (w : WV) (n : Nat) (f : Nat → Nat) (q : Nat) : Nat :=
  if w.1 = 0 then (if rg f n (q / w.2.1) = 1 then 1 else 0)
  else if w.1 = 1 then rg w.2.2.2 16 (numAt f n (q / w.2.2.1 * w.2.1) w.2.1) / 2 ^ (w.2.2.1 - 1 - q % w.2.2.1) % 2
  else if w.1 = 2 then chkF f n w.2.1 w.2.2.1 (degN w.2.1 9) q
  else if w.1 = 3 then trF w.2.2.2 f n w.2.1 w.2.2.1 q
  else wvF f n w.2.1 w.2.2.1 q
def sDec (w : WV) (nb na : Nat) (f : Nat → Nat) (q : Nat) : Nat :=
  if w.1 = 0 then vote f na w.2.1 q
  else if w.1 = 1 then nearB w.2.2.2 f na w.2.1 w.2.2.1 (q / w.2.1) / 2 ^ (w.2.1 - 1 - q % w.2.1) % 2
  else if w.1 = 2 then chkD f na w.2.2.1 (degN w.2.1 9) q
  else if w.1 = 3 then trD w.2.2.2 f na w.2.1 w.2.2.1 nb q
  else rg f na (wvI w.2.1 w.2.2.1 q)
def gok (w : WV) : Prop :=
  (w.1 = 0 ∧ 2 ≤ w.2.1 ∧ w.2.1 ≤ 5) ∨
  (w.1 = 1 ∧ 1 ≤ w.2.1 ∧ w.2.1 ≤ 4 ∧ w.2.1 ≤ w.2.2.1 ∧ w.2.2.1 ≤ 10 ∧ ∃ a1 a2 a3 a4, a1 < 2 ^ w.2.2.1 ∧ a2 < 2 ^ w.2.2.1 ∧ a3 < 2 ^ w.2.2.1 ∧ a4 < 2 ^ w.2.2.1 ∧ w.2.2.2 = bwt w.2.1 a1 a2 a3 a4 16) ∨
  (w.1 = 2 ∧ 2 ≤ w.2.1 ∧ w.2.1 ≤ 511 ∧ 1 ≤ w.2.2.1 ∧ w.2.2.1 ≤ 32) ∨
  (w.1 = 3 ∧ 1 ≤ w.2.1 ∧ w.2.1 ≤ 4 ∧ ∃ f1 f2 f3, f1 < 2 ^ (w.2.1 + 1) ∧ f2 < 2 ^ (w.2.1 + 1) ∧ f3 < 2 ^ (w.2.1 + 1) ∧ w.2.2.1 = mk3 f3 ∧ w.2.2.2 = ttab f1 f2 f3 32 ∧ 1 ≤ f1) ∨
  (w.1 = 4 ∧ 1 ≤ w.2.1 ∧ w.2.1 ≤ 10 ∧ 1 ≤ w.2.2.1 ∧ w.2.2.1 ≤ 10)
theorem sCode_c {w : WV} {n : Nat} {f f' : Nat → Nat} (h : rg f n = rg f' n) : sCode w n f = sCode w n f' := by
  funext q; unfold sCode; rw [h, numAt_c h, chkF_c h, trF_c h, wvF_c h]
theorem mk3_23 (f : Nat) : mk3 f = 2 ∨ mk3 f = 3 := by unfold mk3; split <;> omega
theorem blk_ge {n e : Nat} (h : 0 < e) : n ≤ blk n e * e := by
  have h1 : n + e - 1 < (blk n e + 1) * e := by
    have := Nat.lt_div_mul_add h (a := n + e - 1)
    unfold blk
    rw [Nat.add_mul, Nat.one_mul]; exact this
  rw [Nat.add_mul, Nat.one_mul] at h1
  omega
theorem sSize_ge {w : WV} (hw : gok w) (n : Nat) : n ≤ sSize w n := by
  unfold sSize
  rcases hw with ⟨h, h2, -⟩ | ⟨h, h1, -, hm, -, -⟩ | ⟨h, -, -, h1, -⟩ | ⟨h, h1, -, f1, f2, f3, -, -, -, hk, -⟩ | ⟨h, h1, -, h2, -⟩
  · rw [if_pos h]; exact Nat.le_trans (by omega) (Nat.mul_le_mul_left n h2)
  · rw [if_neg (by omega), if_pos h]; exact Nat.le_trans (blk_ge h1) (Nat.mul_le_mul_left _ hm)
  · rw [if_neg (by omega), if_neg (by omega), if_pos h]; exact Nat.le_trans (blk_ge h1) (Nat.mul_le_mul_left _ (by omega))
  · rw [if_neg (by omega), if_neg (by omega), if_neg (by omega), if_pos h]
    have := @stp_ge w.2.1 n
    rcases mk3_23 f3 with e | e <;> rw [hk, e] <;> omega
  · rw [if_neg (by omega), if_neg (by omega), if_neg (by omega), if_neg (by omega), Nat.mul_assoc]
    exact blk_ge (Nat.mul_pos h1 h2)
/-- a trail's steps stay within the lattice's rows -/
theorem stp_320 {w : WV} (hw : gok w) (h3 : w.1 = 3) {n : Nat} (hs : sSize w n ≤ 320) : stp w.2.1 n ≤ 160 ∧ (0 < n → n + w.2.1 ≤ 160) := by
  rcases hw with ⟨h, -⟩ | ⟨h, -⟩ | ⟨h, -⟩ | ⟨h, h1, -, f1, f2, f3, -, -, -, hk, -⟩ | ⟨h, -⟩
  · omega
  · omega
  · omega
  · unfold sSize at hs
    rw [if_neg (by omega), if_neg (by omega), if_neg (by omega), if_pos h] at hs
    have e : stp w.2.1 n ≤ 160 := by rcases mk3_23 f3 with e | e <;> rw [hk, e] at hs <;> omega
    refine ⟨e, fun h0 => ?_⟩
    unfold stp at e; rw [if_neg (by omega)] at e; exact e
  · omega
theorem sDec_c {w : WV} (hw : gok w) {nb na : Nat} {f f' : Nat → Nat} (hs : sSize w nb ≤ 320) (h : rg f na = rg f' na) : sDec w nb na f = sDec w nb na f' := by
  funext q; unfold sDec
  rw [h, vote_c h, nearB_c h, chkD_c h]
  by_cases h3 : w.1 = 3
  · have e := (stp_320 hw h3 hs).1
    rcases hw with ⟨z, -⟩ | ⟨z, -⟩ | ⟨z, -⟩ | ⟨z, h1, h4, -⟩ | ⟨z, -⟩
    · omega
    · omega
    · omega
    · rw [trD_c h1 h4 (by omega) h]
    · omega
  · simp [h3]
theorem vote_le {f : Nat → Nat} {na t p : Nat} : vote f na t p ≤ 2 := by unfold vote; split; · omega
                                                                         split <;> omega
theorem trD_le {tab f : Nat → Nat} {na mm kk nb q : Nat} (h1 : 1 ≤ mm) (h4 : mm ≤ 4) : trD tab f na mm kk nb q ≤ 1 := shr_le1 h1 (tbk_lt h1 h4 _)
theorem sCode_le {w : WV} {n : Nat} {f : Nat → Nat} (q : Nat) : sCode w n f q ≤ 1 := by
  unfold sCode
  split
  · split <;> omega
  split
  · omega
  split
  · unfold chkF; split
    · exact numAt_1le
    · omega
  split
  · unfold trF; omega
  · exact numAt_1le
theorem rg_le1 {f : Nat → Nat} {n : Nat} (h : ∀ q, q < n → f q ≤ 1) (q : Nat) : rg f n q ≤ 1 := by
  unfold rg; split
  · exact h q (by assumption)
  · omega
theorem rg_le2 {f : Nat → Nat} {n : Nat} (h : ∀ q, q < n → f q ≤ 2) (q : Nat) : rg f n q ≤ 2 := by
  unfold rg; split
  · exact h q (by assumption)
  · omega
theorem sDec_le {w : WV} (hw : gok w) {nb na : Nat} {f : Nat → Nat} (hf : ∀ q, rg f na q ≤ 2) (q : Nat) : sDec w nb na f q ≤ 2 := by
  unfold sDec
  split
  · exact vote_le
  split
  · omega
  split
  · exact hf _
  split
  · rcases hw with ⟨z, -⟩ | ⟨z, -⟩ | ⟨z, -⟩ | ⟨z, h1, h4, -⟩ | ⟨z, -⟩
    · omega
    · omega
    · omega
    · exact Nat.le_trans (trD_le h1 h4) (by omega)
    · omega
  · exact hf _
theorem cnt_c {f g : Nat → Bool} : ∀ {k : Nat}, (∀ q, q < k → f q = g q) → cnt f k = cnt g k
  | 0, _ => rfl
  | k + 1, h => by unfold cnt; rw [cnt_c (fun q hq => h q (by omega)), h k (by omega)]
theorem gU_O {z : Cond} {own C owner : String} {idx : Nat} {x y : MethodName} {ws : List Cond} (h1 : Cond.methodLink own idx x ∈ lwU) (h2 : Cond.sameMethod x.cls owner x.name x.desc ∈ lwU) (h3 : Cond.instanceMethod ⟨owner, x.name, x.desc⟩ ∈ lwU) (h4 : Cond.selects C x y ∈ lwU) (h5 : Cond.instanceMethod y ∈ lwU) (h6 : Cond.initialized y.cls ∈ lwU) (h : ∀ w ∈ ws, w ∈ lwU) : GoodIn (z :: lwU) (va_wsO own idx C owner x y ws) := gU_sub (sub_cU h1 (sub_cU h2 (sub_cU h3 (sub_cU h4 (sub_cU h5 (sub_cU h6 h))))))
theorem two_pow_10 {k : Nat} (h : k ≤ 10) : 2 ^ k ≤ 1024 := by
  have := Nat.pow_le_pow_right (n := 2) (by decide) h
  simpa using this
theorem degN_all {d : Nat} (h0 : 2 ≤ d) (h : d < 512) : 2 ^ degN d 9 ≤ d ∧ d < 2 ^ (degN d 9 + 1) ∧ degN d 9 ≤ 8 := by
  have : ∀ d, d < 512 → 2 ≤ d → 2 ^ degN d 9 ≤ d ∧ d < 2 ^ (degN d 9 + 1) ∧ degN d 9 ≤ 8 := by decide +kernel
  exact this d h h0
theorem wvI_lt {a c q k nb : Nat} (ha : 1 ≤ a) (hc : 1 ≤ c) (hq : q < nb) : wvI a c q < blk nb (a * c) * a * c := by
  have h0 : 0 < a * c := Nat.mul_pos ha hc
  obtain ⟨k, x, hx, rfl⟩ := wv_split (q := q) h0
  obtain ⟨i, j, hj, rfl⟩ := wv_split (q := x) hc
  have hi : i < a := by
    refine Nat.lt_of_not_le fun h => ?_
    have := Nat.mul_le_mul_right c h
    omega
  rw [wvI_at hi hj, Nat.mul_assoc]
  have h1 := wv_lt hi hj
  have h2 : k < blk nb (a * c) := by
    refine Nat.lt_of_not_le fun h => ?_
    have h3 := Nat.mul_le_mul_right (a * c) h
    have h4 := blk_ge (n := nb) h0
    omega
  have h5 := Nat.mul_le_mul_right (a * c) (Nat.succ_le_of_lt h2)
  rw [Nat.succ_mul] at h5
  omega
theorem lcop_nxt_in {fg tab : Nat → Nat} {mm b k B : Nat} {x : Nat → Nat} (h1 : 1 ≤ mm) (h4 : mm ≤ 4) (hf : ∀ q, q < 16 → fg q ≤ B) : ∀ q, q < 16 → lcop fg (nxt fg tab mm b k x (2 ^ mm)) (2 ^ mm) q ≤ B + 12 := by
  intro q hq
  unfold lcop
  split
  · rename_i h
    have := ahd_lt h1 h4 h; have := two_pow_4 h4
    have e := hf (ahd mm q) (by omega); have e2 := @farT_le tab b k (wnd mm q)
    unfold nxt loN
    rw [if_pos h]
    exact Nat.le_trans (Nat.min_le_left _ _) (by omega)
  · exact Nat.le_trans (hf q hq) (by omega)
theorem lcop_out {fg x : Nat → Nat} {mm q : Nat} (h4 : mm ≤ 4) (hq : 16 ≤ q) : lcop fg x (2 ^ mm) q = fg q := by
  have := two_pow_4 h4
  unfold lcop; rw [if_neg (by omega)]
theorem vit_in {tab ga : Nat → Nat} {na mm kk : Nat} {fg xg wg : Nat → Nat} (h1 : 1 ≤ mm) (h4 : mm ≤ 4) : ∀ i, (∀ q, q < 16 → (vit tab ga na mm kk fg xg wg i).1 q ≤ 1000000 + 12 * i) ∧ ∀ q, 16 ≤ q → (vit tab ga na mm kk fg xg wg i).1 q = fg q
  | 0 => ⟨fun q hq => by show lsta fg 0 0 16 q ≤ _; unfold lsta; rw [if_pos hq]; split <;> omega, fun q hq => by show lsta fg 0 0 16 q = _; unfold lsta; rw [if_neg (by omega)]⟩
  | i + 1 => by
    obtain ⟨a, b⟩ := vit_in (tab := tab) (ga := ga) (na := na) (kk := kk) (fg := fg) (xg := xg) (wg := wg) h1 h4 i
    refine ⟨fun q hq => ?_, fun q hq => ?_⟩
    · have := lcop_nxt_in (tab := tab) (b := numAt ga na (i * kk) kk) (k := knoAt ga na (i * kk) kk) (x := (vit tab ga na mm kk fg xg wg i).2.1) h1 h4 a q hq
      exact Nat.le_trans this (by omega)
    · exact (lcop_out h4 hq).trans (b q hq)
theorem vit_2m {tab ga : Nat → Nat} {na mm kk : Nat} {fg xg wg : Nat → Nat} {i : Nat} (h1 : 1 ≤ mm) (h4 : mm ≤ 4) (hF : ∀ q, fg q ≤ 2000000) (hi : i ≤ 400) : ∀ q, (vit tab ga na mm kk fg xg wg i).1 q ≤ 2000000 := by
  intro q
  obtain ⟨a, b⟩ := vit_in (tab := tab) (ga := ga) (na := na) (kk := kk) (fg := fg) (xg := xg) (wg := wg) h1 h4 i
  by_cases hq : q < 16
  · exact Nat.le_trans (a q hq) (by omega)
  · rw [b q (by omega)]; exact hF q
theorem apr_in {tab : Nat → Nat} {mm kk : Nat} {fg xg wg : Nat → Nat} (h1 : 1 ≤ mm) (h4 : mm ≤ 4) : ∀ i, (∀ q, q < 16 → (apr tab mm kk fg xg wg i).1.1 q ≤ 1000000 + 12 * i) ∧ ∀ q, 16 ≤ q → (apr tab mm kk fg xg wg i).1.1 q = fg q
  | 0 => ⟨fun q hq => by
      have := @farT_le tab 0 (1 * 2 ^ kk - 1) (2 ^ mm)
      show lsta fg _ _ 16 q ≤ _; unfold lsta; rw [if_pos hq]; split <;> omega, fun q hq => by show lsta fg _ _ 16 q = _; unfold lsta; rw [if_neg (by omega)]⟩
  | i + 1 => by
    obtain ⟨a, b⟩ := apr_in (tab := tab) (kk := kk) (fg := fg) (xg := xg) (wg := wg) h1 h4 i
    refine ⟨fun q hq => ?_, fun q hq => ?_⟩
    · show nup _ 0 1000000 q ≤ _
      by_cases h : q = 0
      · subst h; rw [nup_s]; omega
      · rw [nup_n h]
        have := lcop_nxt_in (tab := tab) (b := 0) (k := 1 * 2 ^ kk - 1) (x := (apr tab mm kk fg xg wg i).1.2.1) h1 h4 a q hq
        exact Nat.le_trans this (by omega)
    · show nup _ 0 1000000 q = _
      rw [nup_n (by omega)]
      exact (lcop_out h4 hq).trans (b q hq)
theorem apr_2m {tab : Nat → Nat} {mm kk : Nat} {fg xg wg : Nat → Nat} (h1 : 1 ≤ mm) (h4 : mm ≤ 4) (hF : ∀ q, fg q ≤ 2000000) : ∀ q, (apr tab mm kk fg xg wg 19).1.1 q ≤ 2000000 := by
  intro q
  obtain ⟨a, b⟩ := apr_in (tab := tab) (kk := kk) (fg := fg) (xg := xg) (wg := wg) h1 h4 19
  by_cases hq : q < 16
  · exact Nat.le_trans (a q hq) (by omega)
  · rw [b q (by omega)]; exact hF q
theorem apr_w {tab : Nat → Nat} {mm kk : Nat} {fg xg wg : Nat → Nat} (h4 : mm ≤ 4) (hw : ∀ q, wg q < 65536) : ∀ i q, (apr tab mm kk fg xg wg i).1.2.2 q < 65536
  | 0 => hw
  | i + 1 => nup_lt (apr_w h4 hw i) (Nat.lt_of_lt_of_le (frg_lt _) (two_pow_le16 h4))
theorem apr_c0 {tab : Nat → Nat} {mm kk : Nat} (h1 : 1 ≤ mm) (h4 : mm ≤ 4) (fg xg wg : Nat → Nat) : ∀ i, (∀ q, q < 16 → (apr tab mm kk fg xg wg i).1.1 q = (apr tab mm kk (fun _ => 0) (fun _ => 0) (fun _ => 0) i).1.1 q) ∧ (apr tab mm kk fg xg wg i).2 = (apr tab mm kk (fun _ => 0) (fun _ => 0) (fun _ => 0) i).2
  | 0 => ⟨fun q hq => by show lsta fg (2 ^ mm / 2) (farT tab 0 (1 * 2 ^ kk - 1) (2 ^ mm)) 16 q = lsta (fun _ => 0) (2 ^ mm / 2) (farT tab 0 (1 * 2 ^ kk - 1) (2 ^ mm)) 16 q; unfold lsta; rw [if_pos hq, if_pos hq], rfl⟩
  | i + 1 => by
    obtain ⟨a, b⟩ := apr_c0 (tab := tab) (kk := kk) h1 h4 fg xg wg i
    have e : ∀ q, q < 16 → lcop (apr tab mm kk fg xg wg i).1.1 (nxt (apr tab mm kk fg xg wg i).1.1 tab mm 0 (1 * 2 ^ kk - 1) (apr tab mm kk fg xg wg i).1.2.1 (2 ^ mm)) (2 ^ mm) q = lcop (apr tab mm kk (fun _ => 0) (fun _ => 0) (fun _ => 0) i).1.1 (nxt (apr tab mm kk (fun _ => 0) (fun _ => 0) (fun _ => 0) i).1.1 tab mm 0 (1 * 2 ^ kk - 1) (apr tab mm kk (fun _ => 0) (fun _ => 0) (fun _ => 0) i).1.2.1 (2 ^ mm)) (2 ^ mm) q := fun q hq => by
      unfold lcop
      by_cases h : q < 2 ^ mm
      · rw [if_pos h, if_pos h]; exact nxt_c h1 h4 a h
      · rw [if_neg h, if_neg h]; exact a q hq
    refine ⟨fun q hq => ?_, ?_⟩
    · show nup _ 0 1000000 q = nup _ 0 1000000 q
      by_cases h : q = 0
      · subst h; rw [nup_s, nup_s]
      · rw [nup_n h, nup_n h]; exact e q hq
    · show min _ _ = min _ _
      rw [b, e 0 (by omega)]
/-- how far a trail's words are apart -/
def trA (tab : Nat → Nat) (mm kk : Nat) : Nat := (apr tab mm kk (fun _ => 0) (fun _ => 0) (fun _ => 0) 19).2
theorem apr_c {tab : Nat → Nat} {mm kk : Nat} (h1 : 1 ≤ mm) (h4 : mm ≤ 4) (fg xg wg : Nat → Nat) : (apr tab mm kk fg xg wg 19).2 = trA tab mm kk := (apr_c0 h1 h4 fg xg wg 19).2
def sApart (w : WV) : Nat := if w.1 = 0 then w.2.1 else if w.1 = 1 then leaN w.2.2.2 w.2.2.1 (2 ^ w.2.1) else if w.1 = 3 then trA w.2.2.2 w.2.1 w.2.2.1 else 1
def sDam (w : WV) (n : Nat) (f : Nat → Nat) : Nat := if w.1 = 2 then cnt (damK f n w.2.1 w.2.2.1 (degN w.2.1 9)) (blk n (w.2.2.1 + degN w.2.1 9)) else 0
def sWrd (w : WV) (o : Nat) : Nat := if w.1 = 1 then cnt (hasOnes w.2.2.2 o) (2 ^ w.2.1) else 0
