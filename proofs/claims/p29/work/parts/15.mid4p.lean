/-- trails: the table of what comes -/
def mk3 (f3 : Nat) : Nat := if f3 = 0 then 2 else 3
def tr2 (f1 f2 v : Nat) : Nat := bc (v &&& f1) % 2 * 2 ^ 1 ||| bc (v &&& f2) % 2
def trN (f1 f2 f3 v : Nat) : Nat := if f3 = 0 then tr2 f1 f2 v else tr2 f1 f2 v * 2 ^ 1 ||| bc (v &&& f3) % 2
theorem or_b {a b : Nat} (hb : b < 2) : a * 2 ^ 1 ||| b = a * 2 + b := by
  have := Nat.two_pow_add_eq_or_of_lt (b := b) (i := 1) (by omega) a
  rw [Nat.mul_comm] at this
  rw [← this]
theorem tr2_le {f1 f2 v : Nat} : tr2 f1 f2 v ≤ 3 := by unfold tr2; rw [or_b (by omega)]; omega
theorem trN_le {f1 f2 f3 v : Nat} : trN f1 f2 f3 v ≤ 7 := by
  have := tr2_le (f1 := f1) (f2 := f2) (v := v)
  unfold trN; split
  · omega
  · rw [or_b (by omega)]; omega
def ttab (f1 f2 f3 k : Nat) : Nat → Nat := fun q => if q < k then trN f1 f2 f3 q else 0
theorem ttab_0 {f1 f2 f3 : Nat} : ttab f1 f2 f3 0 = fun _ => 0 := by funext q; simp [ttab]
theorem ttab_s {f1 f2 f3 k v : Nat} (h : v = trN f1 f2 f3 k) : nup (ttab f1 f2 f3 k) k v = ttab f1 f2 f3 (k + 1) := by
  funext q
  by_cases hq : q = k
  · subst hq; simp [nup, ttab, h]
  · have : q < k + 1 ↔ q < k := by omega
    simp [nup, ttab, hq, this]
theorem ttab_lt {f1 f2 f3 k : Nat} : ∀ q, ttab f1 f2 f3 k q < 8 := by
  intro q; unfold ttab; split
  · have := trN_le (f1 := f1) (f2 := f2) (f3 := f3) (v := q); omega
  · omega
def stp (mm n : Nat) : Nat := if n = 0 then 0 else n + mm
theorem stp_le {mm n : Nat} : stp mm n ≤ n + mm := by unfold stp; split <;> omega
theorem stp_ge {mm n : Nat} : n ≤ stp mm n := by unfold stp; split <;> omega
/-- coding -/
def tst (ga : Nat → Nat) (na mm : Nat) : Nat → Nat
  | 0 => 0
  | i + 1 => (numAt ga na i 1 * 2 ^ mm ||| tst ga na mm i) / 2 ^ 1
def win (ga : Nat → Nat) (na mm i : Nat) : Nat := numAt ga na i 1 * 2 ^ mm ||| tst ga na mm i
theorem win_lt' {x s mm : Nat} (hx : x ≤ 1) (hs : s < 2 ^ mm) : x * 2 ^ mm ||| s < 2 ^ (mm + 1) := by
  have hp : 2 ^ (mm + 1) = 2 ^ mm * 2 := Nat.pow_succ 2 mm
  refine Nat.or_lt_two_pow ?_ (by omega)
  have : x * 2 ^ mm ≤ 1 * 2 ^ mm := Nat.mul_le_mul_right _ hx
  have := Nat.two_pow_pos mm
  omega
theorem tst_lt {ga : Nat → Nat} {na mm : Nat} : ∀ i, tst ga na mm i < 2 ^ mm
  | 0 => Nat.two_pow_pos mm
  | i + 1 => by
    have h := win_lt' (numAt_1le (g := ga) (n := na) (j := i)) (tst_lt (ga := ga) (na := na) (mm := mm) i)
    rw [Nat.pow_succ] at h
    show (numAt ga na i 1 * 2 ^ mm ||| tst ga na mm i) / 2 ^ 1 < 2 ^ mm
    omega
theorem win_lt {ga : Nat → Nat} {na mm i : Nat} : win ga na mm i < 2 ^ (mm + 1) := win_lt' numAt_1le (tst_lt i)
theorem two_pow_5 {k : Nat} (h : k ≤ 5) : 2 ^ k ≤ 32 := by
  have := Nat.pow_le_pow_right (n := 2) (by decide) h
  simpa using this
def trF (tab ga : Nat → Nat) (na mm kk : Nat) : Nat → Nat := fun q => rg tab 32 (win ga na mm (q / kk)) / 2 ^ (kk - 1 - q % kk) % 2
theorem trF_1 {tab ga : Nat → Nat} {na mm kk i j : Nat} (h : j < kk) : rg tab 32 (win ga na mm i) / 2 ^ (kk - 1 - j) % 2 = trF tab ga na mm kk (i * kk + j) := by
  unfold trF; rw [mod_at h, div_at h]
/-- one step of the lattice -/
def ahd (mm v : Nat) : Nat := v * 2 ^ 1 &&& (2 ^ mm - 1)
def wnd (mm v : Nat) : Nat := v / 2 ^ (mm - 1) * 2 ^ mm ||| ahd mm v
theorem ahd_lt {mm v : Nat} (h1 : 1 ≤ mm) (h4 : mm ≤ 4) (hv : v < 2 ^ mm) : ahd mm v + 2 ≤ 2 ^ mm := by
  have h : ∀ m, m < 5 → ∀ v, v < 16 → 1 ≤ m → ahd m v + 2 ≤ 2 ^ m := by decide +kernel
  have := two_pow_4 h4
  exact h mm (by omega) v (by omega) h1
theorem wnd_lt {mm v : Nat} (h1 : 1 ≤ mm) (h4 : mm ≤ 4) (hv : v < 2 ^ mm) : wnd mm v + 1 < 32 := by
  have h : ∀ m, m < 5 → ∀ v, v < 16 → 1 ≤ m → v < 2 ^ m → wnd m v + 1 < 32 := by decide +kernel
  have := two_pow_4 h4
  exact h mm (by omega) v (by omega) h1 hv
theorem shr_le1 {mm v : Nat} (h1 : 1 ≤ mm) (hv : v < 2 ^ mm) : v / 2 ^ (mm - 1) ≤ 1 := by
  have hp : 2 ^ mm = 2 ^ (mm - 1) * 2 := by rw [← Nat.pow_succ]; congr 1; omega
  have : v / 2 ^ (mm - 1) < 2 := (Nat.div_lt_iff_lt_mul (Nat.two_pow_pos _)).mpr (by omega)
  omega
def farT (tab : Nat → Nat) (bits known w : Nat) : Nat := bc ((rg tab 32 w ^^^ bits) &&& known)
theorem farT_le {tab : Nat → Nat} {bits known w : Nat} : farT tab bits known w ≤ 12 := bc_le12 _
def loN (fg tab : Nat → Nat) (mm bits known v : Nat) : Nat := fg (ahd mm v) + farT tab bits known (wnd mm v)
def hiN (fg tab : Nat → Nat) (mm bits known v : Nat) : Nat := fg (ahd mm v + 1) + farT tab bits known (wnd mm v + 1)
def frg (fg tab : Nat → Nat) (mm bits known : Nat) : Nat → Nat
  | 0 => 0
  | k + 1 => if hiN fg tab mm bits known k < loN fg tab mm bits known k then frg fg tab mm bits known k ||| 1 * 2 ^ k else frg fg tab mm bits known k
theorem frg_lt {fg tab : Nat → Nat} {mm bits known : Nat} : ∀ k, frg fg tab mm bits known k < 2 ^ k
  | 0 => Nat.two_pow_pos 0
  | k + 1 => by
    have ih := frg_lt (fg := fg) (tab := tab) (mm := mm) (bits := bits) (known := known) k
    have hp : 2 ^ (k + 1) = 2 ^ k * 2 := Nat.pow_succ 2 k
    unfold frg; split
    · exact Nat.or_lt_two_pow (by omega) (by omega)
    · omega
theorem frg_t {fg tab : Nat → Nat} {mm bits known k : Nat} (h : hiN fg tab mm bits known k < loN fg tab mm bits known k) : frg fg tab mm bits known k ||| 1 * 2 ^ k = frg fg tab mm bits known (k + 1) := (if_pos h).symm
theorem frg_f {fg tab : Nat → Nat} {mm bits known k : Nat} (h : loN fg tab mm bits known k ≤ hiN fg tab mm bits known k) : frg fg tab mm bits known (k + 1) = frg fg tab mm bits known k := if_neg (by omega)
def nxt (fg tab : Nat → Nat) (mm bits known : Nat) (xg : Nat → Nat) (k : Nat) : Nat → Nat := fun q => if q < k then min (loN fg tab mm bits known q) (hiN fg tab mm bits known q) else xg q
theorem nxt_0 {fg tab : Nat → Nat} {mm bits known : Nat} {xg : Nat → Nat} : nxt fg tab mm bits known xg 0 = xg := by funext q; simp [nxt]
theorem nxt_s {fg tab : Nat → Nat} {mm bits known : Nat} {xg : Nat → Nat} {k : Nat} : nup (nxt fg tab mm bits known xg k) k (min (loN fg tab mm bits known k) (hiN fg tab mm bits known k)) = nxt fg tab mm bits known xg (k + 1) := by
  funext q
  by_cases hq : q = k
  · subst hq; simp [nup, nxt]
  · have : q < k + 1 ↔ q < k := by omega
    simp [nup, nxt, hq, this]
/-- the three rows of the lattice, written anew -/
def tri (S : pS) (lx lw lf : Nat) (x w f : va_E) : pS := pup (pup (pup S lx x) lw w) lf f
theorem tri_1 {S : pS} {lx lw lf : Nat} {x w f : va_E} : (tri S lx lw lf x w f).1 = S.1 := rfl
theorem tri_lf {S : pS} {lx lw lf : Nat} {x w f : va_E} : (tri S lx lw lf x w f).2 lf = f := pup_s
theorem tri_lw {S : pS} {lx lw lf : Nat} {x w f : va_E} (h : lw ≠ lf) : (tri S lx lw lf x w f).2 lw = w := (pup_n h).trans pup_s
theorem tri_lx {S : pS} {lx lw lf : Nat} {x w f : va_E} (h : lx ≠ lf) (h2 : lx ≠ lw) : (tri S lx lw lf x w f).2 lx = x := (pup_n h).trans ((pup_n h2).trans pup_s)
theorem tri_n {S : pS} {lx lw lf a : Nat} {x w f : va_E} (h1 : a ≠ lx) (h2 : a ≠ lw) (h3 : a ≠ lf) : (tri S lx lw lf x w f).2 a = S.2 a := (pup_n h3).trans ((pup_n h2).trans (pup_n h1))
theorem tri_tri {S : pS} {lx lw lf : Nat} {x w f x2 w2 f2 : va_E} : tri (tri S lx lw lf x w f) lx lw lf x2 w2 f2 = tri S lx lw lf x2 w2 f2 := by
  unfold tri pup
  refine Prod.ext rfl (funext fun b => ?_)
  by_cases h1 : b = lf
  · subst h1; simp [va_up]
  · by_cases h2 : b = lw
    · subst h2; simp [va_up, h1]
    · by_cases h3 : b = lx
      · subst h3; simp [va_up, h1, h2]
      · simp [va_up, h1, h2, h3]
theorem tri_self {S : pS} {lx lw lf : Nat} {x w f : va_E} (hx : S.2 lx = x) (hw : S.2 lw = w) : tri S lx lw lf x w f = pup S lf f := by
  unfold tri; rw [pup_self hx, pup_self hw]
theorem tri_pup {S : pS} {lx lw lf : Nat} {x w f f2 : va_E} : pup (tri S lx lw lf x w f) lf f2 = tri S lx lw lf x w f2 := by
  unfold tri; rw [pup_pup]
/-- the lattice's rows through the steps of decoding -/
def vit (tab ga : Nat → Nat) (na mm kk : Nat) (fg xg wg : Nat → Nat) : Nat → (Nat → Nat) × (Nat → Nat) × (Nat → Nat)
  | 0 => (lsta fg 0 0 16, xg, wg)
  | i + 1 =>
    let u := vit tab ga na mm kk fg xg wg i
    let x := nxt u.1 tab mm (numAt ga na (i * kk) kk) (knoAt ga na (i * kk) kk) u.2.1 (2 ^ mm)
    (lcop u.1 x (2 ^ mm), x, nup u.2.2 i (frg u.1 tab mm (numAt ga na (i * kk) kk) (knoAt ga na (i * kk) kk) (2 ^ mm)))
theorem lcop_nxt_le {fg tab : Nat → Nat} {mm bits known B : Nat} {xg : Nat → Nat} (hf : ∀ q, fg q ≤ B) : ∀ q, lcop fg (nxt fg tab mm bits known xg (2 ^ mm)) (2 ^ mm) q ≤ B + 12 := by
  intro q; unfold lcop nxt
  have h1 := hf q
  by_cases h : q < 2 ^ mm
  · rw [if_pos h, if_pos h]
    have h2 := hf (ahd mm q)
    have h3 := farT_le (tab := tab) (bits := bits) (known := known) (w := wnd mm q)
    have : loN fg tab mm bits known q ≤ B + 12 := by unfold loN; omega
    exact Nat.le_trans (Nat.min_le_left _ _) this
  · rw [if_neg h]; omega
theorem lsta_le {fg : Nat → Nat} {st far B : Nat} (hf : ∀ q, fg q ≤ B) (hB : 1000000 ≤ B) (hfar : far ≤ B) : ∀ q, lsta fg st far 16 q ≤ B := by
  intro q; unfold lsta; split
  · split <;> omega
  · exact hf q
theorem vit_le {tab ga : Nat → Nat} {na mm kk : Nat} {fg xg wg : Nat → Nat} {B : Nat} (hB : 1000000 ≤ B) (hf : ∀ q, fg q ≤ B) : ∀ i q, (vit tab ga na mm kk fg xg wg i).1 q ≤ B + 12 * i
  | 0, q => lsta_le hf hB (by omega) q
  | i + 1, q => by
    have := lcop_nxt_le (tab := tab) (mm := mm) (bits := numAt ga na (i * kk) kk) (known := knoAt ga na (i * kk) kk) (xg := (vit tab ga na mm kk fg xg wg i).2.1) (vit_le (tab := tab) (ga := ga) (na := na) (mm := mm) (kk := kk) (xg := xg) (wg := wg) hB hf i) q
    exact Nat.le_trans this (by omega)
theorem nup_lt {g : Nat → Nat} {j v B : Nat} (hg : ∀ q, g q < B) (hv : v < B) : ∀ q, nup g j v q < B := by
  intro q; unfold nup; split
  · exact hv
  · exact hg q
theorem two_pow_le16 {mm : Nat} (h4 : mm ≤ 4) : 2 ^ 2 ^ mm ≤ 65536 := two_pow_16 (two_pow_4 h4)
theorem vit_w {tab ga : Nat → Nat} {na mm kk : Nat} {fg xg wg : Nat → Nat} (h4 : mm ≤ 4) (hw : ∀ q, wg q < 65536) : ∀ i q, (vit tab ga na mm kk fg xg wg i).2.2 q < 65536
  | 0, q => hw q
  | i + 1, q => nup_lt (vit_w (tab := tab) (ga := ga) (na := na) (mm := mm) (kk := kk) (fg := fg) (xg := xg) h4 hw i) (Nat.lt_of_lt_of_le (frg_lt (2 ^ mm)) (two_pow_le16 h4)) q
/-- the way back -/
def tbk (mm steps : Nat) (wf : Nat → Nat) : Nat → Nat
  | 0 => 0
  | e + 1 => ahd mm (tbk mm steps wf e) + rg wf 320 (steps - e - 1) / 2 ^ tbk mm steps wf e % 2
theorem tbk_lt {mm steps : Nat} {wf : Nat → Nat} (h1 : 1 ≤ mm) (h4 : mm ≤ 4) : ∀ e, tbk mm steps wf e < 2 ^ mm
  | 0 => Nat.two_pow_pos mm
  | e + 1 => by
    have := ahd_lt h1 h4 (tbk_lt (steps := steps) (wf := wf) h1 h4 e)
    unfold tbk; omega
def rtb (gb : Nat → Nat) (nb mm steps : Nat) (wf : Nat → Nat) (e : Nat) : Nat → Nat := fun q => if steps - e ≤ q ∧ q < steps ∧ q < nb then tbk mm steps wf (steps - 1 - q) / 2 ^ (mm - 1) else gb q
theorem rtb_0 {gb : Nat → Nat} {nb mm steps : Nat} {wf : Nat → Nat} : rtb gb nb mm steps wf 0 = gb := by funext q; unfold rtb; rw [if_neg (by omega)]
theorem rtb_s {gb : Nat → Nat} {nb mm steps : Nat} {wf : Nat → Nat} {e : Nat} (he : e < steps) : rput (rtb gb nb mm steps wf e) nb (steps - e - 1) (tbk mm steps wf e / 2 ^ (mm - 1)) = rtb gb nb mm steps wf (e + 1) := by
  funext q
  by_cases hq : q = steps - e - 1
  · subst hq
    have e1 : steps - 1 - (steps - e - 1) = e := by omega
    by_cases hn : steps - e - 1 < nb
    · unfold rput rtb
      rw [if_pos ⟨rfl, hn⟩, if_pos ⟨by omega, by omega, hn⟩, e1]
    · unfold rput rtb
      rw [if_neg (fun z => hn z.2), if_neg (fun z => hn z.2.2), if_neg (fun z => hn z.2.2)]
  · unfold rput rtb
    rw [if_neg (fun z => hq z.1)]
    have : (steps - (e + 1) ≤ q ∧ q < steps ∧ q < nb) ↔ (steps - e ≤ q ∧ q < steps ∧ q < nb) := by omega
    simp only [this]
theorem rtb_le {gb : Nat → Nat} {nb mm steps : Nat} {wf : Nat → Nat} {e : Nat} (h1 : 1 ≤ mm) (h4 : mm ≤ 4) (hg : ∀ q, gb q ≤ 2) : ∀ q, rtb gb nb mm steps wf e q ≤ 2 := by
  intro q; unfold rtb; split
  · have := shr_le1 h1 (tbk_lt (steps := steps) (wf := wf) h1 h4 (steps - 1 - q)); omega
  · exact hg q
/-- how far the ways of a trail are apart -/
def apr (tab : Nat → Nat) (mm kk : Nat) (fg xg wg : Nat → Nat) : Nat → ((Nat → Nat) × (Nat → Nat) × (Nat → Nat)) × Nat
  | 0 => ((lsta fg (2 ^ mm / 2) (farT tab 0 (1 * 2 ^ kk - 1) (2 ^ mm)) 16, xg, wg), 1000000)
  | i + 1 =>
    let u := apr tab mm kk fg xg wg i
    let x := nxt u.1.1 tab mm 0 (1 * 2 ^ kk - 1) u.1.2.1 (2 ^ mm)
    ((nup (lcop u.1.1 x (2 ^ mm)) 0 1000000, x, nup u.1.2.2 0 (frg u.1.1 tab mm 0 (1 * 2 ^ kk - 1) (2 ^ mm))), min u.2 (lcop u.1.1 x (2 ^ mm) 0))
theorem apr_le {tab : Nat → Nat} {mm kk : Nat} {fg xg wg : Nat → Nat} {B : Nat} (hB : 1000000 ≤ B) (hf : ∀ q, fg q ≤ B) : ∀ i, (∀ q, (apr tab mm kk fg xg wg i).1.1 q ≤ B + 12 * i) ∧ (apr tab mm kk fg xg wg i).2 ≤ 1000000
  | 0 => ⟨fun q => lsta_le hf hB (Nat.le_trans farT_le (by omega)) q, Nat.le_refl _⟩
  | i + 1 => by
    have ih := apr_le (tab := tab) (mm := mm) (kk := kk) (xg := xg) (wg := wg) hB hf i
    refine ⟨fun q => ?_, Nat.le_trans (Nat.min_le_left _ _) ih.2⟩
    have := lcop_nxt_le (tab := tab) (mm := mm) (bits := 0) (known := 1 * 2 ^ kk - 1) (xg := (apr tab mm kk fg xg wg i).1.2.1) ih.1 q
    show nup _ 0 1000000 q ≤ _
    unfold nup; split
    · omega
    · exact Nat.le_trans this (by omega)
theorem n_xdec (a : Nat) : nI a + Int32.ofInt (-1) = nI a - nI 1 := by
  rw [Int32.sub_eq_add_neg]; rfl
