/-! what the chain, the lines and the levels make, in the rows' values -/
theorem gcap5 {j : Nat} (h : j < 5) : gcap (j + 5) = gcap j := by
  have : ∀ j, j < 5 → gcap (j + 5) = gcap j := by decide
  exact this j h
theorem gcap10 {j : Nat} (h : j < 5) : gcap (j + 10) = gcap j := by
  have : ∀ j, j < 5 → gcap (j + 10) = gcap j := by decide
  exact this j h
theorem gcapS {j : Nat} (h : j < 4) : gcap (j + 1) = 320 := by
  have : ∀ j, j < 4 → gcap (j + 1) = 320 := by decide
  exact this j h
theorem rharm_pt {f f' : Nat → Nat} {n k a b c q : Nat} (h : f q = f' q) : rharm f n k a b c q = rharm f' n k a b c q := by
  unfold rharm
  split
  · simp only [rburst, h]
  split
  · simp only [rscat, h]
  · exact h
theorem rtw_pt {f f' mk : Nat → Nat} {n mn k q : Nat} (h : f q = f' q) : rtw f n mk mn k q = rtw f' n mk mn k q := by simp only [rtw, h]
/-- what comes of a row of n bits f: the channel, and behind it the marks -/
def sArr (k a b c : Nat) (mk : Nat → Nat) (n : Nat) (f : Nat → Nat) (q : Nat) : Nat := rtw (rharm f n k a b c) n mk 320 n q
theorem sArr_c {k a b c n q : Nat} {mk f f' : Nat → Nat} (h : f q = f' q) : sArr k a b c mk n f q = sArr k a b c mk n f' q := rtw_pt (rharm_pt h)
theorem sArr_le {k a b c n : Nat} {mk f : Nat → Nat} (h : ∀ q, f q ≤ 2) (q : Nat) : sArr k a b c mk n f q ≤ 2 := rtw_le (rharm_le h) q
theorem send_eq {V V1 V2 V3 : RV} {o r k a b c : Nat} (hn : V.1 o ≤ gcap r) (h15 : V.1 15 = 320) (hr : 15 ≠ r)
    (h1 : V1 = (va_up V.1 r (min (V.1 o) (gcap r)), va_up V.2 r (rcop (V.2 r) (V.2 o) (V.1 o) (min (V.1 o) (gcap r))))) (h2 : V2 = (V1.1, va_up V1.2 r (rharm (V1.2 r) (V1.1 r) k a b c))) (h3 : V3 = (V2.1, va_up V2.2 r (rtw (V2.2 r) (V2.1 r) (V2.2 15) (V2.1 15) (V2.1 r)))) :
    V3.1 r = V.1 o ∧ (∀ q, q < V.1 o → V3.2 r q = sArr k a b c (V.2 15) (V.1 o) (V.2 o) q) ∧ ∀ r', r' ≠ r → V3.1 r' = V.1 r' ∧ V3.2 r' = V.2 r' := by
  subst h1; subst h2; subst h3
  have e : min (V.1 o) (gcap r) = V.1 o := Nat.min_eq_left hn
  refine ⟨by simp only [va_up_self, e], fun q hq => ?_, fun r' hr' => ?_⟩
  · simp only [va_up_self, e, va_up_ne _ _ hr, h15]
    unfold sArr
    exact rtw_pt (rharm_pt (by unfold rcop; rw [if_pos hq, rg_in hq]))
  · simp only [va_up_ne _ _ hr', and_self]
/-- the rows that are coded, as far as i -/
def Cod (ws : Nat → WV) (i : Nat) (V : RV) : Prop := ∀ j, j < i → V.1 (j + 1) = sSize (ws j) (V.1 j) ∧ ∀ q, q < V.1 (j + 1) → V.2 (j + 1) q = sCode (ws j) (V.1 j) (V.2 j) q
def cz (ws : Nat → WV) (n0 : Nat) : Nat → Nat
  | 0 => n0
  | j + 1 => sSize (ws j) (cz ws n0 j)
theorem Cod.z {ws : Nat → WV} {n : Nat} {V : RV} (h : Cod ws n V) : ∀ j, j ≤ n → V.1 j = cz ws (V.1 0) j
  | 0, _ => rfl
  | j + 1, hj => by rw [(h j (by omega)).1, h.z j (by omega)]; rfl
theorem cz_mono {ws : Nat → WV} {n n0 : Nat} (hw : ∀ j, j < n → gok (ws j)) : ∀ d j, j + d ≤ n → cz ws n0 j ≤ cz ws n0 (j + d)
  | 0, _, _ => Nat.le_refl _
  | d + 1, j, h => Nat.le_trans (cz_mono hw d j (by omega)) (sSize_ge (hw (j + d) (by omega)) _)
def Sam (P : Nat → Prop) (V V' : RV) : Prop := ∀ r, P r → V'.1 r = V.1 r ∧ V'.2 r = V.2 r
theorem code_s {V V1 : RV} {w : WV} {i : Nat} (hi : i < 4) (hz : sSize w (V.1 i) ≤ 320) (h1 : V1 = (va_up V.1 (i + 1) (min (sSize w (V.1 i)) (gcap (i + 1))), V.2)) : V1.1 (i + 1) = sSize w (V1.1 i) := by
  subst h1
  simp only [va_up_self, va_up_ne _ _ (show i ≠ i + 1 by omega), gcapS hi]
  exact Nat.min_eq_left hz
theorem code_b {V V1 V2 : RV} {ws : Nat → WV} {i : Nat} {gg : Nat → Nat} (hi : i < 4) (hz : sSize (ws i) (V.1 i) ≤ 320) (hc : Cod ws i V) (h1 : V1 = (va_up V.1 (i + 1) (min (sSize (ws i) (V.1 i)) (gcap (i + 1))), V.2)) (h2 : V2 = (V1.1, va_up V1.2 (i + 1) gg)) (hg : ∀ q, q < V1.1 (i + 1) → gg q = sCode (ws i) (V1.1 i) (V1.2 i) q) :
    Cod ws (i + 1) V2 ∧ V2.1 (i + 1) = sSize (ws i) (V.1 i) ∧ ∀ r, r ≠ i + 1 → V2.1 r = V.1 r ∧ V2.2 r = V.2 r := by
  have hs := code_s hi hz h1
  have a1 : ∀ r, r ≠ i + 1 → V1.1 r = V.1 r := fun r hr => by rw [h1]; exact va_up_ne _ _ hr
  have a2 : V1.2 = V.2 := by rw [h1]
  have b1 : V2.1 = V1.1 := by rw [h2]
  have b2 : ∀ r, r ≠ i + 1 → V2.2 r = V.2 r := fun r hr => by rw [h2]; exact (va_up_ne _ _ hr).trans (by rw [a2])
  have b3 : V2.2 (i + 1) = gg := by rw [h2]; exact va_up_self _ _ _
  refine ⟨fun j hj => ?_, by rw [b1, hs, a1 i (by omega)], fun r hr => ⟨by rw [b1]; exact a1 r hr, b2 r hr⟩⟩
  by_cases e : j = i
  · subst e
    rw [b1, b3, b2 j (by omega)]
    exact ⟨hs, fun q hq => by rw [hg q hq, a2]⟩
  · obtain ⟨c1, c2⟩ := hc j (by omega)
    rw [b1, a1 (j + 1) (by omega), a1 j (by omega), b2 (j + 1) (by omega), b2 j (by omega)]
    exact ⟨c1, c2⟩
/-- the rows that are decoded at the levels t, from i on -/
def Dcd (ws : Nat → WV) (t i n : Nat) (V : RV) : Prop := ∀ j, i ≤ j → j < n → V.1 (j + t) = V.1 j ∧ ∀ q, q < V.1 j → V.2 (j + t) q = sDec (ws j) (V.1 j) (V.1 (j + 1 + t)) (V.2 (j + 1 + t)) q
theorem dec_s {V V1 : RV} {t j : Nat} (ht : 5 ≤ t) (hj : j < 5) (hg : gcap (j + t) = gcap j) (hc : V.1 j ≤ gcap j) (h1 : V1 = (va_up V.1 (j + t) (min (V.1 j) (gcap (j + t))), V.2)) : V1.1 (j + t) = V1.1 j ∧ ∀ r, r ≠ j + t → V1.1 r = V.1 r := by
  subst h1
  refine ⟨?_, fun r hr => va_up_ne _ _ hr⟩
  simp only [va_up_self, va_up_ne _ _ (show j ≠ j + t by omega), hg]
  exact Nat.min_eq_left hc
theorem dec_b {V V1 V2 : RV} {ws : Nat → WV} {t j n : Nat} {gg : Nat → Nat} (ht : 5 ≤ t) (hj : j < 5) (hn : n < 5) (hg0 : gcap (j + t) = gcap j) (hc : V.1 j ≤ gcap j) (hd : Dcd ws t (j + 1) n V) (h1 : V1 = (va_up V.1 (j + t) (min (V.1 j) (gcap (j + t))), V.2)) (h2 : V2 = (V1.1, va_up V1.2 (j + t) gg)) (hg : ∀ q, q < V1.1 (j + t) → gg q = sDec (ws j) (V1.1 (j + t)) (V1.1 (j + 1 + t)) (V1.2 (j + 1 + t)) q) :
    Dcd ws t j n V2 ∧ V2.1 (j + t) = V.1 j ∧ ∀ r, r ≠ j + t → V2.1 r = V.1 r ∧ V2.2 r = V.2 r := by
  obtain ⟨hs, a1⟩ := dec_s ht hj hg0 hc h1
  have a2 : V1.2 = V.2 := by rw [h1]
  have b1 : V2.1 = V1.1 := by rw [h2]
  have b2 : ∀ r, r ≠ j + t → V2.2 r = V.2 r := fun r hr => by rw [h2]; exact (va_up_ne _ _ hr).trans (by rw [a2])
  have b3 : V2.2 (j + t) = gg := by rw [h2]; exact va_up_self _ _ _
  have e1 : V1.1 j = V.1 j := a1 j (by omega)
  refine ⟨fun i hi hin => ?_, by rw [b1, hs, e1], fun r hr => ⟨by rw [b1]; exact a1 r hr, b2 r hr⟩⟩
  by_cases e : i = j
  · subst e
    rw [b1, b3, b2 (i + 1 + t) (by omega)]
    refine ⟨hs, fun q hq => ?_⟩
    rw [hg q (by rw [hs]; exact hq), hs, a2]
  · obtain ⟨c1, c2⟩ := hd i (by omega) hin
    rw [b1, a1 (i + t) (by omega), a1 i (by omega), a1 (i + 1 + t) (by omega), b2 (i + t) (by omega), b2 (i + 1 + t) (by omega)]
    exact ⟨c1, c2⟩
theorem xsub1 {j : Nat} : nI (j + 1) - nI 1 = nI j := (pk_sub (by omega)).trans (by rw [Nat.add_sub_cancel])
theorem xneg {i : Nat} (hi : i < 2 ^ 31) (h : nI i - nI 1 < 0) : i = 0 := by
  cases i with
  | zero => rfl
  | succ j => rw [xsub1] at h; exact absurd h (nI_pos (by omega))
theorem xpos {i : Nat} (h : ¬ nI i - nI 1 < 0) : ∃ j, i = j + 1 := by
  cases i with
  | zero => exact absurd (by decide) h
  | succ j => exact ⟨j, rfl⟩
/-! what stands when all is settled: coded, sent over the line, decoded -/
def Stl (n : Nat) (ws : Nat → WV) (k a b c : Nat) (V : RV) : Prop := Cod ws n V ∧ V.1 (n + 5) = V.1 n ∧ (∀ q, q < V.1 n → V.2 (n + 5) q = sArr k a b c (V.2 15) (V.1 n) (V.2 n) q) ∧ Dcd ws 5 0 n V
theorem Stl.mk {n : Nat} {ws : Nat → WV} {k a b c : Nat} {V V1 V2 V3 : RV} (hn : n ≤ 4) (h1 : Cod ws n V1 ∧ Sam (fun r => r = 0 ∨ n < r) V V1) (h2 : V2.1 (n + 5) = V1.1 n ∧ (∀ q, q < V1.1 n → V2.2 (n + 5) q = sArr k a b c (V1.2 15) (V1.1 n) (V1.2 n) q) ∧ ∀ r', r' ≠ n + 5 → V2.1 r' = V1.1 r' ∧ V2.2 r' = V1.2 r') (h3 : Dcd ws 5 0 n V3 ∧ Sam (fun r => r < 5 ∨ n + 5 ≤ r) V2 V3) :
    Stl n ws k a b c V3 ∧ V3.1 0 = V.1 0 ∧ V3.2 0 = V.2 0 ∧ V3.2 15 = V.2 15 := by
  obtain ⟨c1, c2⟩ := h1; obtain ⟨s1, s2, s3⟩ := h2; obtain ⟨d1, d2⟩ := h3
  have lo : ∀ r, r < 5 → V3.1 r = V1.1 r ∧ V3.2 r = V1.2 r := fun r hr => by
    obtain ⟨a1, a2⟩ := d2 r (Or.inl hr); obtain ⟨b1, b2⟩ := s3 r (by omega)
    exact ⟨a1.trans b1, a2.trans b2⟩
  obtain ⟨t1, t2⟩ := d2 (n + 5) (Or.inr (Nat.le_refl _))
  obtain ⟨u1, u2⟩ := d2 15 (Or.inr (by omega)); obtain ⟨v1, v2⟩ := s3 15 (by omega); obtain ⟨w1, w2⟩ := c2 15 (Or.inr (by omega))
  obtain ⟨x1, x2⟩ := c2 0 (Or.inl rfl)
  refine ⟨⟨fun j hj => ?_, ?_, fun q hq => ?_, d1⟩, (lo 0 (by omega)).1.trans x1, (lo 0 (by omega)).2.trans x2, (u2.trans v2).trans w2⟩
  · rw [(lo (j + 1) (by omega)).1, (lo j (by omega)).1, (lo (j + 1) (by omega)).2, (lo j (by omega)).2]; exact c1 j hj
  · rw [t1, s1, (lo n (by omega)).1]
  · rw [(lo n (by omega)).1] at hq
    rw [t2, s2 q hq, u2, v2, (lo n (by omega)).1, (lo n (by omega)).2]
/-- rows decoded out of f, d levels down -/
def dRow (ws : Nat → WV) (z : Nat → Nat) (n : Nat) (f : Nat → Nat) : Nat → (Nat → Nat)
  | 0 => f
  | d + 1 => fun q => sDec (ws (n - d - 1)) (z (n - d - 1)) (z (n - d)) (dRow ws z n f d) q
theorem rg_eq {f f' : Nat → Nat} {n : Nat} (h : ∀ q, q < n → f q = f' q) : rg f n = rg f' n := rg_e h
theorem Dcd.row {ws : Nat → WV} {t n : Nat} {V : RV} {f : Nat → Nat} {z : Nat → Nat} (hw : ∀ j, j < n → gok (ws j)) (hz : ∀ j, j ≤ n → z j = V.1 j) (h320 : ∀ j, j ≤ n → z j ≤ 320) (hs : ∀ j, j < n → z (j + 1) = sSize (ws j) (z j)) (hd : Dcd ws t 0 n V) (hn : V.1 (n + t) = z n) (hf : ∀ q, q < z n → V.2 (n + t) q = f q) :
    ∀ d, d ≤ n → V.1 (n - d + t) = z (n - d) ∧ ∀ q, q < z (n - d) → V.2 (n - d + t) q = dRow ws z n f d q
  | 0, _ => ⟨hn, hf⟩
  | d + 1, hd1 => by
    obtain ⟨a1, a2⟩ := Dcd.row hw hz h320 hs hd hn hf d (by omega)
    have e : n - (d + 1) = n - d - 1 := by omega
    have e1 : n - d - 1 + 1 = n - d := by omega
    obtain ⟨b1, b2⟩ := hd (n - d - 1) (Nat.zero_le _) (by omega)
    rw [e]
    refine ⟨by rw [b1, hz _ (by omega)], fun q hq => ?_⟩
    rw [b2 q (by rw [← hz _ (by omega)]; exact hq), e1, a1, ← hz _ (by omega)]
    show sDec _ _ _ _ q = sDec _ _ _ _ q
    rw [sDec_c (hw _ (by omega)) (by rw [← hs _ (by omega), e1]; exact h320 _ (by omega)) (rg_eq a2)]
theorem dRow_c {ws : Nat → WV} {z z' : Nat → Nat} {n : Nat} {f f' : Nat → Nat} (hw : ∀ j, j < n → gok (ws j)) (hz : ∀ j, j ≤ n → z j = z' j) (h320 : ∀ j, j ≤ n → z j ≤ 320) (hs : ∀ j, j < n → z (j + 1) = sSize (ws j) (z j)) (hf : ∀ q, q < z n → f q = f' q) : ∀ d, d ≤ n → ∀ q, q < z (n - d) → dRow ws z n f d q = dRow ws z' n f' d q
  | 0, _ => hf
  | d + 1, hd => fun q _ => by
    have ih := dRow_c hw hz h320 hs hf d (by omega)
    have e1 : n - d - 1 + 1 = n - d := by omega
    show sDec _ _ _ _ q = sDec _ _ _ _ q
    rw [← hz _ (by omega), ← hz _ (by omega), sDec_c (hw _ (by omega)) (by rw [← hs _ (by omega), e1]; exact h320 _ (by omega)) (rg_eq ih)]
theorem oth_c {g og og' : Nat → Nat} {n : Nat} (h : ∀ q, q < n → og q = og' q) : cnt (isOther g n og n) n = cnt (isOther g n og' n) n :=
  cnt_c fun q hq => by unfold isOther; rw [rg_in (g := og) hq, rg_in (g := og') hq, h q hq]
/-- the errors there would be, if f came -/
def eOf (ws : Nat → WV) (n : Nat) (V : RV) (f : Nat → Nat) : Nat := cnt (isOther (V.2 0) (V.1 0) (dRow ws V.1 n f n) (V.1 0)) (V.1 0)
theorem eOf_le (ws : Nat → WV) (n : Nat) (V : RV) (f : Nat → Nat) : eOf ws n V f ≤ V.1 0 := cnt_le _ _
section EOF
variable {cy : Nat → ClassId} {S : pS} {G T : Nat → Nat} {n : Nat} {ws : Nat → WV} {l1 l2 : va_E} {V V1 : RV}
theorem Pic.gk (h : Pic cy S G T n ws l1 l2 V) : ∀ j, j < n → gok (ws j) := fun j hj => (h.stg hj).1
theorem Pic.z320 (h : Pic cy S G T n ws l1 l2 V) : ∀ j, j ≤ n → V.1 j ≤ 320 := fun j hj => h.r320 (by have := h.n4; omega)
theorem eOf_c (h : Pic cy S G T n ws l1 l2 V) (hs : ∀ j, j < n → V.1 (j + 1) = sSize (ws j) (V.1 j)) (hS : Sam (fun r => r < 10 ∨ r = 15) V V1) {f f' : Nat → Nat} (hf : ∀ q, q < V.1 n → f q = f' q) : eOf ws n V f = eOf ws n V1 f' := by
  have hn := h.n4
  unfold eOf
  rw [(hS 0 (by omega)).1, (hS 0 (by omega)).2]
  refine oth_c fun q hq => dRow_c h.gk (fun j hj => ((hS j (by omega)).1).symm) h.z320 hs hf n (Nat.le_refl _) q ?_
  rw [Nat.sub_self]; exact hq
theorem eOf_d (h : Pic cy S G T n ws l1 l2 V) (hs : ∀ j, j < n → V.1 (j + 1) = sSize (ws j) (V.1 j)) {t : Nat} {f : Nat → Nat} (hlo : ∀ j, j ≤ n → V1.1 j = V.1 j) (h0 : V1.2 0 = V.2 0) (hd : Dcd ws t 0 n V1) (hnt : V1.1 (n + t) = V.1 n) (hf : ∀ q, q < V.1 n → V1.2 (n + t) q = f q) : cnt (isOther (V1.2 0) (V1.1 0) (V1.2 t) (V1.1 t)) (V1.1 0) = eOf ws n V f := by
  obtain ⟨a1, a2⟩ := Dcd.row (t := t) (V := V1) (f := f) (z := V.1) h.gk (fun j hj => (hlo j hj).symm) h.z320 hs hd hnt hf n (Nat.le_refl _)
  rw [Nat.sub_self, Nat.zero_add] at a1 a2
  rw [hlo 0 (Nat.zero_le _), h0, a1]
  exact oth_c a2
end EOF
theorem rturn_pt {f f' : Nat → Nat} {n j q : Nat} (hf : ∀ q, q < n → f q = f' q) (hq : q < n) : rturn f n j q = rturn f' n j q := by
  unfold rturn
  by_cases h : q = j
  · subst h; rw [hf q hq]
  · rw [if_neg (fun z => h z.1), if_neg (fun z => h z.1), hf q hq]
/-- errorsTurned: copied, turned, decoded -/
theorem turn_eq {V V1 V2 : RV} {o r p : Nat} (hor : o ≠ r) (hn : V.1 o ≤ gcap r) (h1 : V1 = (va_up V.1 r (min (V.1 o) (gcap r)), va_up V.2 r (rcop (V.2 r) (V.2 o) (V.1 o) (min (V.1 o) (gcap r))))) (h2 : V2 = (V1.1, va_up V1.2 r (rturn (V1.2 r) (V1.1 r) p))) :
    V2.1 r = V.1 o ∧ (∀ q, q < V.1 o → V2.2 r q = rturn (V.2 o) (V.1 o) p q) ∧ ∀ r', r' ≠ r → V2.1 r' = V.1 r' ∧ V2.2 r' = V.2 r' := by
  subst h1; subst h2
  have e : min (V.1 o) (gcap r) = V.1 o := Nat.min_eq_left hn
  refine ⟨by simp only [va_up_self, e], fun q hq => ?_, fun r' hr' => ?_⟩
  · simp only [va_up_self, e]
    exact rturn_pt (fun q hq => by unfold rcop; rw [if_pos hq, rg_in hq]) hq
  · simp only [va_up_ne _ _ hr', and_self]
/-- the least of 1 .. k at which there are errors -/
def brk (e : Nat → Nat) : Nat → Nat
  | 0 => 0
  | k + 1 => if brk e k ≠ 0 then brk e k else if 0 < e (k + 1) then k + 1 else 0
theorem brk_0 {e : Nat → Nat} {k m : Nat} (h : brk e k = 0) (hm : e m > 0) (h1 : 1 ≤ m) (hk : m ≤ k) : False := by
  induction k with
  | zero => omega
  | succ k ih =>
    unfold brk at h
    by_cases z : brk e k = 0
    · rw [if_neg (fun q => q z)] at h
      by_cases e0 : m = k + 1
      · subst e0; rw [if_pos hm] at h; omega
      · exact ih z (by omega)
    · rw [if_pos z] at h; exact z h
theorem brk_z {e : Nat → Nat} : ∀ {k : Nat}, (∀ m, 1 ≤ m → m ≤ k → e m = 0) → brk e k = 0
  | 0, _ => rfl
  | k + 1, h => by unfold brk; rw [brk_z (fun m h1 h2 => h m h1 (by omega)), h (k + 1) (by omega) (Nat.le_refl _)]; simp
theorem brk_at {e : Nat → Nat} {k m : Nat} (h : ∀ i, 1 ≤ i → i < m → e i = 0) (hm : 0 < e m) (h1 : 1 ≤ m) (hk : m ≤ k) : brk e k = m := by
  induction k with
  | zero => omega
  | succ k ih =>
    unfold brk
    by_cases z : m = k + 1
    · subst z
      rw [brk_z (fun i h1 h2 => h i h1 (by omega)), if_neg (fun q => q rfl), if_pos hm]
    · rw [ih (by omega), if_pos (by omega)]
theorem brk_c {e e' : Nat → Nat} : ∀ {k : Nat}, (∀ m, m ≤ k → e m = e' m) → brk e k = brk e' k
  | 0, _ => rfl
  | k + 1, h => by unfold brk; rw [brk_c (fun m hm => h m (by omega)), h (k + 1) (Nat.le_refl _)]
theorem brk_e {e : Nat → Nat} : ∀ {k : Nat}, brk e k ≠ 0 → 0 < e (brk e k) ∧ brk e k ≤ k
  | 0, h => absurd rfl h
  | k + 1, h => by
    unfold brk at h ⊢
    by_cases z : brk e k = 0
    · rw [if_neg (fun q => q z)] at h ⊢
      by_cases y : 0 < e (k + 1)
      · rw [if_pos y]; exact ⟨y, Nat.le_refl _⟩
      · rw [if_neg y] at h; exact absurd rfl h
    · rw [if_pos z]; have := brk_e z; exact ⟨this.1, by omega⟩
/-- m places of a row turned, from a place on -/
def trn (f : Nat → Nat) (fr m : Nat) (q : Nat) : Nat := if fr ≤ q ∧ q < fr + m ∧ f q ≠ 2 then 1 - f q else f q
/-! what is asked of a settled laboratory, in its rows' values -/
def hurtN (n : Nat) (V : RV) : Nat := cnt (isOther (V.2 n) (V.1 n) (V.2 (n + 5)) (V.1 (n + 5))) (V.1 n)
def errN (V : RV) : Nat := cnt (isOther (V.2 0) (V.1 0) (V.2 5) (V.1 5)) (V.1 0)
def mnd (ws : Nat → WV) (V : RV) (j : Nat) : Nat := cnt (isOther (sCode (ws j) (V.1 j) (V.2 (j + 5))) (V.1 (j + 1)) (V.2 (j + 1 + 5)) (V.1 (j + 1))) (V.1 (j + 1))
def damN (ws : Nat → WV) (V : RV) (j : Nat) : Nat := sDam (ws j) (V.1 (j + 1 + 5)) (V.2 (j + 1 + 5))
def brkN (ws : Nat → WV) (n : Nat) (V : RV) (fr : Nat) : Nat := brk (fun m => eOf ws n V (trn (V.2 n) fr m)) (V.1 n - fr)
def weakN (ws : Nat → WV) (n : Nat) (V : RV) : Nat := cnt (fun p => decide (errN V < eOf ws n V (rturn (V.2 (n + 5)) (V.1 n) p))) (V.1 n)
/-- the rows that asking leaves as they are -/
abbrev Kp : RV → RV → Prop := Sam (fun r => r < 10 ∨ r = 15)
theorem Kp.id {V : RV} : Kp V V := fun _ _ => ⟨rfl, rfl⟩
theorem Sam.trans {P : Nat → Prop} {V V1 V2 : RV} (h1 : Sam P V V1) (h2 : Sam P V1 V2) : Sam P V V2 := fun r hr => ⟨(h2 r hr).1.trans (h1 r hr).1, (h2 r hr).2.trans (h1 r hr).2⟩
theorem Sam.symm {P : Nat → Prop} {V V1 : RV} (h : Sam P V V1) : Sam P V1 V := fun r hr => ⟨(h r hr).1.symm, (h r hr).2.symm⟩
theorem Kp.hurt {n : Nat} {V V1 : RV} (hn : n ≤ 4) (h : Kp V V1) : hurtN n V1 = hurtN n V := by
  unfold hurtN; rw [(h n (by omega)).1, (h n (by omega)).2, (h (n + 5) (by omega)).1, (h (n + 5) (by omega)).2]
theorem Kp.err {V V1 : RV} (h : Kp V V1) : errN V1 = errN V := by
  unfold errN; rw [(h 0 (by omega)).1, (h 0 (by omega)).2, (h 5 (by omega)).1, (h 5 (by omega)).2]
theorem Kp.mend {ws : Nat → WV} {V V1 : RV} {j : Nat} (hj : j < 4) (h : Kp V V1) : mnd ws V1 j = mnd ws V j := by
  unfold mnd; rw [(h j (by omega)).1, (h (j + 5) (by omega)).2, (h (j + 1) (by omega)).1, (h (j + 1 + 5) (by omega)).2]
theorem Kp.dam {ws : Nat → WV} {V V1 : RV} {j : Nat} (hj : j < 4) (h : Kp V V1) : damN ws V1 j = damN ws V j := by
  unfold damN; rw [(h (j + 1 + 5) (by omega)).1, (h (j + 1 + 5) (by omega)).2]
theorem mnd_le (ws : Nat → WV) (V : RV) (j : Nat) : mnd ws V j ≤ V.1 (j + 1) := cnt_le _ _
section KPS
variable {cy : Nat → ClassId} {S : pS} {G T : Nat → Nat} {n : Nat} {ws : Nat → WV} {l1 l2 : va_E} {V V1 : RV} {k a b c : Nat}
theorem Stl.s (h : Stl n ws k a b c V) : ∀ j, j < n → V.1 (j + 1) = sSize (ws j) (V.1 j) := fun j hj => (h.1 j hj).1
theorem Stl.n5 (h : Stl n ws k a b c V) : V.1 (n + 5) = V.1 n := h.2.1
theorem Stl.up (h : Stl n ws k a b c V) {j : Nat} (hj : j ≤ n) : V.1 (j + 5) = V.1 j := by
  by_cases e : j = n
  · rw [e]; exact h.2.1
  · exact (h.2.2.2 j (Nat.zero_le _) (by omega)).1
theorem Stl.kp (h : Stl n ws k a b c V) (hn : n ≤ 4) (hk : Kp V V1) : Stl n ws k a b c V1 := by
  obtain ⟨h1, h2, h3, h4⟩ := h
  have e : ∀ r, r < 10 → V1.1 r = V.1 r ∧ V1.2 r = V.2 r := fun r hr => hk r (Or.inl hr)
  refine ⟨fun j hj => ?_, ?_, fun q hq => ?_, fun j h0 hj => ?_⟩
  · rw [(e (j + 1) (by omega)).1, (e j (by omega)).1, (e (j + 1) (by omega)).2, (e j (by omega)).2]; exact h1 j hj
  · rw [(e (n + 5) (by omega)).1, (e n (by omega)).1]; exact h2
  · rw [(e n (by omega)).1] at hq
    rw [(e (n + 5) (by omega)).2, (e n (by omega)).1, (e n (by omega)).2, (hk 15 (Or.inr rfl)).2]; exact h3 q hq
  · rw [(e (j + 5) (by omega)).1, (e j (by omega)).1, (e (j + 5) (by omega)).2, (e (j + 1 + 5) (by omega)).1, (e (j + 1 + 5) (by omega)).2]; exact h4 j h0 hj
theorem Kp.brks (h : Pic cy S G T n ws l1 l2 V) (hs : ∀ j, j < n → V.1 (j + 1) = sSize (ws j) (V.1 j)) (hk : Kp V V1) (fr : Nat) : brkN ws n V1 fr = brkN ws n V fr := by
  have hn := h.n4
  unfold brkN
  rw [(hk n (by omega)).1, (hk n (by omega)).2]
  exact brk_c fun m _ => (eOf_c h hs hk (fun _ _ => rfl)).symm
theorem Kp.weaks (h : Pic cy S G T n ws l1 l2 V) (hs : ∀ j, j < n → V.1 (j + 1) = sSize (ws j) (V.1 j)) (hk : Kp V V1) : weakN ws n V1 = weakN ws n V := by
  have hn := h.n4
  unfold weakN
  rw [(hk n (by omega)).1, (hk (n + 5) (by omega)).2, hk.err]
  exact cnt_c fun p _ => by rw [eOf_c h hs hk (fun _ _ => rfl)]
end KPS
/-- mendedBy: what a stage would code of what it decoded -/
theorem mend_s {V V1 : RV} {w : WV} {j : Nat} (hj : j < 4) (hu : V.1 (j + 1 + 5) = V.1 (j + 1)) (hu0 : V.1 (j + 5) = V.1 j) (hs : V.1 (j + 1) = sSize w (V.1 j)) (hc : V.1 (j + 1) ≤ 320) (h1 : V1 = (va_up V.1 (j + 1 + 10) (min (V.1 (j + 1 + 5)) (gcap (j + 1 + 10))), V.2)) : V1.1 (j + 1 + 10) = sSize w (V1.1 (j + 5)) ∧ V1.1 (j + 1 + 10) = V.1 (j + 1) := by
  have e : gcap (j + 1 + 10) = 320 := (gcap10 (by omega)).trans (gcapS hj)
  subst h1
  simp only [va_up_self, va_up_ne _ _ (show j + 5 ≠ j + 1 + 10 by omega), e, hu, hu0]
  rw [Nat.min_eq_left hc]
  exact ⟨hs, rfl⟩
theorem mend_b {V V1 V2 : RV} {ws : Nat → WV} {j : Nat} {gg : Nat → Nat} (hj : j < 4) (hu : V.1 (j + 1 + 5) = V.1 (j + 1)) (hu0 : V.1 (j + 5) = V.1 j) (hs : V.1 (j + 1) = sSize (ws j) (V.1 j)) (hc : V.1 (j + 1) ≤ 320) (h1 : V1 = (va_up V.1 (j + 1 + 10) (min (V.1 (j + 1 + 5)) (gcap (j + 1 + 10))), V.2)) (h2 : V2 = (V1.1, va_up V1.2 (j + 1 + 10) gg)) (hg : ∀ q, q < V1.1 (j + 1 + 10) → gg q = sCode (ws j) (V1.1 (j + 5)) (V1.2 (j + 5)) q) :
    cnt (isOther (V2.2 (j + 1 + 10)) (V2.1 (j + 1 + 10)) (V2.2 (j + 1 + 5)) (V2.1 (j + 1 + 5))) (V2.1 (j + 1 + 10)) = mnd ws V j ∧ Kp V V2 := by
  obtain ⟨e1, e2⟩ := mend_s hj hu hu0 hs hc h1
  have a1 : ∀ r, r ≠ j + 1 + 10 → V2.1 r = V.1 r ∧ V2.2 r = V.2 r := fun r hr => by
    subst h2; subst h1
    simp only [va_up_ne _ _ hr, and_self]
  have b1 : V2.1 (j + 1 + 10) = V.1 (j + 1) := by rw [h2]; exact e2
  have b2 : V2.2 (j + 1 + 10) = gg := by rw [h2]; exact va_up_self _ _ _
  have c1 : V1.1 (j + 5) = V.1 j := by rw [h1]; exact (va_up_ne _ _ (by omega)).trans hu0
  have c2 : V1.2 = V.2 := by rw [h1]
  refine ⟨?_, fun r hr => a1 r (by omega)⟩
  rw [b1, b2, (a1 (j + 1 + 5) (by omega)).1, (a1 (j + 1 + 5) (by omega)).2, hu]
  unfold mnd
  refine cnt_c fun q hq => ?_
  unfold isOther
  rw [rg_in (g := gg) hq, rg_in (g := sCode _ _ _) hq, hg q (by rw [e2]; exact hq), c1, c2]
/-- breaks: one place more is turned -/
theorem trn_s {f g : Nat → Nat} {fr m n q : Nat} (hg : ∀ q, q < n → g q = trn f fr m q) (hq : q < n) (hn : fr + m < n) : rturn g n (fr + m) q = trn f fr (m + 1) q := by
  unfold rturn
  by_cases h : q = fr + m
  · subst h
    rw [hg _ hn]
    have e : trn f fr m (fr + m) = f (fr + m) := by unfold trn; rw [if_neg (by omega)]
    rw [e]
    unfold trn
    by_cases h2 : f (fr + m) = 2
    · rw [if_neg (fun z => z.2.2 h2), if_neg (fun z => z.2.2 h2)]
    · rw [if_pos ⟨rfl, hn, h2⟩, if_pos ⟨by omega, by omega, h2⟩]
  · rw [if_neg (fun z => h z.1), hg q hq]
    unfold trn
    by_cases h2 : fr ≤ q ∧ q < fr + m ∧ f q ≠ 2
    · rw [if_pos h2, if_pos ⟨h2.1, by omega, h2.2.2⟩]
    · rw [if_neg h2, if_neg (fun z => h2 ⟨z.1, by omega, z.2.2⟩)]
theorem trn_0 {f : Nat → Nat} {fr : Nat} : trn f fr 0 = f := by
  funext q; unfold trn; rw [if_neg (by omega)]
/-- the digest's parts -/
def dd (d : Int64) (x : Nat) : Int64 := d * 31 + (nI x).toInt64
def wpl (fa fb : Nat → Nat) (d : Int64) : Nat → Int64
  | 0 => d
  | k + 1 => (wpl fa fb d k * 31 + (nI (fa k)).toInt64) * 31 + (nI (fb k)).toInt64
theorem wpl_c {fa fb fa' fb' : Nat → Nat} {d : Int64} : ∀ {k : Nat}, (∀ q, fa q = fa' q) → (∀ q, fb q = fb' q) → wpl fa fb d k = wpl fa' fb' d k
  | 0, _, _ => rfl
  | k + 1, h1, h2 => by unfold wpl; rw [wpl_c h1 h2, h1, h2]
def wws (w : WV) (d : Int64) : Nat → Int64
  | 0 => d
  | k + 1 => wws w d k * 31 + (nI (sWrd w k)).toInt64
def wst1 (ws : Nat → WV) (V : RV) (d : Int64) (j : Nat) : Int64 := dd (dd (dd (dd (dd (dd d (ws j).1) (V.1 j)) (V.1 (j + 1))) (mnd ws V j)) (damN ws V j)) (sApart (ws j))
def wst (ws : Nat → WV) (V : RV) (d : Int64) : Nat → Int64
  | 0 => d
  | j + 1 => if (ws j).1 = 1 then wws (ws j) (wst1 ws V (wst ws V d j) j) 11 else wst1 ws V (wst ws V d j) j
theorem Kp.wsts {ws : Nat → WV} {V V1 : RV} {d : Int64} (h : Kp V V1) : ∀ {j : Nat}, j ≤ 4 → wst ws V1 d j = wst ws V d j
  | 0, _ => rfl
  | j + 1, hj => by
    unfold wst wst1
    rw [Kp.wsts h (j := j) (by omega), h.mend (by omega), h.dam (by omega), (h j (by omega)).1, (h (j + 1) (by omega)).1]
def dgt (n : Nat) (ws : Nat → WV) (V : RV) : Int64 :=
  dd (dd (dd (wpl (rg (V.2 n) (V.1 n)) (rg (V.2 (n + 5)) (V.1 (n + 5))) (wpl (rg (V.2 0) (V.1 0)) (rg (V.2 5) (V.1 5)) (wst ws V (dd (dd (dd (dd (dd 58076 (V.1 0)) n) (V.1 n)) (hurtN n V)) (errN V)) n) (V.1 0)) (V.1 n)) (brkN ws n V 0)) (brkN ws n V 5)) (weakN ws n V)
section BRK
variable {cy : Nat → ClassId} {S : pS} {G T : Nat → Nat} {n : Nat} {ws : Nat → WV} {l1 l2 : va_E} {V Vx V2 V3 : RV} {fr m : Nat}
theorem brk_0row {V1 : RV} (hn4 : n ≤ 4) (hc : V.1 n ≤ gcap n) (h1 : V1 = (va_up V.1 (n + 10) (min (V.1 n) (gcap (n + 10))), va_up V.2 (n + 10) (rcop (V.2 (n + 10)) (V.2 n) (V.1 n) (min (V.1 n) (gcap (n + 10)))))) : V1.1 (n + 10) = V.1 n ∧ (∀ q, q < V.1 n → V1.2 (n + 10) q = trn (V.2 n) fr 0 q) ∧ Kp V V1 := by
  have e : min (V.1 n) (gcap (n + 10)) = V.1 n := Nat.min_eq_left (by rw [gcap10 (by omega)]; exact hc)
  subst h1
  refine ⟨by simp only [va_up_self, e], fun q hq => ?_, fun r hr => ?_⟩
  · simp only [va_up_self, e]
    rw [trn_0]; unfold rcop; rw [if_pos hq, rg_in hq]
  · have hr' : r ≠ n + 10 := by omega
    simp only [va_up_ne _ _ hr', and_self]
theorem brk_st (hP : Pic cy S G T n ws l1 l2 V) (hs : ∀ j, j < n → V.1 (j + 1) = sSize (ws j) (V.1 j)) (hx : fr + m < V.1 n) (hrow : Vx.1 (n + 10) = V.1 n) (hq : ∀ q, q < V.1 n → Vx.2 (n + 10) q = trn (V.2 n) fr m q) (hk : Kp V Vx)
    (h2 : V2 = (Vx.1, va_up Vx.2 (n + 10) (rturn (Vx.2 (n + 10)) (Vx.1 (n + 10)) (fr + m)))) (h3 : Dcd ws 10 0 n V3 ∧ Sam (fun r => r < 10 ∨ n + 10 ≤ r) V2 V3) :
    V3.1 (n + 10) = V.1 n ∧ (∀ q, q < V.1 n → V3.2 (n + 10) q = trn (V.2 n) fr (m + 1) q) ∧ Kp V V3 ∧ cnt (isOther (V3.2 0) (V3.1 0) (V3.2 10) (V3.1 10)) (V3.1 0) = eOf ws n V (trn (V.2 n) fr (m + 1)) := by
  have hn4 := hP.n4
  obtain ⟨d1, d2⟩ := h3
  have a1 : ∀ r, V2.1 r = Vx.1 r := fun r => by rw [h2]
  have a2 : ∀ r, r ≠ n + 10 → V2.2 r = Vx.2 r := fun r hr => by rw [h2]; exact va_up_ne _ _ hr
  have a3 : V2.2 (n + 10) = rturn (Vx.2 (n + 10)) (V.1 n) (fr + m) := by rw [h2, ← hrow]; exact va_up_self _ _ _
  have b1 : V3.1 (n + 10) = V.1 n := ((d2 (n + 10) (Or.inr (Nat.le_refl _))).1.trans (a1 _)).trans hrow
  have b2 : ∀ q, q < V.1 n → V3.2 (n + 10) q = trn (V.2 n) fr (m + 1) q := fun q h => by
    rw [(d2 (n + 10) (Or.inr (Nat.le_refl _))).2, a3]; exact trn_s hq h hx
  have b3 : Kp V V3 := fun r hr => ⟨((d2 r (by omega)).1.trans (a1 _)).trans (hk r hr).1, ((d2 r (by omega)).2.trans (a2 _ (by omega))).trans (hk r hr).2⟩
  exact ⟨b1, b2, b3, eOf_d hP hs (fun j hj => (b3 j (by omega)).1) (b3 0 (by omega)).2 d1 b1 b2⟩
end BRK
theorem mean_nan {sm : Nat} (h : sm ≤ 160) : vf_n64 (FP.ddiv (FP.i2d (nI sm)) (FP.i2d (nI 5))) := by
  have : ∀ sm, sm < 161 → FP.ddiv (FP.i2d (nI sm)) (FP.i2d (nI 5)) &&& 0x7fffffffffffffff ≤ 0x7ff0000000000000 := by decide +kernel
  exact this sm (by omega)
/-! changes -/
section CHG
variable {cy : Nat → ClassId} {S S' : pS} {G T T' : Nat → Nat} {n : Nat} {ws ws' : Nat → WV} {l1 l2 : va_E} {V : RV}
/-- the pool grows, or changes elsewhere -/
theorem Pic.ext (h : Pic cy S G T n ws l1 l2 V) (hm : ∀ a, a ∈ S.1 → a ∈ S'.1) (hc : ∀ a, a ∈ S.1 → S'.2 a = S.2 a) : Pic cy S' G T n ws l1 l2 V := by
  have e : ∀ k, k < 53 → S'.2 (G k) = S.2 (G k) := fun k hk => hc _ (h.mem hk)
  refine h.chg hm (fun k hk _ _ _ _ _ => e k (by omega)) (fun j hj => ?_) ((e 3 (by omega)).trans h.c3) ((e 4 (by omega)).trans h.c4) ?_ (fun r hr => ?_) h.m15
  · obtain ⟨-, -, -, -, a, b⟩ := h.stg (j := j / 2) (by omega)
    rcases Nat.mod_two_eq_zero_or_one j with z | z
    · exact hc _ (by rw [show j = 2 * (j / 2) by omega]; exact a)
    · exact hc _ (by rw [show j = 2 * (j / 2) + 1 by omega]; exact b)
  · obtain ⟨F, X, W, a, b, c, d⟩ := h.lat
    exact ⟨F, X, W, (e 6 (by omega)).trans a, (e 7 (by omega)).trans b, (e 8 (by omega)).trans c, d⟩
  · obtain ⟨a, b, c⟩ := h.row hr
    exact ⟨(e (21 + r) (by omega)).trans a, (e (37 + r) (by omega)).trans b, c⟩
theorem gst_c {w : WV} {j : Nat} (h : T' (2 * j + 1) = T (2 * j + 1)) : gst G T' j w = gst G T j w := by unfold gst; rw [h]
/-- a stage more at the end -/
theorem Pic.app (h : Pic cy S G T n ws l1 l2 V) (hn : n < 4) (hT : ∀ k, k < 2 * n → T' k = T k) (hw : ∀ k, k < n → ws' k = ws k) (hst : gStg cy S' G T' (ws' n) n) (hne : ∀ i, i < 53 → T' (2 * n) ≠ G i ∧ T' (2 * n + 1) ≠ G i) (hm : S'.1 = S.1) (hS : ∀ a, a ≠ G 1 → a ≠ G 2 → S'.2 a = S.2 a)
    (h1 : S'.2 (G 1) = .inr (1, [.ref (G 2), .int (nI (n + 1))])) (h2 : ∃ lq, S'.2 (G 2) = aQ (cy 3) 4 lq ∧ ∀ j, j < n + 1 → lq j = some (T' (2 * j))) : Pic cy S' G T' (n + 1) ws' l1 l2 V := by
  have e : ∀ k, k < 53 → k ≠ 1 → k ≠ 2 → S'.2 (G k) = S.2 (G k) := fun k hk k1 k2 => hS _ (h.ne' (by omega) hk k1) (h.ne' (by omega) hk k2)
  have eT : ∀ j, j < 2 * n → S'.2 (T j) = S.2 (T j) := fun j hj => hS _ (h.nT (by omega) hj) (h.nT (by omega) hj)
  refine ⟨fun k hk => by rw [hm]; exact h.mem hk, ⟨h.2.1.1, fun i j hi hj => ?_⟩, by omega, (e 0 (by omega) (by omega) (by omega)).trans h.c0, h1, h2, (e 3 (by omega) (by omega) (by omega)).trans h.c3, (e 4 (by omega) (by omega) (by omega)).trans h.c4, (e 5 (by omega) (by omega) (by omega)).trans h.c5, ?_, fun L hL => ⟨?_, ?_⟩, fun r hr => ?_, h.m15, fun j hj => ?_⟩
  · by_cases z : j < 2 * n
    · rw [hT j z]; exact h.nT hi z
    · rcases (show j = 2 * n ∨ j = 2 * n + 1 by omega) with y | y
      · rw [y]; exact (hne i hi).1
      · rw [y]; exact (hne i hi).2
  · obtain ⟨F, X, W, a, b, c, d⟩ := h.lat
    exact ⟨F, X, W, (e 6 (by omega) (by omega) (by omega)).trans a, (e 7 (by omega) (by omega) (by omega)).trans b, (e 8 (by omega) (by omega) (by omega)).trans c, d⟩
  · exact (e (9 + L) (by omega) (by omega) (by omega)).trans (h.lev hL)
  · obtain ⟨rq, a, b⟩ := h.leq hL
    exact ⟨rq, (e (12 + L) (by omega) (by omega) (by omega)).trans a, b⟩
  · obtain ⟨a, b, c⟩ := h.row hr
    exact ⟨(e (21 + r) (by omega) (by omega) (by omega)).trans a, (e (37 + r) (by omega) (by omega) (by omega)).trans b, c⟩
  · by_cases z : j < n
    · obtain ⟨g0, g1, g2, g3, g4, g5⟩ := h.stg z
      unfold gStg
      rw [hw j z, gst_c (hT (2 * j + 1) (by omega)), hT (2 * j) (by omega), hT (2 * j + 1) (by omega), eT (2 * j) (by omega), eT (2 * j + 1) (by omega), hm]
      exact ⟨g0, g1, g2, g3, g4, g5⟩
    · rw [show j = n by omega]; exact hst
/-- the last stage gone -/
theorem Pic.pop (h : Pic cy S G T (n + 1) ws l1 l2 V) (hm : S'.1 = S.1) (hS : ∀ a, a ≠ G 1 → a ≠ G 2 → S'.2 a = S.2 a)
    (h1 : S'.2 (G 1) = .inr (1, [.ref (G 2), .int (nI n)])) (h2 : ∃ lq, S'.2 (G 2) = aQ (cy 3) 4 lq ∧ ∀ j, j < n → lq j = some (T (2 * j))) : Pic cy S' G T n ws l1 l2 V := by
  have hn := h.n4
  have e : ∀ k, k < 53 → k ≠ 1 → k ≠ 2 → S'.2 (G k) = S.2 (G k) := fun k hk k1 k2 => hS _ (h.ne' (by omega) hk k1) (h.ne' (by omega) hk k2)
  have eT : ∀ j, j < 2 * n → S'.2 (T j) = S.2 (T j) := fun j hj => hS _ (h.nT (by omega) (by omega)) (h.nT (by omega) (by omega))
  refine ⟨fun k hk => by rw [hm]; exact h.mem hk, ⟨h.2.1.1, fun i j hi hj => h.nT hi (by omega)⟩, by omega, (e 0 (by omega) (by omega) (by omega)).trans h.c0, h1, h2, (e 3 (by omega) (by omega) (by omega)).trans h.c3, (e 4 (by omega) (by omega) (by omega)).trans h.c4, (e 5 (by omega) (by omega) (by omega)).trans h.c5, ?_, fun L hL => ⟨?_, ?_⟩, fun r hr => ?_, h.m15, fun j hj => ?_⟩
  · obtain ⟨F, X, W, a, b, c, d⟩ := h.lat
    exact ⟨F, X, W, (e 6 (by omega) (by omega) (by omega)).trans a, (e 7 (by omega) (by omega) (by omega)).trans b, (e 8 (by omega) (by omega) (by omega)).trans c, d⟩
  · exact (e (9 + L) (by omega) (by omega) (by omega)).trans (h.lev hL)
  · obtain ⟨rq, a, b⟩ := h.leq hL
    exact ⟨rq, (e (12 + L) (by omega) (by omega) (by omega)).trans a, b⟩
  · obtain ⟨a, b, c⟩ := h.row hr
    exact ⟨(e (21 + r) (by omega) (by omega) (by omega)).trans a, (e (37 + r) (by omega) (by omega) (by omega)).trans b, c⟩
  · obtain ⟨g0, g1, g2, g3, g4, g5⟩ := h.stg (j := j) (by omega)
    unfold gStg
    rw [eT (2 * j) (by omega), eT (2 * j + 1) (by omega), hm]
    exact ⟨g0, g1, g2, g3, g4, g5⟩
end CHG
theorem fits1 {v k : Nat} (hk : k ≤ 16) (hv : v < 2 ^ k) : nI (if fitsB (nI v) k = true then 1 else 0) = nI 1 := by
  have := two_pow_16 hk
  rw [fitsB_nI hk (by omega), decide_eq_true hv]; rfl
/-- what a settling leaves of the rows that it stands on -/
def Nw (n : Nat) (ws : Nat → WV) (k a b c : Nat) (V V' : RV) : Prop := Stl n ws k a b c V' ∧ V'.1 0 = V.1 0 ∧ V'.2 0 = V.2 0 ∧ V'.2 15 = V.2 15
theorem write_b {V V1 V2 : RV} {mm v : Nat} (h : V.1 0 + mm ≤ 32) (h1 : V1 = (va_up V.1 0 (min (V.1 0 + mm) (gcap 0)), V.2)) (h2 : V2 = (V1.1, va_up V1.2 0 (rnum (V1.2 0) (V1.1 0) (V.1 0) v mm mm))) :
    V2.1 0 = V.1 0 + mm ∧ V2.2 0 = rnum (V.2 0) (V.1 0 + mm) (V.1 0) v mm mm ∧ V2.2 15 = V.2 15 := by
  have e : min (V.1 0 + mm) (gcap 0) = V.1 0 + mm := Nat.min_eq_left (by have : gcap 0 = 32 := by decide
                                                                         omega)
  subst h1; subst h2
  refine ⟨by simp only [va_up_self, e], by simp only [va_up_self, e], by simp only [va_up_ne _ _ (show 15 ≠ 0 by decide)]⟩
theorem cz_app {ws ws1 : Nat → WV} {n : Nat} {V : RV} (hw : ∀ k, k < n → ws1 k = ws k) (hC : Cod ws n V) (h : ∀ j, j ≤ n → V.1 j ≤ 320) (hz : sSize (ws1 n) (V.1 n) ≤ 320) : ∀ j, j ≤ n + 1 → cz ws1 (V.1 0) j ≤ 320 := by
  have e : ∀ j, j ≤ n → cz ws1 (V.1 0) j = V.1 j := by
    intro j
    induction j with
    | zero => intro _; rfl
    | succ j ih =>
      intro hj
      show sSize (ws1 j) (cz ws1 (V.1 0) j) = _
      rw [ih (by omega), hw j (by omega), (hC j (by omega)).1]
  intro j hj
  by_cases z : j = n + 1
  · subst z
    show sSize (ws1 n) (cz ws1 (V.1 0) n) ≤ 320
    rw [e n (Nat.le_refl _)]; exact hz
  · rw [e j (by omega)]; exact h j (by omega)
theorem gStg.mv {cy : Nat → ClassId} {S S' : pS} {G T : Nat → Nat} {w : WV} {j : Nat} (h : gStg cy S G T w j) (hm : S'.1 = S.1) (h1 : S'.2 (T (2 * j)) = S.2 (T (2 * j))) (h2 : S'.2 (T (2 * j + 1)) = S.2 (T (2 * j + 1))) : gStg cy S' G T w j := by
  unfold gStg; rw [hm, h1, h2]; exact h
theorem gStg.obj {cy : Nat → ClassId} {S : pS} {G T : Nat → Nat} {w : WV} {j : Nat} (h : gStg cy S G T w j) : ∃ (ci k5 Nn : Nat) (Cn : String) (Tn : u_T) (vs : List Value), S.2 (T (2 * j)) = .inr (ci, vs) ∧ vwCl[ci]? = some (Cn, Tn, Nn) ∧ pCast[k5]? = some Cn := by
  obtain ⟨hok, hc, -⟩ := h
  rcases hok with ⟨k, -⟩ | ⟨k, -⟩ | ⟨k, -⟩ | ⟨k, -⟩ | ⟨k, -⟩
  · refine ⟨6, 2, 1, RX6, TX6, [.int (nI w.2.1)], ?_, rfl, rfl⟩; rw [hc]; unfold gst; rw [if_pos k]
  · refine ⟨0, 0, 3, RX0, TX0, [.int (nI w.2.1), .int (nI w.2.2.1), .ref (T (2 * j + 1))], ?_, rfl, rfl⟩; rw [hc]; unfold gst; rw [if_neg (by omega), if_pos k]
  · refine ⟨2, 1, 3, RX2, TX2, [.int (nI w.2.1), .int (nI w.2.2.1), .int (nI (degN w.2.1 9))], ?_, rfl, rfl⟩; rw [hc]; unfold gst; rw [if_neg (by omega), if_neg (by omega), if_pos k]
  · refine ⟨8, 3, 4, RX9, TX9, [.int (nI w.2.1), .int (nI w.2.2.1), .ref (T (2 * j + 1)), .ref (G 5)], ?_, rfl, rfl⟩; rw [hc]; unfold gst; rw [if_neg (by omega), if_neg (by omega), if_neg (by omega), if_pos k]
  · refine ⟨9, 4, 2, RX10, TX10, [.int (nI w.2.1), .int (nI w.2.2.1)], ?_, rfl, rfl⟩; rw [hc]; unfold gst; rw [if_neg (by omega), if_neg (by omega), if_neg (by omega), if_neg (by omega)]
section QAP
variable (l : Launch) (D : va_G) (cy : Nat → ClassId) (S : pS) (sz : Nat) {G T T1 : Nat → Nat} {n : Nat} {ws ws1 : Nat → WV} {l1 l2 : va_E} {V : RV}
theorem q_append (hP : Pic cy S G T n ws l1 l2 V) (hn : n < 4) (hT : ∀ k, k < 2 * n → T1 k = T k) (hw : ∀ k, k < n → ws1 k = ws k) (hst : gStg cy S G T1 (ws1 n) n) (hne : ∀ i, i < 53 → T1 (2 * n) ≠ G i ∧ T1 (2 * n + 1) ≠ G i) : Met l yX1_append wsX1_append ({ frames := 0, cells := 0, slots := 0, locals := 0 }) (pPc D cy S sz [.ref (G 1), .ref (T1 (2 * n))]) (pQv D cy S sz (fun S' => Pic cy S' G T1 (n + 1) ws1 l1 l2 V ∧ Frm G S S')) 0 0 (pA S sz) := by
  obtain ⟨lq, e, f⟩ := hP.c2
  obtain ⟨ci, k5, Nn, Cn, Tn, vs, hv, hci, hk5⟩ := hst.obj
  refine (c_X1_append l D cy S sz (G 1) (G 2) n (T1 (2 * n)) ci k5 Nn lq Cn Tn vs (hP.mem (by omega)) hP.c1 (hP.mem (by omega)) e hn hst.2.2.2.2.1 hv hci hk5).qv (fun S' e' => ?_)
  have h12 : G 1 ≠ G 2 := hP.ne (by omega) (by omega) (by omega)
  have hS : ∀ a, a ≠ G 1 → a ≠ G 2 → S'.2 a = S.2 a := fun a h1 h2 => by rw [e']; exact (pup_n h1).trans (pup_n h2)
  have hm : S'.1 = S.1 := by rw [e']; rfl
  refine ⟨hP.app hn hT hw (hst.mv hm (hS _ (hne 1 (by omega)).1 (hne 2 (by omega)).1) (hS _ (hne 1 (by omega)).2 (hne 2 (by omega)).2)) hne hm hS (by rw [e']; exact pup_s) ⟨va_up lq n (some (T1 (2 * n))), by rw [e']; exact (pup_n h12.symm).trans pup_s, fun j hj => ?_⟩, ?_⟩
  · by_cases z : j = n
    · subst z; exact va_up_self _ _ _
    · exact (va_up_ne _ _ z).trans ((f j (by omega)).trans (by rw [hT (2 * j) (by omega)]))
  · rw [e']; exact (Frm.up (k := 2) (by omega)).trans (Frm.up (k := 1) (by omega))
theorem q_removeLast (hP : Pic cy S G T (n + 1) ws l1 l2 V) : Met l yX1_removeLast wsX1_removeLast ({ frames := 0, cells := 0, slots := 0, locals := 0 }) (pPc D cy S sz [.ref (G 1)]) (pQv D cy S sz (fun S' => Pic cy S' G T n ws l1 l2 V ∧ Frm G S S')) 0 0 (pA S sz) := by
  obtain ⟨lq, e, f⟩ := hP.c2
  refine (c_X1_removeLast l D cy S sz (G 1) (G 2) (n + 1) lq (hP.mem (by omega)) hP.c1 (hP.mem (by omega)) e (by omega) hP.n4).qv (fun S' e' => ?_)
  have h12 : G 1 ≠ G 2 := hP.ne (by omega) (by omega) (by omega)
  refine ⟨hP.pop (by rw [e']; rfl) (fun a h1 h2 => by rw [e']; exact (pup_n h2).trans (pup_n h1)) (by rw [e']; exact (pup_n h12).trans pup_s) ⟨va_up lq n none, by rw [e']; exact pup_s, fun j hj => (va_up_ne _ _ (by omega)).trans (f j (by omega))⟩, ?_⟩
  rw [e']; exact (Frm.up (k := 1) (by omega)).trans (Frm.up (k := 2) (by omega))
end QAP
