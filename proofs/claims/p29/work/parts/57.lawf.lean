/-! part 57: what the law's checks rest on -/
/-- what stands of the laboratory between the law's calls -/
def LI (n : Nat) (ws : Nat → WV) (k a b c len : Nat) (gr : Nat → Int32) (V : RV) : Prop := Stl n ws k a b c V ∧ V.1 0 = len ∧ (∀ j, j < len → gr j = nI (V.2 0 j)) ∧ ∀ j, j < len → V.2 0 j ≤ 1
theorem sArr_1 {k a b c n q : Nat} {mk f : Nat → Nat} (hk : k ≠ 3) (hf : f q ≤ 1) : sArr k a b c mk n f q ≤ 1 := by
  have h1 : rharm f n k a b c q ≤ 1 := by
    unfold rharm
    split
    · unfold rburst; split <;> omega
    · split
      · unfold rscat
        repeat' split
        all_goals omega
      · exact hf
  unfold sArr rtw
  split <;> omega
theorem sArr_2 {k a b c n q : Nat} {mk f : Nat → Nat} (hf : f q ≤ 1) : sArr k a b c mk n f q ≤ 2 := by
  have h1 : rharm f n k a b c q ≤ 2 := by
    unfold rharm
    split
    · unfold rburst; split <;> omega
    · split
      · unfold rscat
        repeat' split
        all_goals omega
      · omega
  unfold sArr rtw
  split <;> omega
theorem sArr_0 {a b c n q : Nat} {f : Nat → Nat} : sArr 0 a b c (fun _ => 0) n f q = f q := by
  have hr : rharm f n 0 a b c = f := by unfold rharm; rw [if_neg (by decide), if_neg (by decide)]
  unfold sArr rtw
  rw [hr, if_neg]
  intro z
  have := z.2.2.1
  have h0 : rg (fun _ => 0) 320 q = 0 := by unfold rg; split <;> rfl
  omega
theorem cz_c {ws ws' : Nat → WV} {z : Nat} : ∀ {j : Nat}, (∀ k, k < j → ws' k = ws k) → cz ws' z j = cz ws z j
  | 0, _ => rfl
  | j + 1, h => by
    show sSize (ws' j) (cz ws' z j) = sSize (ws j) (cz ws z j)
    rw [h j (by omega), cz_c (fun k hk => h k (by omega))]
theorem new_size {n k a b c : Nat} {ws ws' : Nat → WV} {V V1 : RV} (hC : Cod ws n V) (hN : Nw (n + 1) ws' k a b c V V1) (hw : ∀ k, k < n → ws' k = ws k) : V1.1 (n + 1) = sSize (ws' n) (V.1 n) := by
  have h1 := hN.1.s n (by omega)
  rw [h1, hN.1.1.z n (by omega), hN.2.1, cz_c hw, ← hC.z n (Nat.le_refl n)]
section LI
variable {cy : Nat → ClassId} {S : pS} {G T : Nat → Nat} {n k a b c k' a' b' c' n' len : Nat} {ws ws' : Nat → WV} {l1 l2 : va_E} {V V1 : RV} {gr : Nat → Int32}
theorem LI.s (h : LI n ws k a b c len gr V) : ∀ j, j < n → V.1 (j + 1) = sSize (ws j) (V.1 j) := h.1.s
theorem LI.u (h : LI n ws k a b c len gr V) : ∀ j, j ≤ n → V.1 (j + 5) = V.1 j := fun _ hj => h.1.up hj
theorem LI.kp (h : LI n ws k a b c len gr V) (hn : n ≤ 4) (hk : Kp V V1) : LI n ws k a b c len gr V1 := by
  have e := hk 0 (Or.inl (by decide))
  exact ⟨h.1.kp hn hk, e.1.trans h.2.1, fun j hj => by rw [e.2]; exact h.2.2.1 j hj, fun j hj => by rw [e.2]; exact h.2.2.2 j hj⟩
theorem LI.nw (h : LI n' ws' k' a' b' c' len gr V) (hN : Nw n ws k a b c V V1) : LI n ws k a b c len gr V1 :=
  ⟨hN.1, hN.2.1.trans h.2.1, fun j hj => by rw [hN.2.2.1]; exact h.2.2.1 j hj, fun j hj => by rw [hN.2.2.1]; exact h.2.2.2 j hj⟩
theorem LI.mk (h : LI n' ws' k' a' b' c' len gr V) (hS : Stl n ws k a b c V1) (h0 : V1.1 0 = V.1 0) (h2 : V1.2 0 = V.2 0) : LI n ws k a b c len gr V1 :=
  ⟨hS, h0.trans h.2.1, fun j hj => by rw [h2]; exact h.2.2.1 j hj, fun j hj => by rw [h2]; exact h.2.2.2 j hj⟩
theorem LI.cz (h : LI n ws k a b c len gr V) (hP : Pic cy S G T n ws l1 l2 V) : ∀ j, j ≤ n → cz ws (V.1 0) j ≤ 320 := fun j hj => by rw [← h.1.1.z j hj]; exact hP.z320 j hj
theorem LI.b1 (h : LI n ws k a b c len gr V) : ∀ q, q < V.1 0 → V.2 0 q ≤ 1 := by rw [h.2.1]; exact h.2.2.2
theorem LI.ge (h : LI n ws k a b c len gr V) (hP : Pic cy S G T n ws l1 l2 V) {j : Nat} (hj : j < n) : V.1 j ≤ V.1 (j + 1) := by rw [h.s j hj]; exact sSize_ge (hP.gk j hj) _
theorem LI.row (h : LI n ws k a b c len gr V) {j : Nat} (hj : j < len) : gr j = nI (rg (V.2 0) (V.1 0) j) := by rw [rg_in (by rw [h.2.1]; exact hj)]; exact h.2.2.1 j hj
theorem LI.same (h : LI n ws 0 a b c len gr V) (hm : V.2 15 = fun _ => 0) : ∀ q, q < V.1 n → V.2 (n + 5) q = V.2 n q := fun q hq => by rw [h.1.2.2.1 q hq, hm]; exact sArr_0
theorem LI.hurt0 (h : LI n ws 0 a b c len gr V) (hm : V.2 15 = fun _ => 0) : hurtN n V = 0 := by
  unfold hurtN
  refine cnt_none fun i hi => ?_
  unfold isOther
  rw [h.u n (Nat.le_refl n), rg_in hi, rg_in hi, h.same hm i hi]
  exact decide_eq_false (fun z => z rfl)
theorem LI.err0 (h : LI n ws 0 a b c len gr V) (hP : Pic cy S G T n ws l1 l2 V) (hm : V.2 15 = fun _ => 0) (ha : ∀ j, j < n → 0 < sApart (ws j)) : errN V = 0 := by
  have e : errN V = eOf ws n V (V.2 n) := eOf_d (t := 5) hP h.s (fun _ _ => rfl) rfl h.1.2.2.2 (h.u n (Nat.le_refl n)) (h.same hm)
  rw [e]
  refine eOf_0 fun q hq => ?_
  have := back_ok (f := V.2 n) hP.gk hP.z320 h.1.1 h.b1 ha (fun _ _ => rfl) n (Nat.le_refl n) q (by rw [Nat.sub_self]; exact hq)
  rwa [Nat.sub_self] at this
theorem LI.come (h : LI n ws k a b c len gr V) {q : Nat} (hq : q < V.1 n) : rg (V.2 (n + 5)) (V.1 (n + 5)) q ≤ 2 ∧ (k ≠ 3 → rg (V.2 (n + 5)) (V.1 (n + 5)) q ≤ 1) := by
  have hf := h.1.1.le1 h.b1 n (Nat.le_refl n) q hq
  rw [h.u n (Nat.le_refl n), rg_in hq, h.1.2.2.1 q hq]
  exact ⟨sArr_2 hf, fun hk => sArr_1 hk hf⟩
theorem dgt_kp (hP : Pic cy S G T n ws l1 l2 V) (hs : ∀ j, j < n → V.1 (j + 1) = sSize (ws j) (V.1 j)) (hk : Kp V V1) : dgt n ws V1 = dgt n ws V := by
  have hn := hP.n4
  unfold dgt
  rw [(hk 0 (by omega)).1, (hk 0 (by omega)).2, (hk 5 (by omega)).1, (hk 5 (by omega)).2, (hk n (by omega)).1, (hk n (by omega)).2, (hk (n + 5) (by omega)).1, (hk (n + 5) (by omega)).2, hk.hurt hn, hk.err, hk.wsts hn, hk.brks hP hs 0, hk.brks hP hs 5, hk.weaks hP hs]
theorem eow_kp (hP : Pic cy S G T n ws l1 l2 V) (hs : ∀ j, j < n → V.1 (j + 1) = sSize (ws j) (V.1 j)) (hk : Kp V V1) (p : Nat) : eOf ws n V1 (rturn (V1.2 (n + 5)) (V1.1 n) p) = eOf ws n V (rturn (V.2 (n + 5)) (V.1 n) p) := by
  have hn := hP.n4
  rw [(hk n (by omega)).1, (hk (n + 5) (by omega)).2]
  exact (eOf_c hP hs hk (fun _ _ => rfl)).symm
end LI
theorem mean_all : ∀ sm, sm < 41 → ¬ ((Op.cmpValue (FP.dcmp (FP.ddiv (FP.i2d (nI sm)) (FP.i2d (nI 5))) FP.dconst0) .g).toInt < 0) ∧ ∀ len, len < 9 → sm ≤ 5 * len → ¬ (0 < (Op.cmpValue (FP.dcmp (FP.ddiv (FP.i2d (nI sm)) (FP.i2d (nI 5))) (FP.i2d (nI len))) .l).toInt) := by decide +kernel
theorem mean_lo {sm : Nat} (h : sm < 41) : ¬ ((Op.cmpValue (FP.dcmp (FP.ddiv (FP.i2d (nI sm)) (FP.i2d (nI 5))) FP.dconst0) .g).toInt < 0) := (mean_all sm h).1
theorem mean_hi {sm len : Nat} (h : sm ≤ 5 * len) (hl : len ≤ 8) : ¬ (0 < (Op.cmpValue (FP.dcmp (FP.ddiv (FP.i2d (nI sm)) (FP.i2d (nI 5))) (FP.i2d (nI len))) .l).toInt) := (mean_all sm (by omega)).2 len (by omega) h
theorem lc_self (a : Int64) : lg_cmp a a = 0 := by unfold lg_cmp; simp
theorem l_rn {p : Program} {l : Launch} {e : Env} {R : Room} {s : State} {m : MethodId} {args : Array Value} {below : List Frame} {meth : Method} {c : Code} {H : Heap} {locs : List Loc} {cells slots : Nat} {Q : State → Prop} {pc : Nat} {ls : Array Slot} {rest : List Value} {a b : Int64} (h : a = b) (kk : W p l e R s m args below meth c H locs cells slots Q (F0 m pc ls (.long b :: rest))) : W p l e R s m args below meth c H locs cells slots Q (F0 m pc ls (.long a :: rest)) := by rw [h]; exact kk
theorem sApart_lt {w : WV} (h : gok w) : sApart w < 2 ^ 31 := by
  unfold sApart
  rcases h with ⟨h, h2, h5⟩ | ⟨h, h1, h4, hm, h10, -⟩ | ⟨h, -⟩ | ⟨h, -⟩ | ⟨h, -⟩
  · rw [if_pos h]; omega
  · rw [if_neg (by omega), if_pos h]
    have := leaN_le (tab := w.2.2.2) (m0 := w.2.2.1) (2 ^ w.2.1)
    omega
  · rw [if_neg (by omega), if_neg (by omega), if_neg (by omega)]; decide
  · rw [if_neg (by omega), if_neg (by omega), if_pos h]
    have := (apr_le (tab := w.2.2.2) (mm := w.2.1) (kk := w.2.2.1) (fg := fun _ => 0) (xg := fun _ => 0) (wg := fun _ => 0) (B := 1000000) (Nat.le_refl _) (fun _ => Nat.zero_le _) 19).2
    unfold trA
    omega
  · rw [if_neg (by omega), if_neg (by omega), if_neg (by omega)]; decide
theorem LI.pos {cy : Nat → ClassId} {S : pS} {G T : Nat → Nat} {n k a b c len : Nat} {ws : Nat → WV} {l1 l2 : va_E} {V : RV} {gr : Nat → Int32} (h : LI n ws k a b c len gr V) (hP : Pic cy S G T n ws l1 l2 V) (h1 : 1 ≤ len) : ∀ j, j ≤ n → 1 ≤ V.1 j
  | 0, _ => by rw [h.2.1]; exact h1
  | j + 1, hj => Nat.le_trans (h.pos hP h1 j (by omega)) (h.ge hP (by omega))
theorem ap_1 {n ap : Nat} {w w' : Nat → WV} (h : ap = 0 ∨ ap = 1 ∧ ∀ j, j < n → 0 < sApart (w j)) (hw : ∀ k, k < n → w' k = w k) (hn : 0 < sApart (w' n)) : ap &&& 1 = 0 ∨ ap &&& 1 = 1 ∧ ∀ j, j < n + 1 → 0 < sApart (w' j) := by
  rcases h with rfl | ⟨rfl, h⟩
  · exact Or.inl rfl
  · refine Or.inr ⟨rfl, fun j hj => ?_⟩
    rcases Nat.lt_or_ge j n with h1 | h1
    · rw [hw j h1]; exact h j h1
    · have e : j = n := by omega
      rw [e]; exact hn
