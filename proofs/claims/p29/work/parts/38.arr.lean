/-! the law's own arrays: what a cell of the pool holds, and pools that only grow -/
def Arr (cy : Nat → ClassId) (S : pS) (q n : Nat) (g : Nat → Int32) : Prop := q ∈ S.1 ∧ S.2 q = .inl (cy 0, n, .inl g)
def Grw (S S' : pS) : Prop := (∀ a, a ∈ S.1 → a ∈ S'.1) ∧ ∀ a, a ∈ S.1 → S'.2 a = S.2 a
section ARR
variable {cy : Nat → ClassId} {S S' S1 S2 : pS} {G T : Nat → Nat} {n : Nat} {ws : Nat → WV} {l1 l2 : va_E} {V : RV} {q a n' : Nat} {g g' : Nat → Int32} {x : va_E}
theorem Grw.id : Grw S S := ⟨fun _ h => h, fun _ _ => Eq.refl _⟩
theorem Grw.trans (h1 : Grw S S1) (h2 : Grw S1 S2) : Grw S S2 := ⟨fun a h => h2.1 a (h1.1 a h), fun a h => (h2.2 a (h1.1 a h)).trans (h1.2 a h)⟩
theorem Grw.new (h : q ∉ S.1) : Grw S (pnew S q x) := ⟨fun a h => List.mem_append_left _ h, fun a h9 => pnew_n (fun z => h (by rw [← z]; exact h9))⟩
theorem Grw.up (h : Grw S S1) (hq : q ∉ S.1) : Grw S (pup S1 q x) := ⟨h.1, fun a h9 => (pup_n (fun z => hq (by rw [← z]; exact h9))).trans (h.2 a h9)⟩
theorem Grw.nin (h : Grw S S1) (hq : q ∉ S1.1) : q ∉ S.1 := fun z => hq (h.1 q z)
theorem Grw.frm (h : Grw S S') : Frm G S S' := ⟨h.1, fun a h9 _ => h.2 a h9⟩
theorem Arr.grw (h : Arr cy S q n g) (hg : Grw S S') : Arr cy S' q n g := ⟨hg.1 _ h.1, (hg.2 _ h.1).trans h.2⟩
theorem Arr.frm (h : Arr cy S q n g) (hf : Frm G S S') (hk : ∀ k, k < 53 → q ≠ G k) : Arr cy S' q n g := ⟨hf.1 _ h.1, (hf.2 _ h.1 hk).trans h.2⟩
theorem Arr.new : Arr cy (pnew S q (.inl (cy 0, n, .inl g))) q n g := ⟨List.mem_append_right _ List.mem_cons_self, pnew_s⟩
theorem Arr.up (h : Arr cy S q n g) : Arr cy (pup S q (.inl (cy 0, n, .inl g'))) q n g' := ⟨h.1, pup_s⟩
theorem Arr.upn (h : Arr cy S q n g) (hn : q ≠ a) : Arr cy (pup S a x) q n g := ⟨h.1, (pup_n hn).trans h.2⟩
theorem Arr.cast (h : Arr cy S q n g) (e : n = n') : Arr cy S q n' g := e ▸ h
theorem Pic.gne (h : Pic cy S G T n ws l1 l2 V) (hq : q ∉ S.1) : ∀ k, k < 53 → q ≠ G k := fun k hk z => hq (by rw [z]; exact h.mem hk)
end ARR
theorem upd_at {g : Nat → Int32} {k : Nat} {x : Int32} : upd g k x k = x := by simp [upd]
theorem upd_ne {g : Nat → Int32} {k j : Nat} {x : Int32} (h : j ≠ k) : upd g k x j = g j := by simp [upd, h]
/-- what a stage's array holds -/
def Sev (g : Nat → Int32) (k a b c3 c4 c5 c6 : Nat) : Prop := g 0 = nI k ∧ g 1 = nI a ∧ g 2 = nI b ∧ g 3 = nI c3 ∧ g 4 = nI c4 ∧ g 5 = nI c5 ∧ g 6 = nI c6
/-- the stages that the law's cells make -/
def VSt (k a b c3 c4 c5 c6 : Nat) : Prop := (k = 0 ∧ 2 ≤ a ∧ a ≤ 4) ∨ (k = 1 ∧ 1 ≤ a ∧ a ≤ 4 ∧ a ≤ b ∧ b ≤ a + 3 ∧ c3 < 2 ^ b ∧ c4 < 2 ^ b ∧ c5 < 2 ^ b ∧ c6 < 2 ^ b) ∨ (k = 2 ∧ 2 ≤ a ∧ a ≤ 61 ∧ 1 ≤ b ∧ b ≤ 9) ∨ (k = 3 ∧ 1 ≤ a ∧ a ≤ 3 ∧ 1 ≤ c3 ∧ c3 < 2 ^ (a + 1) ∧ 1 ≤ c4 ∧ c4 < 2 ^ (a + 1) ∧ c5 < 2 ^ (a + 1)) ∨ (k = 4 ∧ 1 ≤ a ∧ a ≤ 4 ∧ 1 ≤ b ∧ b ≤ 4)
def wvS (k a b c3 c4 c5 c6 : Nat) : WV := if k = 0 then (0, a, 0, fun _ => 0) else if k = 1 then (1, a, b, bwt a c3 c4 c5 c6 16) else if k = 2 then (2, a, b, fun _ => 0) else if k = 3 then (3, a, mk3 c5, ttab c3 c4 c5 32) else (4, a, b, fun _ => 0)
theorem sub_nn {k b : Nat} (hk : k < 2 ^ 31) (hb : b < 2 ^ 31) (h : ¬ nI k - nI b < 0) : b ≤ k := by
  rcases Nat.lt_or_ge k b with h1 | h1
  · refine absurd ?_ h
    obtain ⟨d, rfl⟩ : ∃ d, b = k + (d + 1) := ⟨b - k - 1, by omega⟩
    have e : nI k - nI (k + (d + 1)) = - nI (d + 1) := by
      rw [← nI_add, Int32.sub_eq_add_neg, Int32.neg_add, Int32.sub_eq_add_neg, ← Int32.add_assoc, Int32.add_right_neg, Int32.zero_add]
    rw [e, Int32.lt_iff_toInt_lt, Int32.toInt_neg, nI_toInt (by omega)]
    show Int.bmod (-(((d + 1 : Nat) : Int))) (2 ^ 32) < 0
    rw [Int.bmod_eq_of_le (by omega) (by omega)]
    omega
  · exact h1
theorem nI_self (x : Int32) : nI x.toBitVec.toNat = x := by
  apply Int32.toBitVec_inj.mp
  show BitVec.ofNat 32 x.toBitVec.toNat = x.toBitVec
  simp
theorem and31 (x : Int32) : ∃ w, w < 2 ^ 31 ∧ x &&& nI 2147483647 = nI w := by
  refine ⟨(x &&& nI 2147483647).toBitVec.toNat, ?_, (nI_self _).symm⟩
  show (x.toBitVec &&& (nI 2147483647).toBitVec).toNat < 2 ^ 31
  rw [BitVec.toNat_and]
  exact Nat.lt_of_le_of_lt Nat.and_le_right (by decide)
theorem in_arr {k L : Nat} (h : k < L) (hk : k < 2 ^ 31) : vp_in (nI k) L := fun z => z.elim (fun h1 => nI_pos hk h1) (fun h1 => by rw [nI_clamp hk] at h1; omega)
def wth (g : Nat → Int32) (n : Nat) (x : Int32) : Nat → Int32 := upd (va_cpy g (fun _ => 0) 0 0 n) n x
theorem wth_lt {g : Nat → Int32} {n j : Nat} {x : Int32} (h : j < n) : wth g n x j = g j := by
  unfold wth; rw [upd_ne (by omega)]; unfold va_cpy; rw [if_pos (by omega)]; congr 1; omega
theorem wth_at {g : Nat → Int32} {n : Nat} {x : Int32} : wth g n x n = x := upd_at
theorem degN_len {dv r : Nat} (hd : dv < 512) (hr : r ≤ 9) (h0 : r = 0 ∨ dv / 2 ^ r ≠ 0) (h1 : dv / 2 ^ (r + 1) = 0) : degN dv 9 = r := by
  rcases (show r = 0 ∨ r = 1 ∨ r = 2 ∨ r = 3 ∨ r = 4 ∨ r = 5 ∨ r = 6 ∨ r = 7 ∨ r = 8 ∨ r = 9 by omega) with rfl | rfl | rfl | rfl | rfl | rfl | rfl | rfl | rfl | rfl <;> simp only [degN] <;> (first | omega | (repeat' split) <;> omega)
theorem fill_go {len N m : Nat} (hN : N % m = 0) (h : len ≤ N) (hm : 0 < len % m) : len < N := by
  rcases Nat.lt_or_ge len N with h1 | h1
  · exact h1
  · have e : len = N := Nat.le_antisymm h h1
    rw [e] at hm; omega
theorem fill_end {n len m : Nat} (h1 : 1 ≤ m) (h0 : n ≤ len) (h : len ≤ blk n m * m) (hm : len % m = 0) : len = blk n m * m := by
  have hd := Nat.div_add_mod len m
  rw [hm] at hd
  have hb : blk n m ≤ len / m := by
    unfold blk
    have h2 : n + m - 1 < m * (len / m + 1) := by rw [Nat.mul_add]; omega
    exact Nat.le_of_lt_succ (Nat.div_lt_of_lt_mul h2)
  have := Nat.mul_le_mul_right m hb
  rw [Nat.mul_comm (len / m) m] at this
  omega
theorem blk_up {n m : Nat} (h : 1 ≤ m) : n ≤ blk n m * m := by
  unfold blk
  have h1 := Nat.div_add_mod (n + m - 1) m
  have h2 := Nat.mod_lt (n + m - 1) (show 0 < m by omega)
  rw [Nat.mul_comm] at h1
  omega
