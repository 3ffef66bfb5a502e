/-! THE PICTURE of a laboratory: 53 cells at G 0 .. G 52 (0 itself; 1, 2 the chain and its array; 3, 4 the lines; 5 to 8 the lattice; 9 + L, 12 + L, 15 + L, 18 + L the three levels: coded, came, supposed; 21 + r, 37 + r the rows j + 5 * L and, 15, the marks), its stages at T (2 * j), their tables at T (2 * j + 1) -/
def gcap (r : Nat) : Nat := if r % 5 = 0 ∧ r < 15 then 32 else 320
theorem gcap_le (r : Nat) : gcap r ≤ 320 := by unfold gcap; split <;> omega
theorem gcap_27 (r : Nat) : gcap r < 2 ^ 27 := Nat.lt_of_le_of_lt (gcap_le r) (by decide)
def gst (G T : Nat → Nat) (j : Nat) (w : WV) : va_E :=
  if w.1 = 0 then .inr (6, [.int (nI w.2.1)]) else if w.1 = 1 then .inr (0, [.int (nI w.2.1), .int (nI w.2.2.1), .ref (T (2 * j + 1))]) else if w.1 = 2 then .inr (2, [.int (nI w.2.1), .int (nI w.2.2.1), .int (nI (degN w.2.1 9))]) else if w.1 = 3 then .inr (8, [.int (nI w.2.1), .int (nI w.2.2.1), .ref (T (2 * j + 1)), .ref (G 5)]) else .inr (9, [.int (nI w.2.1), .int (nI w.2.2.1)])
def gLat (cy : Nat → ClassId) (S : pS) (G : Nat → Nat) : Prop := ∃ F X W : Nat → Nat, S.2 (G 6) = aN (cy 0) 16 F ∧ S.2 (G 7) = aN (cy 0) 16 X ∧ S.2 (G 8) = aN (cy 0) 320 W ∧ (∀ q, F q ≤ 2000000) ∧ ∀ q, W q < 65536
def gRow (cy : Nat → ClassId) (S : pS) (G : Nat → Nat) (V : RV) (r : Nat) : Prop := S.2 (G (21 + r)) = .inr (7, [.ref (G (37 + r)), .int (nI (V.1 r))]) ∧ S.2 (G (37 + r)) = aN (cy 0) (gcap r) (V.2 r) ∧ V.1 r ≤ gcap r ∧ ∀ q, V.2 r q ≤ 2
def gStg (cy : Nat → ClassId) (S : pS) (G T : Nat → Nat) (w : WV) (j : Nat) : Prop := gok w ∧ S.2 (T (2 * j)) = gst G T j w ∧ (w.1 = 1 → S.2 (T (2 * j + 1)) = aN (cy 0) 16 w.2.2.2) ∧ (w.1 = 3 → S.2 (T (2 * j + 1)) = aN (cy 0) 32 w.2.2.2) ∧ T (2 * j) ∈ S.1 ∧ T (2 * j + 1) ∈ S.1
def Pic (cy : Nat → ClassId) (S : pS) (G T : Nat → Nat) (n : Nat) (ws : Nat → WV) (l1 l2 : va_E) (V : RV) : Prop :=
  (∀ k, k < 53 → G k ∈ S.1) ∧ ((∀ i j, i < 53 → j < 53 → G i = G j → i = j) ∧ ∀ i j, i < 53 → j < 2 * n → T j ≠ G i) ∧ n ≤ 4 ∧
  S.2 (G 0) = .inr (10, [.ref (G 1), .ref (G 3), .ref (G 4), .ref (G 36), .ref (G 9), .ref (G 10), .ref (G 11), .ref (G 5)]) ∧
  S.2 (G 1) = .inr (1, [.ref (G 2), .int (nI n)]) ∧ (∃ lq, S.2 (G 2) = aQ (cy 3) 4 lq ∧ ∀ j, j < n → lq j = some (T (2 * j))) ∧
  S.2 (G 3) = l1 ∧ S.2 (G 4) = l2 ∧ S.2 (G 5) = .inr (3, [.ref (G 6), .ref (G 7), .ref (G 8)]) ∧ gLat cy S G ∧
  (∀ L, L < 3 → S.2 (G (9 + L)) = .inr (4, [.ref (G (12 + L)), .ref (G (15 + L))]) ∧ ∃ rq, S.2 (G (12 + L)) = aQ (cy 2) 5 rq ∧ ∀ j, j < 5 → rq j = some (G (21 + (j + 5 * L)))) ∧
  (∀ r, r < 16 → gRow cy S G V r) ∧ V.1 15 = 320 ∧ ∀ j, j < n → gStg cy S G T (ws j) j
section PIC
variable {cy : Nat → ClassId} {S S' S1 S2 : pS} {G T : Nat → Nat} {n : Nat} {ws : Nat → WV} {l1 l2 l1' l2' : va_E} {V V' : RV}
theorem Pic.mem (h : Pic cy S G T n ws l1 l2 V) {k : Nat} (hk : k < 53) : G k ∈ S.1 := h.1 k hk
theorem Pic.ne (h : Pic cy S G T n ws l1 l2 V) {i j : Nat} (hi : i < 53) (hj : j < 53) (hij : i ≠ j) : G i ≠ G j := fun e => hij (h.2.1.1 i j hi hj e)
theorem Pic.ne' (h : Pic cy S G T n ws l1 l2 V) {i j : Nat} (hi : i < 53) (hj : j < 53) (hij : j ≠ i) : G j ≠ G i := fun e => hij (h.2.1.1 i j hi hj e.symm).symm
theorem Pic.nT (h : Pic cy S G T n ws l1 l2 V) {i j : Nat} (hi : i < 53) (hj : j < 2 * n) : T j ≠ G i := h.2.1.2 i j hi hj
theorem Pic.nT' (h : Pic cy S G T n ws l1 l2 V) {i j : Nat} (hi : i < 53) (hj : j < 2 * n) : G i ≠ T j := (h.2.1.2 i j hi hj).symm
theorem Pic.n4 (h : Pic cy S G T n ws l1 l2 V) : n ≤ 4 := h.2.2.1
theorem Pic.c0 (h : Pic cy S G T n ws l1 l2 V) : S.2 (G 0) = .inr (10, [.ref (G 1), .ref (G 3), .ref (G 4), .ref (G 36), .ref (G 9), .ref (G 10), .ref (G 11), .ref (G 5)]) := h.2.2.2.1
theorem Pic.c1 (h : Pic cy S G T n ws l1 l2 V) : S.2 (G 1) = .inr (1, [.ref (G 2), .int (nI n)]) := h.2.2.2.2.1
theorem Pic.c2 (h : Pic cy S G T n ws l1 l2 V) : ∃ lq, S.2 (G 2) = aQ (cy 3) 4 lq ∧ ∀ j, j < n → lq j = some (T (2 * j)) := h.2.2.2.2.2.1
theorem Pic.c3 (h : Pic cy S G T n ws l1 l2 V) : S.2 (G 3) = l1 := h.2.2.2.2.2.2.1
theorem Pic.c4 (h : Pic cy S G T n ws l1 l2 V) : S.2 (G 4) = l2 := h.2.2.2.2.2.2.2.1
theorem Pic.c5 (h : Pic cy S G T n ws l1 l2 V) : S.2 (G 5) = .inr (3, [.ref (G 6), .ref (G 7), .ref (G 8)]) := h.2.2.2.2.2.2.2.2.1
theorem Pic.lat (h : Pic cy S G T n ws l1 l2 V) : gLat cy S G := h.2.2.2.2.2.2.2.2.2.1
theorem Pic.lev (h : Pic cy S G T n ws l1 l2 V) {L : Nat} (hL : L < 3) : S.2 (G (9 + L)) = .inr (4, [.ref (G (12 + L)), .ref (G (15 + L))]) := (h.2.2.2.2.2.2.2.2.2.2.1 L hL).1
theorem Pic.leq (h : Pic cy S G T n ws l1 l2 V) {L : Nat} (hL : L < 3) : ∃ rq, S.2 (G (12 + L)) = aQ (cy 2) 5 rq ∧ ∀ j, j < 5 → rq j = some (G (21 + (j + 5 * L))) := (h.2.2.2.2.2.2.2.2.2.2.1 L hL).2
theorem Pic.row (h : Pic cy S G T n ws l1 l2 V) {r : Nat} (hr : r < 16) : gRow cy S G V r := h.2.2.2.2.2.2.2.2.2.2.2.1 r hr
theorem Pic.rh (h : Pic cy S G T n ws l1 l2 V) {r : Nat} (hr : r < 16) : S.2 (G (21 + r)) = .inr (7, [.ref (G (37 + r)), .int (nI (V.1 r))]) := (h.row hr).1
theorem Pic.rb (h : Pic cy S G T n ws l1 l2 V) {r : Nat} (hr : r < 16) : S.2 (G (37 + r)) = aN (cy 0) (gcap r) (V.2 r) := (h.row hr).2.1
theorem Pic.rn (h : Pic cy S G T n ws l1 l2 V) {r : Nat} (hr : r < 16) : V.1 r ≤ gcap r := (h.row hr).2.2.1
theorem Pic.r320 (h : Pic cy S G T n ws l1 l2 V) {r : Nat} (hr : r < 16) : V.1 r ≤ 320 := Nat.le_trans (h.rn hr) (gcap_le r)
theorem Pic.rg2 (h : Pic cy S G T n ws l1 l2 V) {r : Nat} (hr : r < 16) : ∀ q, V.2 r q ≤ 2 := (h.row hr).2.2.2
theorem Pic.m15 (h : Pic cy S G T n ws l1 l2 V) : V.1 15 = 320 := h.2.2.2.2.2.2.2.2.2.2.2.2.1
theorem Pic.stg (h : Pic cy S G T n ws l1 l2 V) {j : Nat} (hj : j < n) : gStg cy S G T (ws j) j := h.2.2.2.2.2.2.2.2.2.2.2.2.2 j hj
/-- what may be written anew: the lines, the lattice's arrays, the rows -/
theorem Pic.chg (h : Pic cy S G T n ws l1 l2 V) (hm : ∀ a, a ∈ S.1 → a ∈ S'.1)
    (hc : ∀ k, k < 21 → k ≠ 3 → k ≠ 4 → k ≠ 6 → k ≠ 7 → k ≠ 8 → S'.2 (G k) = S.2 (G k)) (hT : ∀ j, j < 2 * n → S'.2 (T j) = S.2 (T j))
    (h3 : S'.2 (G 3) = l1') (h4 : S'.2 (G 4) = l2') (hl : gLat cy S' G) (hr : ∀ r, r < 16 → gRow cy S' G V' r) (h15 : V'.1 15 = 320) : Pic cy S' G T n ws l1' l2' V' := by
  have hn := h.n4
  refine ⟨fun k hk => hm _ (h.mem hk), h.2.1, hn, ?_, ?_, ?_, h3, h4, ?_, hl, fun L hL => ⟨?_, ?_⟩, hr, h15, fun j hj => ?_⟩
  · exact (hc 0 (by omega) (by decide) (by decide) (by decide) (by decide) (by decide)).trans h.c0
  · exact (hc 1 (by omega) (by decide) (by decide) (by decide) (by decide) (by decide)).trans h.c1
  · obtain ⟨lq, e, f⟩ := h.c2
    exact ⟨lq, (hc 2 (by omega) (by decide) (by decide) (by decide) (by decide) (by decide)).trans e, f⟩
  · exact (hc 5 (by omega) (by decide) (by decide) (by decide) (by decide) (by decide)).trans h.c5
  · exact (hc (9 + L) (by omega) (by omega) (by omega) (by omega) (by omega) (by omega)).trans (h.lev hL)
  · obtain ⟨rq, e, f⟩ := h.leq hL
    exact ⟨rq, (hc (12 + L) (by omega) (by omega) (by omega) (by omega) (by omega) (by omega)).trans e, f⟩
  · obtain ⟨g0, g1, g2, g3, g4, g5⟩ := h.stg hj
    have e2 := hT (2 * j + 1) (by omega)
    exact ⟨g0, (hT (2 * j) (by omega)).trans g1, fun z => e2.trans (g2 z), fun z => e2.trans (g3 z), hm _ g4, hm _ g5⟩
/-- one row written anew -/
theorem Pic.row' (h : Pic cy S G T n ws l1 l2 V) {r0 v : Nat} {g : Nat → Nat} (hm : ∀ a, a ∈ S.1 → a ∈ S'.1) (hr0 : r0 < 16) (hS : ∀ a, a ≠ G (21 + r0) → a ≠ G (37 + r0) → S'.2 a = S.2 a)
    (h1 : S'.2 (G (21 + r0)) = .inr (7, [.ref (G (37 + r0)), .int (nI v)])) (h2 : S'.2 (G (37 + r0)) = aN (cy 0) (gcap r0) g) (hv : v ≤ gcap r0) (hg : ∀ q, g q ≤ 2) (h15 : r0 = 15 → v = 320) : Pic cy S' G T n ws l1 l2 (va_up V.1 r0 v, va_up V.2 r0 g) := by
  have hn := h.n4
  have e : ∀ k, k < 53 → k ≠ 21 + r0 → k ≠ 37 + r0 → S'.2 (G k) = S.2 (G k) := fun k hk k1 k2 => hS _ (h.ne' (by omega) hk k1) (h.ne' (by omega) hk k2)
  refine h.chg hm (fun k hk _ _ _ _ _ => e k (by omega) (by omega) (by omega)) (fun j hj => hS _ (h.nT (by omega) hj) (h.nT (by omega) hj)) ((e 3 (by omega) (by omega) (by omega)).trans h.c3) ((e 4 (by omega) (by omega) (by omega)).trans h.c4) ?_ (fun r hr => ?_) ?_
  · obtain ⟨F, X, W, a, b, c, d⟩ := h.lat
    exact ⟨F, X, W, (e 6 (by omega) (by omega) (by omega)).trans a, (e 7 (by omega) (by omega) (by omega)).trans b, (e 8 (by omega) (by omega) (by omega)).trans c, d⟩
  · by_cases hrr : r = r0
    · subst hrr
      exact ⟨by rw [h1]; simp only [va_up_self], by rw [h2]; simp only [va_up_self], by simp only [va_up_self]; exact hv, by simp only [va_up_self]; exact hg⟩
    · obtain ⟨a, b, c, d⟩ := h.row hr
      refine ⟨?_, ?_, ?_, ?_⟩
      · rw [e (21 + r) (by omega) (by omega) (by omega), a]; simp only [va_up_ne _ _ hrr]
      · rw [e (37 + r) (by omega) (by omega) (by omega), b]; simp only [va_up_ne _ _ hrr]
      · simp only [va_up_ne _ _ hrr]; exact c
      · simp only [va_up_ne _ _ hrr]; exact d
  · show va_up V.1 r0 v 15 = 320
    by_cases hrr : 15 = r0
    · subst hrr; rw [va_up_self]; exact h15 rfl
    · rw [va_up_ne _ _ hrr]; exact h.m15
theorem va_up_id {α : Type} (f : Nat → α) (k : Nat) : va_up f k (f k) = f := by
  funext j; unfold va_up; split
  · rename_i e; rw [e]
  · rfl
/-- a row's bits alone, its size alone -/
theorem Pic.rowB (h : Pic cy S G T n ws l1 l2 V) {r0 : Nat} {g : Nat → Nat} (hr0 : r0 < 16) (hg : ∀ q, g q ≤ 2) : Pic cy (pup S (G (37 + r0)) (aN (cy 0) (gcap r0) g)) G T n ws l1 l2 (V.1, va_up V.2 r0 g) := by
  have := h.row' (S' := pup S (G (37 + r0)) (aN (cy 0) (gcap r0) g)) (r0 := r0) (v := V.1 r0) (g := g) (fun _ z => z) hr0 (fun a _ k => pup_n k) ((pup_n (h.ne (by omega) (by omega) (by omega))).trans (h.rh hr0)) pup_s (h.rn hr0) hg (fun e => by rw [e]; exact h.m15)
  rwa [va_up_id] at this
theorem Pic.rowS (h : Pic cy S G T n ws l1 l2 V) {r0 v : Nat} (hr0 : r0 < 15) (hv : v ≤ gcap r0) : Pic cy (pup S (G (21 + r0)) (.inr (7, [.ref (G (37 + r0)), .int (nI v)]))) G T n ws l1 l2 (va_up V.1 r0 v, V.2) := by
  have := h.row' (S' := pup S (G (21 + r0)) (.inr (7, [.ref (G (37 + r0)), .int (nI v)]))) (r0 := r0) (v := v) (g := V.2 r0) (fun _ z => z) (by omega) (fun a k _ => pup_n k) pup_s ((pup_n (h.ne (by omega) (by omega) (by omega))).trans (h.rb (by omega))) hv (h.rg2 (by omega)) (fun e => by omega)
  rwa [va_up_id] at this
/-- the lattice's arrays -/
theorem Pic.lat3 (h : Pic cy S G T n ws l1 l2 V) {F X W : Nat → Nat} (hF : ∀ q, F q ≤ 2000000) (hW : ∀ q, W q < 65536) : Pic cy (tri S (G 7) (G 8) (G 6) (aN (cy 0) 16 X) (aN (cy 0) 320 W) (aN (cy 0) 16 F)) G T n ws l1 l2 V := by
  have hn := h.n4
  have e : ∀ k, k < 53 → k ≠ 6 → k ≠ 7 → k ≠ 8 → (tri S (G 7) (G 8) (G 6) (aN (cy 0) 16 X) (aN (cy 0) 320 W) (aN (cy 0) 16 F)).2 (G k) = S.2 (G k) := fun k hk k1 k2 k3 => tri_n (h.ne' (by omega) hk k2) (h.ne' (by omega) hk k3) (h.ne' (by omega) hk k1)
  refine h.chg (fun _ z => z) (fun k hk _ _ k1 k2 k3 => e k (by omega) k1 k2 k3) (fun j hj => tri_n (h.nT (by omega) hj) (h.nT (by omega) hj) (h.nT (by omega) hj)) ((e 3 (by omega) (by omega) (by omega) (by omega)).trans h.c3) ((e 4 (by omega) (by omega) (by omega) (by omega)).trans h.c4) ?_ (fun r hr => ?_) h.m15
  · exact ⟨F, X, W, tri_lf, tri_lx (h.ne (by omega) (by omega) (by omega)) (h.ne (by omega) (by omega) (by omega)), tri_lw (h.ne (by omega) (by omega) (by omega)), hF, hW⟩
  · obtain ⟨a, b, c⟩ := h.row hr
    exact ⟨(e (21 + r) (by omega) (by omega) (by omega) (by omega)).trans a, (e (37 + r) (by omega) (by omega) (by omega) (by omega)).trans b, c⟩
/-- the lines -/
theorem Pic.line1 (h : Pic cy S G T n ws l1 l2 V) {x : va_E} : Pic cy (pup S (G 3) x) G T n ws x l2 V := by
  have hn := h.n4
  have e : ∀ k, k < 53 → k ≠ 3 → (pup S (G 3) x).2 (G k) = S.2 (G k) := fun k hk k1 => pup_n (h.ne' (by omega) hk k1)
  refine h.chg (fun _ z => z) (fun k hk k3 _ _ _ _ => e k (by omega) k3) (fun j hj => pup_n (h.nT (by omega) hj)) pup_s ((e 4 (by omega) (by omega)).trans h.c4) ?_ (fun r hr => ?_) h.m15
  · obtain ⟨F, X, W, a, b, c, d⟩ := h.lat
    exact ⟨F, X, W, (e 6 (by omega) (by omega)).trans a, (e 7 (by omega) (by omega)).trans b, (e 8 (by omega) (by omega)).trans c, d⟩
  · obtain ⟨a, b, c⟩ := h.row hr
    exact ⟨(e (21 + r) (by omega) (by omega)).trans a, (e (37 + r) (by omega) (by omega)).trans b, c⟩
theorem Pic.line2 (h : Pic cy S G T n ws l1 l2 V) {x : va_E} : Pic cy (pup S (G 4) x) G T n ws l1 x V := by
  have hn := h.n4
  have e : ∀ k, k < 53 → k ≠ 4 → (pup S (G 4) x).2 (G k) = S.2 (G k) := fun k hk k1 => pup_n (h.ne' (by omega) hk k1)
  refine h.chg (fun _ z => z) (fun k hk _ k3 _ _ _ => e k (by omega) k3) (fun j hj => pup_n (h.nT (by omega) hj)) ((e 3 (by omega) (by omega)).trans h.c3) pup_s ?_ (fun r hr => ?_) h.m15
  · obtain ⟨F, X, W, a, b, c, d⟩ := h.lat
    exact ⟨F, X, W, (e 6 (by omega) (by omega)).trans a, (e 7 (by omega) (by omega)).trans b, (e 8 (by omega) (by omega)).trans c, d⟩
  · obtain ⟨a, b, c⟩ := h.row hr
    exact ⟨(e (21 + r) (by omega) (by omega)).trans a, (e (37 + r) (by omega) (by omega)).trans b, c⟩
/-- what lies elsewhere stays -/
def Frm (G : Nat → Nat) (S S' : pS) : Prop := (∀ a, a ∈ S.1 → a ∈ S'.1) ∧ ∀ a, a ∈ S.1 → (∀ k, k < 53 → a ≠ G k) → S'.2 a = S.2 a
theorem Frm.id : Frm G S S := ⟨fun _ h => h, fun _ _ _ => Eq.refl _⟩
theorem Frm.trans (h1 : Frm G S S1) (h2 : Frm G S1 S2) : Frm G S S2 := ⟨fun a h => h2.1 a (h1.1 a h), fun a h k => (h2.2 a (h1.1 a h) k).trans (h1.2 a h k)⟩
theorem Frm.up {k : Nat} {x : va_E} (hk : k < 53) : Frm G S (pup S (G k) x) := ⟨fun _ h => h, fun _ _ z => pup_n (z k hk)⟩
theorem Frm.lat3 {x w f : va_E} : Frm G S (tri S (G 7) (G 8) (G 6) x w f) := ⟨fun _ h => h, fun _ _ z => tri_n (z 7 (by decide)) (z 8 (by decide)) (z 6 (by decide))⟩
end PIC
section MQ
variable {l : Launch} {y : MethodName} {wds : List Cond} {rm : Room} {D : va_G} {cy : Nat → ClassId} {S : pS} {sz mc ms : Nat} {Pc : Array Value → State → Prop} {free : Addr → Prop}
theorem Met.mono {Qc Qc' : Array Value → State → Outcome → State → Prop} (h : Met l y wds rm Pc Qc mc ms free) (hq : ∀ a st o t, Qc a st o t → Qc' a st o t) : Met l y wds rm Pc Qc' mc ms free := by
  intro p e ha hf hk s m args below h1 h2 h3 h4
  obtain ⟨k, o, a, b, c, d, d2⟩ := h p e ha hf hk s m args below h1 h2 h3 h4
  exact ⟨k, o, a, b, c, hq _ _ _ _ d, d2⟩
theorem Met.qv {post post' : pS → Prop} (h : Met l y wds rm Pc (pQv D cy S sz post) mc ms free) (hp : ∀ S', post S' → post' S') : Met l y wds rm Pc (pQv D cy S sz post') mc ms free :=
  h.mono fun _ _ _ _ ⟨⟨u, e, p, B⟩, F⟩ => ⟨⟨u, e, hp u p, B⟩, F⟩
theorem Met.qi {post post' : Int32 → pS → Prop} (h : Met l y wds rm Pc (pQi D cy S sz post) mc ms free) (hp : ∀ r S', post r S' → post' r S') : Met l y wds rm Pc (pQi D cy S sz post') mc ms free :=
  h.mono fun _ _ _ _ ⟨⟨r, u, e, p, B⟩, F⟩ => ⟨⟨r, u, e, hp r u p, B⟩, F⟩
theorem Met.qq {post post' : Option Nat → pS → Prop} (h : Met l y wds rm Pc (pQq D cy S sz post) mc ms free) (hp : ∀ r S', post r S' → post' r S') : Met l y wds rm Pc (pQq D cy S sz post') mc ms free :=
  h.mono fun _ _ _ _ ⟨⟨r, u, e, p, B⟩, F⟩ => ⟨⟨r, u, e, hp r u p, B⟩, F⟩
variable {p : Program} {e : Env} {R : Room} {s : State} {m : MethodId} {args : Array Value} {below : List Frame} {meth : Method} {c : Code} {H : Heap} {locs : List Loc} {cells slots : Nat} {g : JFrame} {rest : List Value} {av av' : Array Value}
theorem va_Run.qv {post post' : pS → Prop} (h : va_Run p l e R s m args below meth c H locs cells slots mc ms g rest (pQv D cy S sz post av) free) (hp : ∀ S', post S' → post' S') : va_Run p l e R s m args below meth c H locs cells slots mc ms g rest (pQv D cy S sz post' av') free := by
  intro T hT X
  obtain ⟨v, st₀, t, T', L, a, b, c, d, f, ⟨⟨u, e, q, B⟩, F⟩, k⟩ := h T hT X
  exact ⟨v, st₀, t, T', L, a, b, c, d, f, ⟨⟨u, e, hp u q, B⟩, F⟩, k⟩
theorem va_Run.qi {post post' : Int32 → pS → Prop} (h : va_Run p l e R s m args below meth c H locs cells slots mc ms g rest (pQi D cy S sz post av) free) (hp : ∀ r S', post r S' → post' r S') : va_Run p l e R s m args below meth c H locs cells slots mc ms g rest (pQi D cy S sz post' av') free := by
  intro T hT X
  obtain ⟨v, st₀, t, T', L, a, b, c, d, f, ⟨⟨r, u, e, q, B⟩, F⟩, k⟩ := h T hT X
  exact ⟨v, st₀, t, T', L, a, b, c, d, f, ⟨⟨r, u, e, hp r u q, B⟩, F⟩, k⟩
end MQ
