theorem lw_known {args : Array Value} {s : State} (hts : ∀ w ∈ lwU, w.before args s = true) : ∃ D : va_G, ∀ (k : Nat) (q : vw_C), vwCl[k]? = some q → u_Kn s q.1 q.2.1 q.2.2 (D.1 k) (D.2 k) := by
  obtain ⟨c0, i0, h0⟩ := u_known (C := RX0) (T := TX0) (N := 3) (n := 3) hts (fun w h => sub_RX0 w h) (hts _ mw_430)
  obtain ⟨c1, i1, h1⟩ := u_known (C := RX1) (T := TX1) (N := 2) (n := 2) hts (fun w h => sub_RX1 w h) (hts _ mw_11)
  obtain ⟨c2, i2, h2⟩ := u_known (C := RX2) (T := TX2) (N := 3) (n := 3) hts (fun w h => sub_RX2 w h) (hts _ mw_442)
  obtain ⟨c3, i3, h3⟩ := u_known (C := RX3) (T := TX3) (N := 3) (n := 3) hts (fun w h => sub_RX3 w h) (hts _ mw_30)
  obtain ⟨c4, i4, h4⟩ := u_known (C := RX4) (T := TX4) (N := 2) (n := 2) hts (fun w h => sub_RX4 w h) (hts _ mw_24)
  obtain ⟨c5, i5, h5⟩ := u_known (C := RX5) (T := TX5) (N := 4) (n := 4) hts (fun w h => sub_RX5 w h) (hts _ mw_15)
  obtain ⟨c6, i6, h6⟩ := u_known (C := RX6) (T := TX6) (N := 1) (n := 1) hts (fun w h => sub_RX6 w h) (hts _ mw_408)
  obtain ⟨c7, i7, h7⟩ := u_known (C := RX7) (T := TX7) (N := 2) (n := 2) hts (fun w h => sub_RX7 w h) (hts _ mw_20)
  obtain ⟨c8, i8, h8⟩ := u_known (C := RX9) (T := TX9) (N := 4) (n := 4) hts (fun w h => sub_RX9 w h) (hts _ mw_454)
  obtain ⟨c9, i9, h9⟩ := u_known (C := RX10) (T := TX10) (N := 2) (n := 2) hts (fun w h => sub_RX10 w h) (hts _ mw_466)
  obtain ⟨c10, i10, h10⟩ := u_known (C := RX11) (T := TX11) (N := 8) (n := 8) hts (fun w h => sub_RX11 w h) (hts _ mw_1)
  refine ⟨(fun k => [c0, c1, c2, c3, c4, c5, c6, c7, c8, c9, c10].getD k c0, fun k => [i0, i1, i2, i3, i4, i5, i6, i7, i8, i9, i10].getD k i0), fun k q hq => ?_⟩
  match k, hq with
  | 0, hq => cases hq; exact h0
  | 1, hq => cases hq; exact h1
  | 2, hq => cases hq; exact h2
  | 3, hq => cases hq; exact h3
  | 4, hq => cases hq; exact h4
  | 5, hq => cases hq; exact h5
  | 6, hq => cases hq; exact h6
  | 7, hq => cases hq; exact h7
  | 8, hq => cases hq; exact h8
  | 9, hq => cases hq; exact h9
  | 10, hq => cases hq; exact h10
  | k + 11, hq => exact absurd hq (by simp [vwCl])
theorem lw_arrays {args : Array Value} {s : State} (hts : ∀ w ∈ lw_tbl, w.before args s = true) : ∃ cy : Nat → ClassId, ∀ (k : Nat) (q : ClassId × FieldType), (pTy cy)[k]? = some q → ArrOfT s q.1 q.2 ∧ va_RA s q.1 q.2 := by
  obtain ⟨c0, k0, p0, a01, a02, a03⟩ := Cond.arrayClass_spec (hts _ (pl_lwU _ mw_3))
  have A0 : ArrOfT s c0 .int ∧ va_RA s c0 .int := ⟨fun n z => ⟨(fun k h => by cases h), k0, a02, p0, a03⟩, a01⟩
  obtain ⟨c1, k1, p1, a11, a12, a13⟩ := Cond.arrayClass_spec (hts _ (pl_lwU _ mw_3))
  have A1 : ArrOfT s c1 .int ∧ va_RA s c1 .int := ⟨fun n z => ⟨(fun k h => by cases h), k1, a12, p1, a13⟩, a11⟩
  obtain ⟨p2, c2, k2, a21, a22, a23, a24, a25⟩ := Cond.arrayOver_spec (hts _ (tm1 _ (List.mem_of_getElem? (i := 95) rfl)))
  have A2 : ArrOfT s c2 (.object "SoundingLine$Row") ∧ va_RA s c2 (.object "SoundingLine$Row") := ⟨fun n z => ⟨(fun k h => by cases h), k2, a23, p2, a24⟩, k2, p2, a23, a24, a21, a25⟩
  obtain ⟨p3, c3, k3, a31, a32, a33, a34, a35⟩ := Cond.arrayOver_spec (hts _ (tm1 _ (List.mem_of_getElem? (i := 37) rfl)))
  have A3 : ArrOfT s c3 (.object "SoundingLine$Stage") ∧ va_RA s c3 (.object "SoundingLine$Stage") := ⟨fun n z => ⟨(fun k h => by cases h), k3, a33, p3, a34⟩, k3, p3, a33, a34, a31, a35⟩
  refine ⟨fun k => [c0, c1, c2, c3].getD k c0, fun k q hq => ?_⟩
  match k, hq with
  | 0, hq => cases hq; exact A0
  | 1, hq => cases hq; exact A1
  | 2, hq => cases hq; exact A2
  | 3, hq => cases hq; exact A3
  | k + 4, hq => exact absurd hq (by simp [pTy])
theorem lw_nests {args : Array Value} {s : State} (hts : ∀ w ∈ lw_tbl, w.before args s = true) : ∀ (k : Nat) (q : String × Nat × MethodName), pNest[k]? = some q → va_Nw (.methodLinkNest q.1 q.2.1 q.2.2 "SoundingLine") s := by
  intro k q hq
  match k, hq with
  | 0, hq => cases hq; exact va_Nw.of rfl (hts _ (tm1 _ (List.mem_of_getElem? (i := 32) rfl)))
  | 1, hq => cases hq; exact va_Nw.of rfl (hts _ (tm1 _ (List.mem_of_getElem? (i := 47) rfl)))
  | 2, hq => cases hq; exact va_Nw.of rfl (hts _ (tm1 _ (List.mem_of_getElem? (i := 106) rfl)))
  | 3, hq => cases hq; exact va_Nw.of rfl (hts _ (tm2 _ (List.mem_of_getElem? (i := 11) rfl)))
  | 4, hq => cases hq; exact va_Nw.of rfl (hts _ (tm2 _ (List.mem_of_getElem? (i := 17) rfl)))
  | 5, hq => cases hq; exact va_Nw.of rfl (hts _ (tm2 _ (List.mem_of_getElem? (i := 32) rfl)))
  | 6, hq => cases hq; exact va_Nw.of rfl (hts _ (tm2 _ (List.mem_of_getElem? (i := 49) rfl)))
  | 7, hq => cases hq; exact va_Nw.of rfl (hts _ (tm2 _ (List.mem_of_getElem? (i := 84) rfl)))
  | 8, hq => cases hq; exact va_Nw.of rfl (hts _ (tm2 _ (List.mem_of_getElem? (i := 224) rfl)))
  | 9, hq => cases hq; exact va_Nw.of rfl (hts _ (tm4 _ (List.mem_of_getElem? (i := 25) rfl)))
  | 10, hq => cases hq; exact va_Nw.of rfl (hts _ (tm4 _ (List.mem_of_getElem? (i := 58) rfl)))
  | 11, hq => cases hq; exact va_Nw.of rfl (hts _ (tm4 _ (List.mem_of_getElem? (i := 82) rfl)))
  | 12, hq => cases hq; exact va_Nw.of rfl (hts _ (tm4 _ (List.mem_of_getElem? (i := 107) rfl)))
  | 13, hq => cases hq; exact va_Nw.of rfl (hts _ (tm4 _ (List.mem_of_getElem? (i := 133) rfl)))
  | k + 14, hq => exact absurd hq (by simp [pNest])
theorem lw_cast {args : Array Value} {s : State} (hts : ∀ w ∈ lw_tbl, w.before args s = true) : ∀ (k : Nat) (q : String), pCast[k]? = some q → va_Nw (.castable q "SoundingLine$Stage") s := by
  intro k q hq
  match k, hq with
  | 0, hq => cases hq; exact va_Nw.of rfl (hts _ (tm4 _ (List.mem_of_getElem? (i := 162) rfl)))
  | 1, hq => cases hq; exact va_Nw.of rfl (hts _ (tm4 _ (List.mem_of_getElem? (i := 163) rfl)))
  | 2, hq => cases hq; exact va_Nw.of rfl (hts _ (tm4 _ (List.mem_of_getElem? (i := 161) rfl)))
  | 3, hq => cases hq; exact va_Nw.of rfl (hts _ (tm4 _ (List.mem_of_getElem? (i := 164) rfl)))
  | 4, hq => cases hq; exact va_Nw.of rfl (hts _ (tm4 _ (List.mem_of_getElem? (i := 165) rfl)))
  | k + 5, hq => exact absurd hq (by simp [pCast])
theorem lw_dcl {args : Array Value} {s : State} (hts : ∀ w ∈ lw_tbl, w.before args s = true) : ∀ (k : Nat) (q : MethodName), pDcl[k]? = some q → va_Nw (.declares q) s := by
  intro k q hq
  match k, hq with
  | 0, hq => cases hq; exact va_Nw.of rfl (hts _ (tm2 _ (List.mem_of_getElem? (i := 6) rfl)))
  | 1, hq => cases hq; exact va_Nw.of rfl (hts _ (tm2 _ (List.mem_of_getElem? (i := 35) rfl)))
  | 2, hq => cases hq; exact va_Nw.of rfl (hts _ (tm2 _ (List.mem_of_getElem? (i := 146) rfl)))
  | 3, hq => cases hq; exact va_Nw.of rfl (hts _ (tm3 _ (List.mem_of_getElem? (i := 56) rfl)))
  | k + 4, hq => exact absurd hq (by simp [pDcl])
theorem lw_pK {args : Array Value} {s : State} (hts : ∀ w ∈ lw_tbl, w.before args s = true) : ∃ (D : va_G) (cy : Nat → ClassId), pK D cy s := by
  obtain ⟨D, hD⟩ := lw_known (fun w h => hts w (pl_lwU w h))
  obtain ⟨cy, hy⟩ := lw_arrays hts
  exact ⟨D, cy, ⟨hD, hy⟩, lw_nests hts, va_AO.of (hts _ (tm1 _ (List.mem_of_getElem? (i := 95) rfl))), va_AO.of (hts _ (tm1 _ (List.mem_of_getElem? (i := 37) rfl))), lw_cast hts, lw_dcl hts⟩
