theorem lw_known {args : Array Value} {s : State} (hts : ∀ w ∈ lwU, w.before args s = true) : ∃ D : va_G, ∀ (k : Nat) (q : vw_C), vwCl[k]? = some q → u_Kn s q.1 q.2.1 q.2.2 (D.1 k) (D.2 k) := by
  obtain ⟨c0, i0, h0⟩ := u_known (C := RJx4a65c) (T := TJx4a65c) (N := 3) (n := 3) hts (fun w h => sub_RJx4a65c w h) (hts _ mw_88)
  obtain ⟨c1, i1, h1⟩ := u_known (C := RX0) (T := TX0) (N := 3) (n := 3) hts (fun w h => sub_RX0 w h) (hts _ mw_620)
  obtain ⟨c2, i2, h2⟩ := u_known (C := RX1) (T := TX1) (N := 2) (n := 2) hts (fun w h => sub_RX1 w h) (hts _ mw_15)
  obtain ⟨c3, i3, h3⟩ := u_known (C := RX2) (T := TX2) (N := 3) (n := 3) hts (fun w h => sub_RX2 w h) (hts _ mw_639)
  obtain ⟨c4, i4, h4⟩ := u_known (C := RX3) (T := TX3) (N := 3) (n := 3) hts (fun w h => sub_RX3 w h) (hts _ mw_34)
  obtain ⟨c5, i5, h5⟩ := u_known (C := RX4) (T := TX4) (N := 2) (n := 2) hts (fun w h => sub_RX4 w h) (hts _ mw_28)
  obtain ⟨c6, i6, h6⟩ := u_known (C := RX5) (T := TX5) (N := 4) (n := 4) hts (fun w h => sub_RX5 w h) (hts _ mw_19)
  obtain ⟨c7, i7, h7⟩ := u_known (C := RX6) (T := TX6) (N := 1) (n := 1) hts (fun w h => sub_RX6 w h) (hts _ mw_568)
  obtain ⟨c8, i8, h8⟩ := u_known (C := RX7) (T := TX7) (N := 2) (n := 2) hts (fun w h => sub_RX7 w h) (hts _ mw_24)
  obtain ⟨c9, i9, h9⟩ := u_known (C := RX9) (T := TX9) (N := 4) (n := 4) hts (fun w h => sub_RX9 w h) (hts _ mw_658)
  obtain ⟨c10, i10, h10⟩ := u_known (C := RX10) (T := TX10) (N := 2) (n := 2) hts (fun w h => sub_RX10 w h) (hts _ mw_677)
  obtain ⟨c11, i11, h11⟩ := u_known (C := RX11) (T := TX11) (N := 8) (n := 8) hts (fun w h => sub_RX11 w h) (hts _ mw_1)
  obtain ⟨c12, i12, h12⟩ := u_known (C := RX12) (T := TX12) (N := 4) (n := 4) hts (fun w h => sub_RX12 w h) (hts _ mw_590)
  obtain ⟨c13, i13, h13⟩ := u_known (C := RX13) (T := TX13) (N := 5) (n := 5) hts (fun w h => sub_RX13 w h) (hts _ mw_4)
  refine ⟨(fun k => [c0, c1, c2, c3, c4, c5, c6, c7, c8, c9, c10, c11, c12, c13].getD k c0, fun k => [i0, i1, i2, i3, i4, i5, i6, i7, i8, i9, i10, i11, i12, i13].getD k i0), fun k q hq => ?_⟩
  match k, hq with
  | 0, hq => cases hq; exact h0
  | 1, hq => cases hq; exact h1
  | 2, hq => cases hq; exact h2
  | 3, hq => cases hq; exact h3
  | 4, hq => cases hq; exact h4
  | 5, hq => cases hq; exact h5
  | 6, hq => cases hq; exact h6
  | 7, hq => cases hq; exact h7
  | 8, hq => cases hq; exact h8
  | 9, hq => cases hq; exact h9
  | 10, hq => cases hq; exact h10
  | 11, hq => cases hq; exact h11
  | 12, hq => cases hq; exact h12
  | 13, hq => cases hq; exact h13
  | k + 14, hq => exact absurd hq (by simp [vwCl])
theorem lw_arrays {args : Array Value} {s : State} (hts : ∀ w ∈ lw_tbl, w.before args s = true) : ∃ cy : Nat → ClassId, ∀ (k : Nat) (q : ClassId × FieldType), (pTy cy)[k]? = some q → ArrOfT s q.1 q.2 ∧ va_RA s q.1 q.2 := by
  obtain ⟨c0, k0, p0, a01, a02, a03⟩ := Cond.arrayClass_spec (hts _ (pl_lwU _ mw_59))
  have A0 : ArrOfT s c0 .int ∧ va_RA s c0 .int := ⟨fun n z => ⟨(fun k h => by cases h), k0, a02, p0, a03⟩, a01⟩
  obtain ⟨c1, k1, p1, a11, a12, a13⟩ := Cond.arrayClass_spec (hts _ (pl_lwU _ mw_92))
  have A1 : ArrOfT s c1 .boolean ∧ va_RA s c1 .boolean := ⟨fun n z => ⟨(fun k h => by cases h), k1, a12, p1, a13⟩, a11⟩
  obtain ⟨p2, c2, k2, a21, a22, a23, a24, a25⟩ := Cond.arrayOver_spec (hts _ (tm1 _ (List.mem_of_getElem? (i := 104) rfl)))
  have A2 : ArrOfT s c2 (.object "SoundingLine$Row") ∧ va_RA s c2 (.object "SoundingLine$Row") := ⟨fun n z => ⟨(fun k h => by cases h), k2, a23, p2, a24⟩, k2, p2, a23, a24, a21, a25⟩
  obtain ⟨p3, c3, k3, a31, a32, a33, a34, a35⟩ := Cond.arrayOver_spec (hts _ (tm1 _ (List.mem_of_getElem? (i := 46) rfl)))
  have A3 : ArrOfT s c3 (.object "SoundingLine$Stage") ∧ va_RA s c3 (.object "SoundingLine$Stage") := ⟨fun n z => ⟨(fun k h => by cases h), k3, a33, p3, a34⟩, k3, p3, a33, a34, a31, a35⟩
  obtain ⟨p4, c4, k4, a41, a42, a43, a44, a45⟩ := Cond.arrayOver_spec (hts _ (tm5 _ (List.mem_of_getElem? (i := 82) rfl)))
  have A4 : ArrOfT s c4 (.object "java/lang/Object") ∧ va_RA s c4 (.object "java/lang/Object") := ⟨fun n z => ⟨(fun k h => by cases h), k4, a43, p4, a44⟩, k4, p4, a43, a44, a41, a45⟩
  obtain ⟨p5, c5, k5, a51, a52, a53, a54, a55⟩ := arrayOverA_spec (hts _ (tm6 _ (List.mem_of_getElem? (i := 44) rfl)))
  have A5 : ArrOfT s c5 (.array .int) ∧ va_RA s c5 (.array .int) := ⟨fun n z => ⟨(fun k h => by cases h), k5, a53, p5, a54⟩, a55⟩
  obtain ⟨c6, k6, p6, a61, a62, a63⟩ := Cond.arrayClass_spec (hts _ (pl_lwU _ mw_6))
  have A6 : ArrOfT s c6 .long ∧ va_RA s c6 .long := ⟨fun n z => ⟨(fun k h => by cases h), k6, a62, p6, a63⟩, a61⟩
  obtain ⟨c7, k7, p7, a71, a72, a73⟩ := Cond.arrayClass_spec (hts _ (pl_lwU _ mw_7))
  have A7 : ArrOfT s c7 .double ∧ va_RA s c7 .double := ⟨fun n z => ⟨(fun k h => by cases h), k7, a72, p7, a73⟩, a71⟩
  refine ⟨fun k => [c0, c1, c2, c3, c4, c5, c6, c7].getD k c0, fun k q hq => ?_⟩
  match k, hq with
  | 0, hq => cases hq; exact A0
  | 1, hq => cases hq; exact A1
  | 2, hq => cases hq; exact A2
  | 3, hq => cases hq; exact A3
  | 4, hq => cases hq; exact A4
  | 5, hq => cases hq; exact A5
  | 6, hq => cases hq; exact A6
  | 7, hq => cases hq; exact A7
  | k + 8, hq => exact absurd hq (by simp [pTy])
theorem lw_nests {args : Array Value} {s : State} (hts : ∀ w ∈ lw_tbl, w.before args s = true) : ∀ (k : Nat) (q : String × Nat × MethodName), pNest[k]? = some q → va_Nw (.methodLinkNest q.1 q.2.1 q.2.2 "SoundingLine") s := by
  intro k q hq
  match k, hq with
  | 0, hq => cases hq; exact va_Nw.of rfl (hts _ (tm1 _ (List.mem_of_getElem? (i := 41) rfl)))
  | 1, hq => cases hq; exact va_Nw.of rfl (hts _ (tm1 _ (List.mem_of_getElem? (i := 56) rfl)))
  | 2, hq => cases hq; exact va_Nw.of rfl (hts _ (tm1 _ (List.mem_of_getElem? (i := 115) rfl)))
  | 3, hq => cases hq; exact va_Nw.of rfl (hts _ (tm1 _ (List.mem_of_getElem? (i := 186) rfl)))
  | 4, hq => cases hq; exact va_Nw.of rfl (hts _ (tm1 _ (List.mem_of_getElem? (i := 192) rfl)))
  | 5, hq => cases hq; exact va_Nw.of rfl (hts _ (tm1 _ (List.mem_of_getElem? (i := 207) rfl)))
  | 6, hq => cases hq; exact va_Nw.of rfl (hts _ (tm1 _ (List.mem_of_getElem? (i := 224) rfl)))
  | 7, hq => cases hq; exact va_Nw.of rfl (hts _ (tm2 _ (List.mem_of_getElem? (i := 19) rfl)))
  | 8, hq => cases hq; exact va_Nw.of rfl (hts _ (tm2 _ (List.mem_of_getElem? (i := 162) rfl)))
  | 9, hq => cases hq; exact va_Nw.of rfl (hts _ (tm3 _ (List.mem_of_getElem? (i := 211) rfl)))
  | 10, hq => cases hq; exact va_Nw.of rfl (hts _ (tm4 _ (List.mem_of_getElem? (i := 3) rfl)))
  | 11, hq => cases hq; exact va_Nw.of rfl (hts _ (tm4 _ (List.mem_of_getElem? (i := 30) rfl)))
  | 12, hq => cases hq; exact va_Nw.of rfl (hts _ (tm4 _ (List.mem_of_getElem? (i := 58) rfl)))
  | 13, hq => cases hq; exact va_Nw.of rfl (hts _ (tm4 _ (List.mem_of_getElem? (i := 87) rfl)))
  | k + 14, hq => exact absurd hq (by simp [pNest])
theorem lw_cast {args : Array Value} {s : State} (hts : ∀ w ∈ lw_tbl, w.before args s = true) : ∀ (k : Nat) (q : String), pCast[k]? = some q → va_Nw (.castable q "SoundingLine$Stage") s := by
  intro k q hq
  match k, hq with
  | 0, hq => cases hq; exact va_Nw.of rfl (hts _ (tm6 _ (List.mem_of_getElem? (i := 211) rfl)))
  | 1, hq => cases hq; exact va_Nw.of rfl (hts _ (tm6 _ (List.mem_of_getElem? (i := 212) rfl)))
  | 2, hq => cases hq; exact va_Nw.of rfl (hts _ (tm6 _ (List.mem_of_getElem? (i := 210) rfl)))
  | 3, hq => cases hq; exact va_Nw.of rfl (hts _ (tm6 _ (List.mem_of_getElem? (i := 213) rfl)))
  | 4, hq => cases hq; exact va_Nw.of rfl (hts _ (tm6 _ (List.mem_of_getElem? (i := 214) rfl)))
  | k + 5, hq => exact absurd hq (by simp [pCast])
theorem lw_cas {args : Array Value} {s : State} (hts : ∀ w ∈ lw_tbl, w.before args s = true) : ∀ (k : Nat) (q : String × String), pCas[k]? = some q → va_Nw (.castable q.1 q.2) s := by
  intro k q hq
  match k, hq with
  | 0, hq => cases hq; exact va_Nw.of rfl (hts _ (tm6 _ (List.mem_of_getElem? (i := 202) rfl)))
  | 1, hq => cases hq; exact va_Nw.of rfl (hts _ (tm6 _ (List.mem_of_getElem? (i := 219) rfl)))
  | 2, hq => cases hq; exact va_Nw.of rfl (hts _ (tm6 _ (List.mem_of_getElem? (i := 34) rfl)))
  | k + 3, hq => exact absurd hq (by simp [pCas])
theorem lw_dcl {args : Array Value} {s : State} (hts : ∀ w ∈ lw_tbl, w.before args s = true) : ∀ (k : Nat) (q : MethodName), pDcl[k]? = some q → va_Nw (.declares q) s := by
  intro k q hq
  match k, hq with
  | 0, hq => cases hq; exact va_Nw.of rfl (hts _ (tm1 _ (List.mem_of_getElem? (i := 181) rfl)))
  | 1, hq => cases hq; exact va_Nw.of rfl (hts _ (tm1 _ (List.mem_of_getElem? (i := 210) rfl)))
  | 2, hq => cases hq; exact va_Nw.of rfl (hts _ (tm2 _ (List.mem_of_getElem? (i := 84) rfl)))
  | 3, hq => cases hq; exact va_Nw.of rfl (hts _ (tm3 _ (List.mem_of_getElem? (i := 57) rfl)))
  | k + 4, hq => exact absurd hq (by simp [pDcl])
theorem lw_thr {args : Array Value} {s : State} (hts : ∀ w ∈ lw_tbl, w.before args s = true) : ∀ (k : Nat) (q : String), pThr[k]? = some q → va_Nw (.castable q q) s := by
  intro k q hq
  match k, hq with
  | 0, hq => cases hq; exact va_Nw.of rfl (hts _ (tm3 _ (List.mem_of_getElem? (i := 96) rfl)))
  | 1, hq => cases hq; exact va_Nw.of rfl (hts _ (tm3 _ (List.mem_of_getElem? (i := 178) rfl)))
  | 2, hq => cases hq; exact va_Nw.of rfl (hts _ (tm2 _ (List.mem_of_getElem? (i := 230) rfl)))
  | k + 3, hq => exact absurd hq (by simp [pThr])
theorem lw_dx {args : Array Value} {s : State} (hts : ∀ w ∈ lw_tbl, w.before args s = true) : ∀ (k : Nat) (q : MethodName), pDx[k]? = some q → va_Nw (.declares q) s := by
  intro k q hq
  match k, hq with
  | 0, hq => cases hq; exact va_Nw.of rfl (hts _ (tm2 _ (List.mem_of_getElem? (i := 232) rfl)))
  | 1, hq => cases hq; exact va_Nw.of rfl (hts _ (tm2 _ (List.mem_of_getElem? (i := 234) rfl)))
  | 2, hq => cases hq; exact va_Nw.of rfl (hts _ (tm2 _ (List.mem_of_getElem? (i := 236) rfl)))
  | k + 3, hq => exact absurd hq (by simp [pDx])
theorem lw_pK {args : Array Value} {s : State} (hts : ∀ w ∈ lw_tbl, w.before args s = true) : ∃ (D : va_G) (cy : Nat → ClassId), pK D cy s := by
  obtain ⟨D, hD⟩ := lw_known (fun w h => hts w (pl_lwU w h))
  obtain ⟨cy, hy⟩ := lw_arrays hts
  exact ⟨D, cy, ⟨hD, hy⟩, lw_nests hts, va_AO.of (hts _ (tm1 _ (List.mem_of_getElem? (i := 104) rfl))), va_AO.of (hts _ (tm1 _ (List.mem_of_getElem? (i := 46) rfl))), lw_cast hts, va_AO.of (hts _ (tm5 _ (List.mem_of_getElem? (i := 82) rfl))), hts _ (tm6 _ (List.mem_of_getElem? (i := 44) rfl)), va_Nw.of rfl (hts _ (tm5 _ (List.mem_of_getElem? (i := 19) rfl))), lw_cas hts, lw_dcl hts⟩
