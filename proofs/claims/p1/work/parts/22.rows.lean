/-! rows at the pool for what the model and the law use: other arrays, casts, clone, copy, throws caught -/
/-- no address twice -/
def pInj (L : List Nat) : Prop := ∀ (i j : Nat) (x : Nat), L[i]? = some x → L[j]? = some x → i = j
section PM
variable {p : Program} {l : Launch} {e : Env} {R : Room} {s : State} {m : MethodId} {args : Array Value} {below : List Frame} {meth : Method} {c : Code} {H : Heap} {locs : List Loc} {cells slots : Nat} {Q : State → Prop}
variable {cc : ByteArray} {nL : Nat} {own : String} {Ts : List Cond} {D : va_G} {cy : Nat → ClassId} {A : Nat → Prop} {H0 : Heap} {S : pS} {pc : Nat} {ls : Array Slot} {rest : List Value} {a : Nat}
theorem pC.nst (C : pC p s m args c cc nL own Ts D cy) : ∀ (k : Nat) (q : String × Nat × MethodName), pNest[k]? = some q → va_Nw (.methodLinkNest q.1 q.2.1 q.2.2 "SoundingLine") s := C.2.2.2.2.2.2.1
theorem pC.aoR (C : pC p s m args c cc nL own Ts D cy) : va_AO "SoundingLine$Row" s := C.2.2.2.2.2.2.2.1
theorem pC.aoS (C : pC p s m args c cc nL own Ts D cy) : va_AO "SoundingLine$Stage" s := C.2.2.2.2.2.2.2.2.1
theorem pC.aoO (C : pC p s m args c cc nL own Ts D cy) : va_AO "java/lang/Object" s := C.2.2.2.2.2.2.2.2.2.2.1
theorem pC.aoA (C : pC p s m args c cc nL own Ts D cy) : (Cond.arrayOver (.array .int)).before #[] s = true := C.2.2.2.2.2.2.2.2.2.2.2.1
theorem pC.layN (C : pC p s m args c cc nL own Ts D cy) : va_Nw (.methodLinkNest RX13 108 yX12_lay "SoundingLineModel") s := C.2.2.2.2.2.2.2.2.2.2.2.2.1
theorem pC.cas (C : pC p s m args c cc nL own Ts D cy) : ∀ (k : Nat) (q : String × String), pCas[k]? = some q → va_Nw (.castable q.1 q.2) s := C.2.2.2.2.2.2.2.2.2.2.2.2.2.1
theorem pC.dcl (C : pC p s m args c cc nL own Ts D cy) : ∀ (k : Nat) (q : MethodName), pDcl[k]? = some q → va_Nw (.declares q) s := C.2.2.2.2.2.2.2.2.2.2.2.2.2.2
theorem p_seti (hw : pW D A H0 S H locs) {k0 : Nat} {x0 x : va_E} (hL : a ∈ S.1) (hk0 : (pL S)[k0]? = some (a, x0)) {H1 : Heap} {locs1 : List Loc} (hP : va_P D vwCl ((pL S).set k0 (a, x)) H1) (hD : va_D A ((pL S).set k0 (a, x))) (hS : va_S A H0 H1 locs1) : pW D A H0 (S.1, va_up S.2 a x) H1 locs1 := by
  have hs : x0 = S.2 a := by
    have h9 : (S.1.map (fun b => (b, S.2 b)))[k0]? = some (a, x0) := hk0
    rw [List.getElem?_map, Option.map_eq_some_iff] at h9
    obtain ⟨b, hb1, hb2⟩ := h9
    injection hb2 with e1 e2
    subst e1
    exact e2.symm
  subst hs
  have he := va_pl_set (X := []) (e := x) hw.2.1 hL hk0
  simp only [List.nil_append] at he
  exact ⟨Eq.mp (congrArg (fun w => va_P D vwCl w H1) he) hP, Eq.mp (congrArg (va_D A) he) hD, hS⟩
theorem p_zald (C : pC p s m args c cc nL own Ts D cy) (hw : pW D A H0 S H locs) {cA : ClassId} (t0 : Nat) (ht : (pTy cy)[t0]? = some (cA, .boolean)) {n : Nat} {g : Nat → Int32} (hL : a ∈ S.1) (hf : S.2 a = .inl (cA, n, .inl g)) {j : Nat} (hj : j < n) (hn : n < 2 ^ 31) (hdg : decode cc pc = .ok (.baload, 1))
    (kk : W p l e R s m args below meth c H locs cells slots Q (F0 m (pc + 1) ls (.int (g j) :: rest))) : W p l e R s m args below meth c H locs cells slots Q (F0 m pc ls (.int (nI j) :: .ref a :: rest)) := by
  obtain ⟨k0, hk0⟩ := va_pl_get (X := []) (f := S.2) hL
  rw [hf] at hk0
  refine va_zald C.1 C.2.1 C.2.2.2.2.2.1 hw.1 k0 t0 hk0 ht (vp_in_nI hj hn) hdg ?_
  rw [nI_clamp (Nat.lt_trans hj hn)]
  exact kk
theorem p_zast (C : pC p s m args c cc nL own Ts D cy) (hw : pW D A H0 S H locs) {cA : ClassId} (t0 : Nat) (ht : (pTy cy)[t0]? = some (cA, .boolean)) {n : Nat} {g : Nat → Int32} (hL : a ∈ S.1) (hf : S.2 a = .inl (cA, n, .inl g)) {j : Nat} {x : Int32} (hj : j < n) (hn : n < 2 ^ 31) (hdg : decode cc pc = .ok (.bastore, 1))
    (kk : ∀ (H1 : Heap) (locs1 : List Loc), pW D A H0 (S.1, va_up S.2 a (.inl (cA, n, .inl (upd g j (vp_nar .boolean x))))) H1 locs1 → W p l e R s m args below meth c H1 locs1 cells slots Q (F0 m (pc + 1) ls rest)) : W p l e R s m args below meth c H locs cells slots Q (F0 m pc ls (.int x :: .int (nI j) :: .ref a :: rest)) := by
  obtain ⟨k0, hk0⟩ := va_pl_get (X := []) (f := S.2) hL
  rw [hf] at hk0
  refine va_zast C.1 C.2.1 C.2.2.2.2.2.1 hw.1 hw.2.1 hw.2.2 k0 t0 hk0 ht (vp_in_nI hj hn) hdg (fun H1 locs1 hP hD hS => ?_)
  rw [nI_clamp (Nat.lt_trans hj hn)] at hP hD
  exact kk H1 locs1 (p_seti hw hL hk0 hP hD hS)
theorem p_lald (C : pC p s m args c cc nL own Ts D cy) (hw : pW D A H0 S H locs) {cA : ClassId} (t0 : Nat) (ht : (pTy cy)[t0]? = some (cA, .long)) {n : Nat} {g : Nat → Int64} (hL : a ∈ S.1) (hf : S.2 a = .inl (cA, n, .inr (.inl g))) {j : Nat} (hj : j < n) (hn : n < 2 ^ 31) (hdg : decode cc pc = .ok (.laload, 1))
    (kk : W p l e R s m args below meth c H locs cells slots Q (F0 m (pc + 1) ls (.long (g j) :: rest))) : W p l e R s m args below meth c H locs cells slots Q (F0 m pc ls (.int (nI j) :: .ref a :: rest)) := by
  obtain ⟨k0, hk0⟩ := va_pl_get (X := []) (f := S.2) hL
  rw [hf] at hk0
  refine va_lald C.1 C.2.1 C.2.2.2.2.2.1 hw.1 k0 t0 hk0 ht (vp_in_nI hj hn) hdg ?_
  rw [nI_clamp (Nat.lt_trans hj hn)]
  exact kk
theorem p_last (C : pC p s m args c cc nL own Ts D cy) (hw : pW D A H0 S H locs) {cA : ClassId} (t0 : Nat) (ht : (pTy cy)[t0]? = some (cA, .long)) {n : Nat} {g : Nat → Int64} (hL : a ∈ S.1) (hf : S.2 a = .inl (cA, n, .inr (.inl g))) {j : Nat} {x : Int64} (hj : j < n) (hn : n < 2 ^ 31) (hdg : decode cc pc = .ok (.lastore, 1))
    (kk : ∀ (H1 : Heap) (locs1 : List Loc), pW D A H0 (S.1, va_up S.2 a (.inl (cA, n, .inr (.inl (vp_updL g j x))))) H1 locs1 → W p l e R s m args below meth c H1 locs1 cells slots Q (F0 m (pc + 1) ls rest)) : W p l e R s m args below meth c H locs cells slots Q (F0 m pc ls (.long x :: .int (nI j) :: .ref a :: rest)) := by
  obtain ⟨k0, hk0⟩ := va_pl_get (X := []) (f := S.2) hL
  rw [hf] at hk0
  refine va_last C.1 C.2.1 C.2.2.2.2.2.1 hw.1 hw.2.1 hw.2.2 k0 t0 hk0 ht (vp_in_nI hj hn) hdg (fun H1 locs1 hP hD hS => ?_)
  rw [nI_clamp (Nat.lt_trans hj hn)] at hP hD
  exact kk H1 locs1 (p_seti hw hL hk0 hP hD hS)
theorem p_dald (C : pC p s m args c cc nL own Ts D cy) (hw : pW D A H0 S H locs) {cA : ClassId} (t0 : Nat) (ht : (pTy cy)[t0]? = some (cA, .double)) {n : Nat} {g : Nat → UInt64} (hL : a ∈ S.1) (hf : S.2 a = .inl (cA, n, .inr (.inr (.inr (.inl g))))) {j : Nat} (hj : j < n) (hn : n < 2 ^ 31) (hdg : decode cc pc = .ok (.daload, 1))
    (kk : W p l e R s m args below meth c H locs cells slots Q (F0 m (pc + 1) ls (.double (g j) :: rest))) : W p l e R s m args below meth c H locs cells slots Q (F0 m pc ls (.int (nI j) :: .ref a :: rest)) := by
  obtain ⟨k0, hk0⟩ := va_pl_get (X := []) (f := S.2) hL
  rw [hf] at hk0
  refine va_dald C.1 C.2.1 C.2.2.2.2.2.1 hw.1 k0 t0 hk0 ht (vp_in_nI hj hn) hdg ?_
  rw [nI_clamp (Nat.lt_trans hj hn)]
  exact kk
theorem p_dast (C : pC p s m args c cc nL own Ts D cy) (hw : pW D A H0 S H locs) {cA : ClassId} (t0 : Nat) (ht : (pTy cy)[t0]? = some (cA, .double)) {n : Nat} {g : Nat → UInt64} (hL : a ∈ S.1) (hf : S.2 a = .inl (cA, n, .inr (.inr (.inr (.inl g))))) {j : Nat} {x : UInt64} (hj : j < n) (hn : n < 2 ^ 31) (hdg : decode cc pc = .ok (.dastore, 1))
    (kk : ∀ (H1 : Heap) (locs1 : List Loc), pW D A H0 (S.1, va_up S.2 a (.inl (cA, n, .inr (.inr (.inr (.inl (vf_upd g j x))))))) H1 locs1 → W p l e R s m args below meth c H1 locs1 cells slots Q (F0 m (pc + 1) ls rest)) : W p l e R s m args below meth c H locs cells slots Q (F0 m pc ls (.double x :: .int (nI j) :: .ref a :: rest)) := by
  obtain ⟨k0, hk0⟩ := va_pl_get (X := []) (f := S.2) hL
  rw [hf] at hk0
  refine va_dast C.1 C.2.1 C.2.2.2.2.2.1 hw.1 hw.2.1 hw.2.2 k0 t0 hk0 ht (vp_in_nI hj hn) hdg (fun H1 locs1 hP hD hS => ?_)
  rw [nI_clamp (Nat.lt_trans hj hn)] at hP hD
  exact kk H1 locs1 (p_seti hw hL hk0 hP hD hS)
/-- new arrays of other kinds -/
theorem p_newz (C : pC p s m args c cc nL own Ts D cy) (hw : pW D A H0 S H locs) (hA : ∀ q, H0.size ≤ q → A q) (harr : Cond.arrayClass .boolean ∈ Ts) {cA : ClassId} (t0 : Nat) (ht : (pTy cy)[t0]? = some (cA, .boolean)) {n : Nat} (hn : n < 2 ^ 27) (hcells : cells + 1 ≤ R.cells) (hslots : slots + n ≤ R.slots) (hdg : decode cc pc = .ok (.newarray .boolean, 2))
    (kk : ∀ (q : Nat) (H1 : Heap), q ∉ S.1 → pW D A H0 (S.1 ++ [q], va_up S.2 q (.inl (cA, n, .inl (fun _ => 0)))) H1 locs → W p l e R s m args below meth c H1 locs (cells + 1) (slots + n) Q (F0 m (pc + 2) ls (.ref q :: rest))) : W p l e R s m args below meth c H locs cells slots Q (F0 m pc ls (.int (nI n) :: rest)) := by
  refine va_newa (atype := .boolean) (a0 := (n, .inl (fun _ => 0))) C.1 C.2.1 (C.2.2.2.2.1 _ harr) rfl C.2.2.2.2.2.1 hw.1 hw.2.1 hw.2.2 hA (fun _ => rfl) (nI_pos (by omega)) (nI_clamp (by omega)) (by show n * 1 ≤ 536870912; omega) hcells hslots hdg (fun q cB H1 hK2 hP hD hS => ?_)
  have hc := pK_arr C.2.2.2.2.2.1 t0 ht hK2
  subst hc
  have hq : q ∉ S.1 := va_pl_fresh2 (X := []) hD
  have he := va_pl_push (f := S.2) (e := .inl (cB, n, .inl (fun _ => 0))) hq
  exact kk q H1 hq ⟨Eq.mp (congrArg (fun w => va_P D vwCl w H1) he) hP, Eq.mp (congrArg (va_D A) he) hD, hS⟩
theorem p_newl (C : pC p s m args c cc nL own Ts D cy) (hw : pW D A H0 S H locs) (hA : ∀ q, H0.size ≤ q → A q) (harr : Cond.arrayClass .long ∈ Ts) {cA : ClassId} (t0 : Nat) (ht : (pTy cy)[t0]? = some (cA, .long)) {n : Nat} (hn : n < 2 ^ 26) (hcells : cells + 1 ≤ R.cells) (hslots : slots + n ≤ R.slots) (hdg : decode cc pc = .ok (.newarray .long, 2))
    (kk : ∀ (q : Nat) (H1 : Heap), q ∉ S.1 → pW D A H0 (S.1 ++ [q], va_up S.2 q (.inl (cA, n, .inr (.inl (fun _ => 0))))) H1 locs → W p l e R s m args below meth c H1 locs (cells + 1) (slots + n) Q (F0 m (pc + 2) ls (.ref q :: rest))) : W p l e R s m args below meth c H locs cells slots Q (F0 m pc ls (.int (nI n) :: rest)) := by
  refine va_newa (atype := .long) (a0 := (n, .inr (.inl (fun _ => 0)))) C.1 C.2.1 (C.2.2.2.2.1 _ harr) rfl C.2.2.2.2.2.1 hw.1 hw.2.1 hw.2.2 hA (fun _ => rfl) (nI_pos (by omega)) (nI_clamp (by omega)) (by show n * 8 ≤ 536870912; omega) hcells hslots hdg (fun q cB H1 hK2 hP hD hS => ?_)
  have hc := pK_arr C.2.2.2.2.2.1 t0 ht hK2
  subst hc
  have hq : q ∉ S.1 := va_pl_fresh2 (X := []) hD
  have he := va_pl_push (f := S.2) (e := .inl (cB, n, .inr (.inl (fun _ => 0)))) hq
  exact kk q H1 hq ⟨Eq.mp (congrArg (fun w => va_P D vwCl w H1) he) hP, Eq.mp (congrArg (va_D A) he) hD, hS⟩
theorem p_newd (C : pC p s m args c cc nL own Ts D cy) (hw : pW D A H0 S H locs) (hA : ∀ q, H0.size ≤ q → A q) (harr : Cond.arrayClass .double ∈ Ts) {cA : ClassId} (t0 : Nat) (ht : (pTy cy)[t0]? = some (cA, .double)) {n : Nat} (hn : n < 2 ^ 26) (hcells : cells + 1 ≤ R.cells) (hslots : slots + n ≤ R.slots) (hdg : decode cc pc = .ok (.newarray .double, 2))
    (kk : ∀ (q : Nat) (H1 : Heap), q ∉ S.1 → pW D A H0 (S.1 ++ [q], va_up S.2 q (.inl (cA, n, .inr (.inr (.inr (.inl (fun _ => 0))))))) H1 locs → W p l e R s m args below meth c H1 locs (cells + 1) (slots + n) Q (F0 m (pc + 2) ls (.ref q :: rest))) : W p l e R s m args below meth c H locs cells slots Q (F0 m pc ls (.int (nI n) :: rest)) := by
  refine va_newa (atype := .double) (a0 := (n, .inr (.inr (.inr (.inl (fun _ => 0)))))) C.1 C.2.1 (C.2.2.2.2.1 _ harr) rfl C.2.2.2.2.2.1 hw.1 hw.2.1 hw.2.2 hA (fun _ => rfl) (nI_pos (by omega)) (nI_clamp (by omega)) (by show n * 8 ≤ 536870912; omega) hcells hslots hdg (fun q cB H1 hK2 hP hD hS => ?_)
  have hc := pK_arr C.2.2.2.2.2.1 t0 ht hK2
  subst hc
  have hq : q ∉ S.1 := va_pl_fresh2 (X := []) hD
  have he := va_pl_push (f := S.2) (e := .inl (cB, n, .inr (.inr (.inr (.inl (fun _ => 0)))))) hq
  exact kk q H1 hq ⟨Eq.mp (congrArg (fun w => va_P D vwCl w H1) he) hP, Eq.mp (congrArg (va_D A) he) hD, hS⟩
/-- an array of ints or of objects put where Object may stand -/
theorem p_anyI (C : pC p s m args c cc nL own Ts D cy) (hw : pW D A H0 S H locs) {v n : Nat} {x : (Nat → Int32) ⊕ (Nat → Int64) ⊕ (Nat → UInt32) ⊕ (Nat → UInt64) ⊕ (Nat → Option Nat)} (hL : v ∈ S.1) (hf : S.2 v = .inl (cy 0, n, x)) : va_Any "java/lang/Object" s H v := by
  obtain ⟨k0, hk0⟩ := va_pl_get (X := []) (f := S.2) hL
  rw [hf] at hk0
  have h1 : H[v]? = some (vp_cell (cy 0) (n, x)) := hw.1 k0 _ hk0
  have hvm : (vp_cell (cy 0) (n, x)).vm = .none := by rcases x with x | x | x | x | x <;> rfl
  have hcls : (vp_cell (cy 0) (n, x)).cls = cy 0 := by rcases x with x | x | x | x | x <;> rfl
  have hnm : s.vm.findClass "[I" = some (cy 0) := va_nm_int (C.2.2.2.2.2.1.2 0 (cy 0, .int) rfl).2
  obtain ⟨c3, c4, hc3, hc4, hasg⟩ := Cond.castable_spec (va_Nw.use (A := #[]) rfl (C.cas 1 ("[I", "java/lang/Object") rfl))
  obtain ⟨kC, hkC, -⟩ := Vm.findClass_spec hnm
  refine ⟨_, h1, by rw [hvm]; rfl, ⟨kC, by rw [hcls]; exact hkC⟩, fun comp hcomp => ?_⟩
  rw [hcls]
  cases Option.some.inj (hc3.symm.trans hnm)
  cases Option.some.inj (hc4.symm.trans hcomp)
  exact hasg
theorem p_astI (C : pC p s m args c cc nL own Ts D cy) (hw : pW D A H0 S H locs) {cA : ClassId} (t0 : Nat) (ht : (pTy cy)[t0]? = some (cA, .object "java/lang/Object")) {n nv : Nat} {g : Nat → Option Nat} (hL : a ∈ S.1) (hf : S.2 a = .inl (cA, n, .inr (.inr (.inr (.inr g))))) {j v : Nat} {x : (Nat → Int32) ⊕ (Nat → Int64) ⊕ (Nat → UInt32) ⊕ (Nat → UInt64) ⊕ (Nat → Option Nat)} (hLv : v ∈ S.1) (hv : S.2 v = .inl (cy 0, nv, x)) (hj : j < n) (hn : n < 2 ^ 31) (hdg : decode cc pc = .ok (.aastore, 1))
    (kk : ∀ (H1 : Heap) (locs1 : List Loc), pW D A H0 (S.1, va_up S.2 a (.inl (cA, n, .inr (.inr (.inr (.inr (va_up g j (some v)))))))) H1 locs1 → W p l e R s m args below meth c H1 locs1 cells slots Q (F0 m (pc + 1) ls rest)) : W p l e R s m args below meth c H locs cells slots Q (F0 m pc ls (.ref v :: .int (nI j) :: .ref a :: rest)) := by
  obtain ⟨k0, hk0⟩ := va_pl_get (X := []) (f := S.2) hL
  rw [hf] at hk0
  refine va_astqM C.1 C.2.1 C.2.2.2.2.2.1 hw.1 hw.2.1 hw.2.2 k0 t0 hk0 ht (p_anyI C hw hLv hv) (vp_in_nI hj hn) hdg (fun H1 locs1 hP hD hS => ?_)
  rw [nI_clamp (Nat.lt_trans hj hn)] at hP hD
  exact kk H1 locs1 (p_seti hw hL hk0 hP hD hS)
/-- casts: of an array of ints, of an object to its own class -/
theorem p_castA (C : pC p s m args c cc nL own Ts D cy) (hw : pW D A H0 S H locs) {n index : Nat} {x : (Nat → Int32) ⊕ (Nat → Int64) ⊕ (Nat → UInt32) ⊕ (Nat → UInt64) ⊕ (Nat → Option Nat)} (hL : a ∈ S.1) (hf : S.2 a = .inl (cy 0, n, x)) (hlink : (Cond.classLink own index "[I").before args s = true) (hdg : decode cc pc = .ok (.checkcast index, 3))
    (kk : W p l e R s m args below meth c H locs cells slots Q (F0 m (pc + 3) ls (.ref a :: rest))) : W p l e R s m args below meth c H locs cells slots Q (F0 m pc ls (.ref a :: rest)) := by
  obtain ⟨k0, hk0⟩ := va_pl_get (X := []) (f := S.2) hL
  rw [hf] at hk0
  exact va_castA C.1 C.2.1 C.2.2.2.1 hlink hw.1 k0 hk0 (va_nm_int (C.2.2.2.2.2.1.2 0 (cy 0, .int) rfl).2) hdg kk
theorem p_castS (C : pC p s m args c cc nL own Ts D cy) (hw : pW D A H0 S H locs) {Cn : String} {T : u_T} {N ci index : Nat} {fs : List Value} (hL : a ∈ S.1) (hf : S.2 a = .inr (ci, fs)) (hc : vwCl[ci]? = some (Cn, T, N)) (hlink : (Cond.classLink own index Cn).before args s = true) (hdg : decode cc pc = .ok (.checkcast index, 3))
    (kk : W p l e R s m args below meth c H locs cells slots Q (F0 m (pc + 3) ls (.ref a :: rest))) : W p l e R s m args below meth c H locs cells slots Q (F0 m pc ls (.ref a :: rest)) := by
  obtain ⟨k0, hk0⟩ := va_pl_get (X := []) (f := S.2) hL
  rw [hf] at hk0
  exact va_castS C.1 C.2.1 C.2.2.2.1 hlink (C.2.2.2.2.2.1.1 ci _ hc).2 (va_recv C.2.2.2.2.2.1 hw.1 hc hk0) hdg kk
theorem p_clone (C : pC p s m args c cc nL own Ts D cy) (hw : pW D A H0 S H locs) (hA : ∀ q, H0.size ≤ q → A q) (hml : nL = ls.size) {index : Nat} (hlink : (Cond.methodLink own index ⟨"[I", "clone", "()Ljava/lang/Object;"⟩).before args s = true) (hsame : (Cond.sameMethod "[I" "java/lang/Object" "clone" "()Ljava/lang/Object;").before args s = true)
    (hnat : (Cond.native ⟨"java/lang/Object", "clone", "()Ljava/lang/Object;"⟩).before args s = true) (hinst : (Cond.instanceMethod ⟨"java/lang/Object", "clone", "()Ljava/lang/Object;"⟩).before args s = true) (hsel : (Cond.selects "[I" ⟨"[I", "clone", "()Ljava/lang/Object;"⟩ ⟨"java/lang/Object", "clone", "()Ljava/lang/Object;"⟩).before args s = true)
    {n : Nat} {f : Nat → Int32} (hL : a ∈ S.1) (hf : S.2 a = .inl (cy 0, n, .inl f)) (hframes : 1 ≤ R.frames) (hlocals : (rest.map fun v => v.category).sum + 14 ≤ R.locals) (hcells : cells + 1 ≤ R.cells) (hslots : slots + n ≤ R.slots) (hdg : decode cc pc = .ok (.invokevirtual index, 3))
    (kk : ∀ (q : Nat) (H1 : Heap), q ∉ S.1 → pW D A H0 (S.1 ++ [q], va_up S.2 q (.inl (cy 0, n, .inl f))) H1 locs → W p l e R s m args below meth c H1 locs (cells + 1) (slots + n) Q (F0 m (pc + 3) ls (.ref q :: rest))) : W p l e R s m args below meth c H locs cells slots Q (F0 m pc ls (.ref a :: rest)) := by
  obtain ⟨k0, hk0⟩ := va_pl_get (X := []) (f := S.2) hL
  rw [hf] at hk0
  refine va_clone (ad := "[I") C.1 C.2.1 (by rw [C.2.2.1]; exact hml) C.2.2.2.1 hlink hsame hnat hinst hsel (C.cas 2 ("[I", "java/lang/Cloneable") rfl) C.2.2.2.2.2.1 hw.1 hw.2.1 hw.2.2 hA k0 0 hk0 (show (pTy cy)[0]? = some (cy 0, .int) from rfl) (va_nm_int (C.2.2.2.2.2.1.2 0 (cy 0, .int) rfl).2)
    (fun i v hv => ?_) hframes hlocals hcells hslots hdg (fun q H1 _ hP hD hS => ?_)
  · have hv1 : (arrV (cy 0) n (fun j => .int (f j))).slots[i]? = some v := hv
    have hlt : i < n := by
      have h9 := (Array.getElem?_eq_some_iff.mp hv1).1
      rw [arrV_size] at h9
      exact h9
    rw [arrV_read _ _ hlt] at hv1
    cases hv1
    rfl
  · have hq : q ∉ S.1 := va_pl_fresh2 (X := []) hD
    have he := va_pl_push (f := S.2) (e := .inl (cy 0, n, .inl f)) hq
    exact kk q H1 hq ⟨Eq.mp (congrArg (fun w => va_P D vwCl w H1) he) hP, Eq.mp (congrArg (va_D A) he) hD, hS⟩
theorem p_copy (C : pC p s m args c cc nL own Ts D cy) (hw : pW D A H0 S H locs) (hml : nL = ls.size) {index : Nat} (hlink : (Cond.methodLink own index arraycopyName).before args s = true) (hnat : (Cond.native arraycopyName).before args s = true) (hstat : (Cond.static arraycopyName).before args s = true) (hini : (Cond.initialized "java/lang/System").before args s = true)
    {a0 n0 n1 : Nat} {f g : Nat → Int32} (hL0 : a0 ∈ S.1) (hf0 : S.2 a0 = .inl (cy 0, n0, .inl f)) (hL : a ∈ S.1) (hf : S.2 a = .inl (cy 0, n1, .inl g)) {sp dp k : Nat} (h1 : sp + k ≤ n0) (h2 : dp + k ≤ n1) (h3 : n0 < 2 ^ 31) (h4 : n1 < 2 ^ 31) (hframes : 1 ≤ R.frames) (hlocals : (rest.map fun v => v.category).sum + (nativeFrameWords "java/lang/System" "arraycopy" 5 + 11) ≤ R.locals) (hdg : decode cc pc = .ok (.invokestatic index, 3))
    (kk : ∀ (H1 : Heap) (locs1 : List Loc), pW D A H0 (S.1, va_up S.2 a (.inl (cy 0, n1, .inl (va_cpy f g sp dp k)))) H1 locs1 → W p l e R s m args below meth c H1 locs1 cells slots Q (F0 m (pc + 3) ls rest)) : W p l e R s m args below meth c H locs cells slots Q (F0 m pc ls (.int (nI k) :: .int (nI dp) :: .ref a :: .int (nI sp) :: .ref a0 :: rest)) := by
  obtain ⟨k0, hk0⟩ := va_pl_get (X := []) (f := S.2) hL
  rw [hf] at hk0
  obtain ⟨k1, hk1⟩ := va_pl_get (X := []) (f := S.2) hL0
  rw [hf0] at hk1
  have e1 : (nI sp).toNatClampNeg = sp := nI_clamp (by omega)
  have e2 : (nI dp).toNatClampNeg = dp := nI_clamp (by omega)
  have e3 : (nI k).toNatClampNeg = k := nI_clamp (by omega)
  refine va_copyi C.1 C.2.1 (by rw [C.2.2.1]; exact hml) C.2.2.2.1 hlink hnat hstat hini C.2.2.2.2.2.1 hw.1 hw.2.1 hw.2.2 k1 k0 0 0 hk1 hk0 (show (pTy cy)[0]? = some (cy 0, .int) from rfl) rfl rfl (nI_pos (by omega)) (nI_pos (by omega)) (nI_pos (by omega)) (by rw [e1, e3]; exact h1) (by rw [e2, e3]; exact h2) (fun i _ => rfl) hframes hlocals hdg (fun H1 locs1 hP hD hS => ?_)
  rw [e1, e2, e3] at hP hD
  exact kk H1 locs1 (p_seti hw hL hk0 hP hD hS)
theorem p_dret (C : pC p s m args c cc nL own Ts D cy) {S0 : pS} (hw : pW D (pA S0 s.heap.size) s.heap S H locs) {post : UInt64 → pS → Prop} {v : UInt64} (hpost : post v S) (hr : meth.sig.returnType = some .double) (hlocks : meth.locks = false) (hdg : decode cc pc = .ok (.dreturn, 1)) : W p l e R s m args below meth c H locs cells slots (MQ below (pQd D cy S0 s.heap.size post) args s cells slots (pA S0 s.heap.size)) (F0 m pc ls [.double v]) :=
  W.dret (v := v) C.1 C.2.1 hr (fun t ht hW => ⟨⟨v, S, rfl, hpost, by rw [ht]; exact hw.1, C.2.2.2.2.2.warm hW, hw.2.1⟩, hw.2.2.F ht⟩) hw.2.2.2.2 hdg
/-- what a callee made is not among what was there; and its things are apart -/
theorem p_nodup {S' : pS} (hw : pW D A H0 S' H locs) : pInj S'.1 := by
  intro i j q hi hj
  have h2 : (pL S')[j]? = some (q, S'.2 q) := by
    show (S'.1.map (fun b => (b, S'.2 b)))[j]? = _
    rw [List.getElem?_map, hj]; rfl
  have h1 : (pL S')[i]? = some (q, S'.2 q) := by
    show (S'.1.map (fun b => (b, S'.2 b)))[i]? = _
    rw [List.getElem?_map, hi]; rfl
  exact hw.2.1.1 i j _ _ h1 h2 rfl
theorem p_fresh {S' : pS} {S0 : List Nat} {L : List Nat} {q : Nat} (hw : pW D A H0 S' H locs) (hS : S'.1 = S0 ++ L) (j : Nat) (hj : L[j]? = some q) : q ∉ S0 := by
  intro hq
  have hn := p_nodup hw
  rw [hS] at hn
  obtain ⟨i, hi, he⟩ := List.getElem_of_mem hq
  have := hn i (S0.length + j) q (by rw [List.getElem?_append_left hi, List.getElem?_eq_getElem hi, he]) (by rw [List.getElem?_append_right (Nat.le_add_right _ _), Nat.add_sub_cancel_left]; exact hj)
  omega
theorem p_apart {S' : pS} {S0 : List Nat} {L : List Nat} (hw : pW D A H0 S' H locs) (hS : S'.1 = S0 ++ L) : pInj L := by
  have hn := p_nodup hw
  rw [hS] at hn
  intro i j q hi hj
  have := hn (S0.length + i) (S0.length + j) q (by rw [List.getElem?_append_right (Nat.le_add_right _ _), Nat.add_sub_cancel_left]; exact hi) (by rw [List.getElem?_append_right (Nat.le_add_right _ _), Nat.add_sub_cancel_left]; exact hj)
  omega
theorem nd_ne {L : List Nat} (h : pInj L) {x y : Nat} (i j : Nat) (hi : L[i]? = some x) (hj : L[j]? = some y) (hij : i < j) : x ≠ y := fun e => by
  subst e
  have := h i j x hi hj
  omega
/-- the throw of a callee, caught by the first row of the table -/
theorem x_catch {cw : Cond} (C : pC p s m args c cc nL own (cw :: lwU) D cy) {ed : Nat} {B : Nat → Prop} {HE : Heap} {E : String} {ce : Cell} {q : Addr} {x : ExceptionTableEntry} {suf : List ExceptionTableEntry} (htab : c.exceptionTable.toList = x :: suf) (hcell : H[q]? = some ce) (hv : ce.vm = .none) (hcl : s.vm.findClass E = some ce.cls) (hE : eK B ed s HE) (kT : Nat) (hT : pThr[kT]? = some E) (hlink : Cond.classLink own x.catchType E ∈ lwU) (hx : covers x pc = true) (h0 : x.catchType ≠ 0)
    (kk : W p l e R s m args below meth c H locs cells slots Q (F0 m x.handlerPc ls [.ref q])) : vx_W p l e R s m args below meth c H locs cells slots Q (F0 m pc ls rest) q :=
  vx_catch C.2.2.2.1 [] x suf htab (fun z hz => nomatch hz) hx h0 (C.2.2.2.2.1 _ (mU hlink)) (va_Nw.use rfl (hE.2.2.2.2.2.1 kT _ hT)) hcell hv hcl kk
theorem x_tab {p : Program} {l : Launch} {S : Spec} {y : MethodName} {cc : ByteArray} {maxL : Nat} {ret : Option FieldType} {e : Env} {s s₁ : State} {m : MethodId} {args : Array Value} {below : List Frame} {meth : Method} {c : Code} {hh : List (Nat × Nat × Nat × Nat)} (B : BodyLoose p l y S cc maxL ret e s m args below meth c s₁) (h : (Cond.codeWith y cc maxL ret hh).before args s = true) : c.exceptionTable.toList = tableOf hh := vx_table (x := y) B h
/-- arrays of arrays of ints -/
theorem p_newA (C : pC p s m args c cc nL own Ts D cy) (hw : pW D A H0 S H locs) (hA : ∀ q, H0.size ≤ q → A q) {index : Nat} (hcl : Cond.classLink own index "[I" ∈ Ts) (hover : (Cond.arrayOver (.array .int)).before #[] s = true) {cA : ClassId} (t0 : Nat) (ht : (pTy cy)[t0]? = some (cA, .array .int)) {n : Nat} (hn : n < 2 ^ 27) (hcells : cells + 1 ≤ R.cells) (hslots : slots + n ≤ R.slots) (hdg : decode cc pc = .ok (.anewarray index, 3))
    (kk : ∀ (q : Nat) (H1 : Heap), q ∉ S.1 → pW D A H0 (S.1 ++ [q], va_up S.2 q (.inl (cA, n, .inr (.inr (.inr (.inr (fun _ => none))))))) H1 locs → W p l e R s m args below meth c H1 locs (cells + 1) (slots + n) Q (F0 m (pc + 3) ls (.ref q :: rest))) : W p l e R s m args below meth c H locs cells slots Q (F0 m pc ls (.int (nI n) :: rest)) := by
  have eI : (FieldType.array .int).toString = "[I" := by decide +kernel
  have hbt : (Cond.arrayOver (.array .int)).before args s = true := hover
  refine W.anewA (t := .int) C.1 C.2.1 C.2.2.2.1 (by rw [eI]; exact C.2.2.2.2.1 _ hcl) hbt rfl hdg rfl (nI_pos (by omega)) (by rw [nI_clamp (by omega)]; omega) hcells (by rw [nI_clamp (by omega)]; exact hslots) (fun cB kA comp hf hk hkind hcomp => ?_)
  rw [nI_clamp (show n < 2 ^ 31 by omega)]
  have hc : cA = cB := by
    have h1 := (C.2.2.2.2.2.1.2 t0 _ ht).2
    have e1 : s.vm.findClass ("[" ++ (FieldType.array .int).toString) = some cA := by first | exact h1 | exact h1.choose_spec.choose_spec.2.2.2
    exact Option.some.inj (e1.symm.trans hf)
  subst hc
  have hsz : H.size ∉ S.1 := fun hq => by
    obtain ⟨k0, hk0⟩ := va_pl_get (X := []) (f := S.2) hq
    exact absurd ((hw.1 k0 _ hk0).lt) (Nat.lt_irrefl _)
  refine kk H.size _ hsz ⟨?_, ?_, ?_⟩
  · refine Eq.mp (congrArg (fun w => va_P D vwCl w _) (va_pl_push (f := S.2) (e := .inl (cA, n, .inr (.inr (.inr (.inr (fun _ => none)))))) hsz)) ?_
    refine va_P.app (va_P_ext hw.1 (fun q hq => by rw [Array.getElem?_push_lt hq, Array.getElem?_eq_getElem hq])) (fun k q hk => ?_)
    cases k with
    | succ k => simp at hk
    | zero =>
      simp only [List.getElem?_cons_zero, Option.some.injEq] at hk
      subst hk
      show (H.push _)[H.size]? = some (vp_cell cA _)
      rw [Array.getElem?_push_size]
      refine congrArg some ?_
      show _ = arrV cA n (fun j => va_rf none)
      refine congrArg (fun z => ({ cls := cA, slots := z, vm := .none } : Cell)) (Array.ext (by simp) fun i h1 h2 => by simp; rfl)
  · refine Eq.mp (congrArg (va_D A) (va_pl_push (f := S.2) (e := .inl (cA, n, .inr (.inr (.inr (.inr (fun _ => none)))))) hsz)) ?_
    refine ⟨fun i j p1 q1 hi hj he => ?_, fun k q hk => ?_⟩
    · rcases Nat.lt_trichotomy i (pL S).length with h1 | h1 | h1
      · rcases Nat.lt_trichotomy j (pL S).length with h2 | h2 | h2
        · rw [List.getElem?_append_left h1] at hi
          rw [List.getElem?_append_left h2] at hj
          exact hw.2.1.1 i j p1 q1 hi hj he
        · subst h2
          rw [List.getElem?_append_left h1] at hi
          rw [List.getElem?_append_right (Nat.le_refl _), Nat.sub_self] at hj
          simp only [List.getElem?_cons_zero, Option.some.injEq] at hj
          subst hj
          have := (hw.1 i p1 hi).lt
          rw [he] at this
          exact absurd this (Nat.lt_irrefl _)
        · rw [List.getElem?_eq_none (by rw [List.length_append, List.length_singleton]; exact h2)] at hj; cases hj
      · subst h1
        rw [List.getElem?_append_right (Nat.le_refl _), Nat.sub_self] at hi
        simp only [List.getElem?_cons_zero, Option.some.injEq] at hi
        subst hi
        rcases Nat.lt_trichotomy j (pL S).length with h2 | h2 | h2
        · rw [List.getElem?_append_left h2] at hj
          have := (hw.1 j q1 hj).lt
          rw [← he] at this
          exact absurd this (Nat.lt_irrefl _)
        · exact h2.symm
        · rw [List.getElem?_eq_none (by rw [List.length_append, List.length_singleton]; exact h2)] at hj; cases hj
      · rw [List.getElem?_eq_none (by rw [List.length_append, List.length_singleton]; exact h1)] at hi; cases hi
    · by_cases h1 : k < (pL S).length
      · rw [List.getElem?_append_left h1] at hk
        exact hw.2.1.2 k q hk
      · rw [List.getElem?_append_right (Nat.le_of_not_lt h1)] at hk
        cases h9 : k - (pL S).length with
        | zero =>
          rw [h9] at hk
          simp only [List.getElem?_cons_zero, Option.some.injEq] at hk
          subst hk
          exact hA _ hw.2.2.1
        | succ z => rw [h9] at hk; simp at hk
  · refine ⟨Nat.le_trans hw.2.2.1 (by simp), fun q hq hn1 => ?_, hw.2.2.2.2⟩
    rw [Array.getElem?_push_lt (Nat.lt_of_lt_of_le hq hw.2.2.1), ← Array.getElem?_eq_getElem]
    exact hw.2.2.2.1 q hq hn1
end PM
section PA2
variable {p : Program} {l : Launch} {e : Env} {R : Room} {s : State} {m : MethodId} {args : Array Value} {below : List Frame} {meth : Method} {c : Code} {H : Heap} {locs : List Loc} {cells slots : Nat} {Q : State → Prop}
variable {cc : ByteArray} {nL : Nat} {own : String} {Ts : List Cond} {D : va_G} {cy : Nat → ClassId} {A : Nat → Prop} {H0 : Heap} {S : pS} {pc : Nat} {ls : Array Slot} {rest : List Value} {a : Nat}
theorem p_aldA (C : pC p s m args c cc nL own Ts D cy) (hw : pW D A H0 S H locs) {cA : ClassId} (t0 : Nat) (ht : (pTy cy)[t0]? = some (cA, .array .int)) {n : Nat} {g : Nat → Option Nat} (hL : a ∈ S.1) (hf : S.2 a = .inl (cA, n, .inr (.inr (.inr (.inr g))))) {j : Nat} (hj : j < n) (hn : n < 2 ^ 31) {r : Option Nat} (hr : g j = r) (hdg : decode cc pc = .ok (.aaload, 1))
    (kk : W p l e R s m args below meth c H locs cells slots Q (F0 m (pc + 1) ls (va_rf r :: rest))) : W p l e R s m args below meth c H locs cells slots Q (F0 m pc ls (.int (nI j) :: .ref a :: rest)) := by
  subst hr
  obtain ⟨k0, hk0⟩ := va_pl_get (X := []) (f := S.2) hL
  rw [hf] at hk0
  have ej : (nI j).toNatClampNeg = j := nI_clamp (Nat.lt_trans hj hn)
  refine W.aald (v := va_rf (g j)) (ty := .array .int) C.1 C.2.1 (hw.1 k0 _ hk0) ((C.2.2.2.2.2.1.2 t0 _ ht).1 n (fun j => va_rf (g j))) rfl (fun q => by cases q) ?_ ?_ rfl rfl hdg kk
  · show ¬ (nI j < 0 ∨ (arrV _ _ _).slots.size ≤ _)
    rw [arrV_size]
    exact vp_in_nI hj hn
  · show (arrV _ _ _).slots[_]? = _
    rw [ej, arrV_read _ _ hj]
theorem p_astA (C : pC p s m args c cc nL own Ts D cy) (hw : pW D A H0 S H locs) {cA : ClassId} (t0 : Nat) (ht : (pTy cy)[t0]? = some (cA, .array .int)) {n nv : Nat} {g : Nat → Option Nat} (hL : a ∈ S.1) (hf : S.2 a = .inl (cA, n, .inr (.inr (.inr (.inr g))))) {j v : Nat} {x : (Nat → Int32) ⊕ (Nat → Int64) ⊕ (Nat → UInt32) ⊕ (Nat → UInt64) ⊕ (Nat → Option Nat)} (hLv : v ∈ S.1) (hv : S.2 v = .inl (cy 0, nv, x)) (hj : j < n) (hn : n < 2 ^ 31) (hdg : decode cc pc = .ok (.aastore, 1))
    (kk : ∀ (H1 : Heap) (locs1 : List Loc), pW D A H0 (S.1, va_up S.2 a (.inl (cA, n, .inr (.inr (.inr (.inr (va_up g j (some v)))))))) H1 locs1 → W p l e R s m args below meth c H1 locs1 cells slots Q (F0 m (pc + 1) ls rest)) : W p l e R s m args below meth c H locs cells slots Q (F0 m pc ls (.ref v :: .int (nI j) :: .ref a :: rest)) := by
  obtain ⟨k0, hk0⟩ := va_pl_get (X := []) (f := S.2) hL
  rw [hf] at hk0
  obtain ⟨kv, hkv⟩ := va_pl_get (X := []) (f := S.2) hLv
  rw [hv] at hkv
  have ej : (nI j).toNatClampNeg = j := nI_clamp (Nat.lt_trans hj hn)
  have eI : (FieldType.array .int).toString = "[I" := by decide +kernel
  obtain ⟨comp, cB, kB, hcomp, -, hkB, hkind, hname⟩ := arrayOverA_spec C.aoA
  have hcB : cB = cA := by
    have h1 := (C.2.2.2.2.2.1.2 t0 _ ht).2
    have e1 : s.vm.findClass ("[" ++ (FieldType.array .int).toString) = some cA := h1
    exact Option.some.inj (hname.symm.trans e1)
  subst hcB
  have hvm : (vp_cell (cy 0) (nv, x)).vm = .none := by rcases x with x | x | x | x | x <;> rfl
  have hcls : (vp_cell (cy 0) (nv, x)).cls = cy 0 := by rcases x with x | x | x | x | x <;> rfl
  have hnm : s.vm.findClass "[I" = some (cy 0) := va_nm_int (C.2.2.2.2.2.1.2 0 (cy 0, .int) rfl).2
  rw [eI] at hcomp
  cases Option.some.inj (hcomp.symm.trans hnm)
  obtain ⟨kC, hkC, -⟩ := Vm.findClass_spec hnm
  refine W.aast C.1 C.2.1 (hw.1 k0 _ hk0) (fun q h => by cases h) (fun h => by cases h) hkB hkind rfl hkC ⟨nI_pos (Nat.lt_trans hj hn), by show _ < (arrV _ _ _).slots.size; rw [arrV_size, ej]; exact hj⟩ (hw.1 kv _ hkv) (fun q h => by rw [hvm] at h; cases h) (by rw [hcls]; exact hkC) (by rw [hcls]; exact va_asg _ _) rfl rfl hdg fun H1 e z oq => ?_
  rw [ej] at e
  have hat : va_at D vwCl (a, .inl (cB, n, .inr (.inr (.inr (.inr (va_up g j (some v))))))) H1 := by
    show H1[a]? = some (vp_cell _ _)
    rw [e]
    rw [vp_cell_q, vp_cell_q, arrV_store]
    congr 2
    funext q
    by_cases hq : q = j
    · subst hq
      simp [updV, va_up, va_rf]
    · simp [updV, va_up, hq]
  exact kk H1 _ (p_seti hw hL hk0 (hw.1.set hw.2.1 hk0 hat oq) (hw.2.1.set hk0) (hw.2.2.put z oq (hw.2.1.2 k0 _ hk0)))
end PA2
section PA3
variable {p : Program} {l : Launch} {e : Env} {R : Room} {s : State} {m : MethodId} {args : Array Value} {below : List Frame} {meth : Method} {c : Code} {H : Heap} {locs : List Loc} {cells slots : Nat} {Q : State → Prop} {pc : Nat} {ls : Array Slot} {rest : List Value}
theorem x_ren {a b : Int32} (h : a = b) (kk : W p l e R s m args below meth c H locs cells slots Q (F0 m pc ls (.int b :: rest))) : W p l e R s m args below meth c H locs cells slots Q (F0 m pc ls (.int a :: rest)) := by rw [h]; exact kk
theorem l_ren {a b : Int64} (h : a = b) (kk : W p l e R s m args below meth c H locs cells slots Q (F0 m pc ls (.long b :: rest))) : W p l e R s m args below meth c H locs cells slots Q (F0 m pc ls (.long a :: rest)) := by rw [h]; exact kk
theorem d_ren {a b : UInt64} (h : a = b) (kk : W p l e R s m args below meth c H locs cells slots Q (F0 m pc ls (.double b :: rest))) : W p l e R s m args below meth c H locs cells slots Q (F0 m pc ls (.double a :: rest)) := by rw [h]; exact kk
end PA3
theorem hq_app {S S1 : pS} {q a : Nat} {x : va_E} (e : S1 = pnew S a x) (h : q ∉ S.1) (hn : q ≠ a) : q ∉ S1.1 := by
  rw [e]; intro z; rcases List.mem_append.mp z with z | z
  · exact h z
  · exact hn (List.mem_singleton.mp z)
