/-! names of this claim that the pool's rows ask for -/
def pTy (cy : Nat → ClassId) : List (ClassId × FieldType) := [(cy 0, .int), (cy 1, .int), (cy 2, .object "SoundingLine$Row"), (cy 3, .object "SoundingLine$Stage")]
def pNest : List (String × Nat × MethodName) := [(RX11, 9, yX1_init), (RX11, 18, yX5_init), (RX11, 53, yX3_init), (RX0, 32, yX11_blocksOf), (RX2, 25, yX11_blocksOf), (RX10, 18, yX11_blocksOf), (RX0, 39, yX11_at), (RX9, 48, yX11_at), (RX3, 22, yX11_at), (RX6, 3, yX8_init), (RX0, 3, yX8_init), (RX2, 3, yX8_init), (RX9, 3, yX8_init), (RX10, 3, yX8_init)]
def pCast : List String := [RX0, RX2, RX6, RX9, RX10]
/-! THE POOL: what a side holds: the addresses in the order of their making, and what lies at each. -/
abbrev pS : Type := List Nat × (Nat → va_E)
abbrev pL (S : pS) : va_W := va_pl S.1 S.2
/-- the tables' side of it: the classes, the classes of the arrays, the links of nest mates, what may stand in an array of stages, the arrays of references -/
def pDcl : List MethodName := [⟨"SoundingLine$Stage", "sizeOf", "(I)I"⟩, ⟨"SoundingLine$Stage", "code", "(LSoundingLine$Row;LSoundingLine$Row;)V"⟩, ⟨"SoundingLine$Stage", "decode", "(LSoundingLine$Row;LSoundingLine$Row;)V"⟩, ⟨"SoundingLine$Stage", "kind", "()I"⟩]
def pK2 (U : State) : Prop := ∀ (k : Nat) (q : MethodName), pDcl[k]? = some q → va_Nw (.declares q) U
def pK (D : va_G) (cy : Nat → ClassId) (U : State) : Prop := va_K D vwCl (pTy cy) U ∧ (∀ (k : Nat) (q : String × Nat × MethodName), pNest[k]? = some q → va_Nw (.methodLinkNest q.1 q.2.1 q.2.2 "SoundingLine") U) ∧ va_AO "SoundingLine$Row" U ∧ va_AO "SoundingLine$Stage" U ∧ (∀ (k : Nat) (q : String), pCast[k]? = some q → va_Nw (.castable q "SoundingLine$Stage") U) ∧ pK2 U
theorem pK.warm {D : va_G} {cy : Nat → ClassId} {u U : State} (hW : u.WarmedH U.vm) (h : pK D cy u) : pK D cy U := ⟨va_K.moved hW.alike h.1, fun k q hq => va_Nw.warmM hW (h.2.1 k q hq), va_AO.moved hW.alike h.2.2.1, va_AO.moved hW.alike h.2.2.2.1, fun k q hq => va_Nw.warmC hW (h.2.2.2.2.1 k q hq), fun k q hq => va_Nw.warmD hW (h.2.2.2.2.2 k q hq)⟩
theorem pK.same {D : va_G} {cy : Nat → ClassId} {u U : State} (hv : u.vm = U.vm) (h : pK D cy u) : pK D cy U := ⟨va_K.moved (by rw [hv]; exact Vm.Alike.refl _) h.1, fun k q hq => va_Nw.same rfl hv (h.2.1 k q hq), va_AO.moved (by rw [hv]; exact Vm.Alike.refl _) h.2.2.1, va_AO.moved (by rw [hv]; exact Vm.Alike.refl _) h.2.2.2.1, fun k q hq => va_Nw.same rfl hv (h.2.2.2.2.1 k q hq), fun k q hq => va_Nw.same rfl hv (h.2.2.2.2.2 k q hq)⟩
def pW (D : va_G) (A : Nat → Prop) (H0 : Heap) (S : pS) (H : Heap) (locs : List Loc) : Prop := va_P D vwCl (pL S) H ∧ va_D A (pL S) ∧ va_S A H0 H locs
/-- what stands fast through a method's walk -/
def pC (p : Program) (s : State) (m : MethodId) (args : Array Value) (c : Code) (cc : ByteArray) (nL : Nat) (own : String) (Ts : List Cond) (D : va_G) (cy : Nat → ClassId) : Prop :=
  p.tables.exec = Jvm.exec ∧ c.code = cc ∧ c.maxLocals = nL ∧ s.vm.findClass own = some m.cls ∧ (∀ w ∈ Ts, w.before args s = true) ∧ pK D cy s
def pA (S : pS) (sz : Nat) : Nat → Prop := va_A (pL S) sz
def pB (D : va_G) (cy : Nat → ClassId) (A : Nat → Prop) (S : pS) (t : State) : Prop := va_P D vwCl (pL S) t.heap ∧ pK D cy t ∧ va_D A (pL S)
def pPc (D : va_G) (cy : Nat → ClassId) (S : pS) (sz : Nat) (av : List Value) : Array Value → State → Prop := va_Pc av (fun U => U.heap.size = sz ∧ va_P D vwCl (pL S) U.heap ∧ pK D cy U ∧ va_D (fun _ => True) (pL S))
def pQi (D : va_G) (cy : Nat → ClassId) (S : pS) (sz : Nat) (post : Int32 → pS → Prop) : Array Value → State → Outcome → State → Prop := va_Qi post (pB D cy (pA S sz)) (pA S sz)
def pQl (D : va_G) (cy : Nat → ClassId) (S : pS) (sz : Nat) (post : Int64 → pS → Prop) : Array Value → State → Outcome → State → Prop := va_Ql post (pB D cy (pA S sz)) (pA S sz)
def pQd (D : va_G) (cy : Nat → ClassId) (S : pS) (sz : Nat) (post : UInt64 → pS → Prop) : Array Value → State → Outcome → State → Prop := va_Qd post (pB D cy (pA S sz)) (pA S sz)
def pQv (D : va_G) (cy : Nat → ClassId) (S : pS) (sz : Nat) (post : pS → Prop) : Array Value → State → Outcome → State → Prop := va_Qv post (pB D cy (pA S sz)) (pA S sz)
def pQq (D : va_G) (cy : Nat → ClassId) (S : pS) (sz : Nat) (post : Option Nat → pS → Prop) : Array Value → State → Outcome → State → Prop := va_Qq post (pB D cy (pA S sz)) (pA S sz)
theorem pPc.blind {D : va_G} {cy : Nat → ClassId} {S : pS} {sz : Nat} {av : List Value} : FrameBlind (pPc D cy S sz av) := fun a U g mk q => by
  obtain ⟨q0, q1, qP, qK, qD⟩ := q
  exact ⟨q0, q1, qP, qK.same (u := U) (U := U.calling g mk a) rfl, qD⟩
theorem pA.in {D : va_G} {A : Nat → Prop} {H0 H : Heap} {S : pS} {locs : List Loc} (hw : pW D A H0 S H locs) (hA : ∀ q, H0.size ≤ q → A q) : ∀ q, pA S H.size q → A q := by
  rintro q (⟨k, e, he⟩ | hq)
  · exact hw.2.1.2 k _ he
  · exact hA q (Nat.le_trans hw.2.2.1 hq)
/-- one cell written anew -/
def pup (S : pS) (a : Nat) (x : va_E) : pS := (S.1, va_up S.2 a x)
theorem pup_1 {S : pS} {a : Nat} {x : va_E} : (pup S a x).1 = S.1 := rfl
theorem pup_s {S : pS} {a : Nat} {x : va_E} : (pup S a x).2 a = x := va_up_self _ _ _
theorem pup_n {S : pS} {a b : Nat} {x : va_E} (h : b ≠ a) : (pup S a x).2 b = S.2 b := va_up_ne _ _ h
theorem pup_pup {S : pS} {a : Nat} {x y : va_E} : pup (pup S a x) a y = pup S a y := by
  unfold pup
  refine Prod.ext rfl (funext fun b => ?_)
  by_cases h : b = a
  · subst h; simp [va_up]
  · simp [va_up, h]
theorem pup_self {S : pS} {a : Nat} {x : va_E} (h : S.2 a = x) : pup S a x = S := by
  unfold pup
  refine Prod.ext rfl (funext fun b => ?_)
  by_cases hb : b = a
  · subst hb; simp [va_up, h]
  · simp [va_up, hb]
theorem pup_comm {S : pS} {a b : Nat} {x y : va_E} (h : a ≠ b) : pup (pup S a x) b y = pup (pup S b y) a x := by
  unfold pup
  refine Prod.ext rfl (funext fun q => ?_)
  by_cases h1 : q = a
  · subst h1; simp [va_up, h]
  · simp [va_up, h1]
/-- a new cell -/
def pnew (S : pS) (a : Nat) (x : va_E) : pS := (S.1 ++ [a], va_up S.2 a x)
theorem pnew_s {S : pS} {a : Nat} {x : va_E} : (pnew S a x).2 a = x := va_up_self _ _ _
theorem pnew_n {S : pS} {a b : Nat} {x : va_E} (h : b ≠ a) : (pnew S a x).2 b = S.2 b := va_up_ne _ _ h
theorem pnew_pup {S : pS} {a q : Nat} {x z : va_E} (h : a ≠ q) : pnew (pup S a x) q z = pup (pnew S q z) a x := by
  unfold pup pnew
  refine Prod.ext rfl (funext fun b => ?_)
  by_cases h1 : b = a
  · subst h1; simp [va_up, h]
  · simp [va_up, h1]
theorem pup_pnew {S : pS} {q : Nat} {z z2 : va_E} : pup (pnew S q z) q z2 = pnew S q z2 := by
  unfold pup pnew
  refine Prod.ext rfl (funext fun b => ?_)
  by_cases h1 : b = q
  · subst h1; simp [va_up]
  · simp [va_up, h1]
section PL
variable {p : Program} {l : Launch} {e : Env} {R : Room} {s : State} {m : MethodId} {args : Array Value} {below : List Frame} {meth : Method} {c : Code} {H : Heap} {locs : List Loc} {cells slots : Nat} {Q : State → Prop}
variable {cc : ByteArray} {nL : Nat} {own : String} {Ts : List Cond} {D : va_G} {cy : Nat → ClassId} {A : Nat → Prop} {H0 : Heap} {S : pS} {pc : Nat} {ls : Array Slot} {rest : List Value} {a : Nat}
theorem pC.x (C : pC p s m args c cc nL own Ts D cy) : p.tables.exec = Jvm.exec := C.1
theorem pC.b (C : pC p s m args c cc nL own Ts D cy) : c.code = cc := C.2.1
theorem pC.fix (C : pC p s m args c cc nL own Ts D cy) : CallFix p m c cc nL s args Ts own := ⟨C.1, C.2.1, C.2.2.1, C.2.2.2.1, C.2.2.2.2.1⟩
/-- reading a field -/
theorem p_get (C : pC p s m args c cc nL own Ts D cy) (hw : pW D A H0 S H locs) {Cn ref : String} {T : u_T} {N ci index : Nat} {fs : List Value} {v : Value} (hL : a ∈ S.1) (hf : S.2 a = .inr (ci, fs)) (hc : vwCl[ci]? = some (Cn, T, N)) (hin : ∀ w ∈ u_ws Cn T N, w ∈ Ts) (k : Nat) (hk : k < N) (hlink : Cond.fieldLink own index ref (T k).2.1 (T k).2.2.1 ∈ Ts) (hs : (T k).1 = ref) (hv : fs[k]? = some v) (hdg : decode cc pc = .ok (.getfield index, 3))
    (kk : W p l e R s m args below meth c H locs cells slots Q (F0 m (pc + 3) ls (v :: rest))) : W p l e R s m args below meth c H locs cells slots Q (F0 m pc ls (.ref a :: rest)) := by
  obtain ⟨k0, hk0⟩ := va_pl_get (X := []) (f := S.2) hL
  rw [hf] at hk0
  exact va_get C.1 C.2.1 C.2.2.2.2.1 hin C.2.2.2.1 C.2.2.2.2.2.1 hw.1 k0 hk0 hc k hk (C.2.2.2.2.1 _ hlink) (fun _ h9 => by rw [← hs]; exact h9) hv hdg kk
/-- writing a field that is not final -/
theorem p_put (C : pC p s m args c cc nL own Ts D cy) (hw : pW D A H0 S H locs) {Cn ref : String} {T : u_T} {N ci index : Nat} {fs : List Value} {v : Value} (ty0 : Nat → FieldType) (hty : ∀ k, k < N → parseFieldDescriptor (T k).2.2.1 = some (ty0 k)) (hnm : ∀ a, a < N → ∀ b, b < N → a ≠ b → (T a).2.1 ≠ (T b).2.1) (hL : a ∈ S.1) (hf : S.2 a = .inr (ci, fs)) (hc : vwCl[ci]? = some (Cn, T, N)) (hin : ∀ w ∈ u_ws Cn T N, w ∈ Ts) (k : Nat) (hk : k < N) (hlink : Cond.fieldLink own index ref (T k).2.1 (T k).2.2.1 ∈ Ts) (hs : (T k).1 = ref) (hfin : (T k).2.2.2 = false) {ty : FieldType} (hd : parseFieldDescriptor (T k).2.2.1 = some ty) (hn : narrow ty v = v) (hfit : fits ty v = true) (hl : k < fs.length) (hdg : decode cc pc = .ok (.putfield index, 3))
    {fs' : List Value} (hfs : fs.set k v = fs')
    (kk : ∀ (H1 : Heap) (locs1 : List Loc), pW D A H0 (S.1, va_up S.2 a (.inr (ci, fs'))) H1 locs1 → W p l e R s m args below meth c H1 locs1 cells slots Q (F0 m (pc + 3) ls rest)) : W p l e R s m args below meth c H locs cells slots Q (F0 m pc ls (v :: .ref a :: rest)) := by
  subst hfs
  obtain ⟨k0, hk0'⟩ := va_pl_get (X := []) (f := S.2) hL
  have hk0 := hk0'
  rw [hf] at hk0
  refine va_put C.1 C.2.1 C.2.2.2.2.1 hin ty0 hty hnm C.2.2.2.1 C.2.2.2.2.2.1 hw.1 hw.2.1 hw.2.2 k0 hk0 hc k hk (C.2.2.2.2.1 _ hlink) (fun _ h9 => by rw [← hs]; exact h9) hfin hd hn hfit hl hdg (fun H1 locs1 hP hD hS => ?_)
  have he := va_pl_set (X := []) (e := .inr (ci, fs.set k v)) hw.2.1 hL hk0'
  simp only [List.nil_append] at he
  exact kk H1 locs1 ⟨Eq.mp (congrArg (fun w => va_P D vwCl w H1) he) hP, Eq.mp (congrArg (va_D A) he) hD, hS⟩
/-- writing a final field, in the constructor -/
theorem p_putF (C : pC p s m args c cc nL own Ts D cy) (hw : pW D A H0 S H locs) {Cn ref : String} {T : u_T} {N ci index : Nat} {fs : List Value} {v : Value} (ty0 : Nat → FieldType) (hty : ∀ k, k < N → parseFieldDescriptor (T k).2.2.1 = some (ty0 k)) (hnm : ∀ a, a < N → ∀ b, b < N → a ≠ b → (T a).2.1 ≠ (T b).2.1) (hL : a ∈ S.1) (hf : S.2 a = .inr (ci, fs)) (hc : vwCl[ci]? = some (Cn, T, N)) (hin : ∀ w ∈ u_ws Cn T N, w ∈ Ts) (k : Nat) (hk : k < N) (hlink : Cond.fieldLink own index ref (T k).2.1 (T k).2.2.1 ∈ Ts) (hs : (T k).1 = ref) (hfin : (T k).2.2.2 = true) (hin2 : meth.name = "<init>") (hdecl : (T k).1 = own) {ty : FieldType} (hd : parseFieldDescriptor (T k).2.2.1 = some ty) (hn : narrow ty v = v) (hfit : fits ty v = true) (hl : k < fs.length) (hdg : decode cc pc = .ok (.putfield index, 3))
    {fs' : List Value} (hfs : fs.set k v = fs')
    (kk : ∀ (H1 : Heap) (locs1 : List Loc), pW D A H0 (S.1, va_up S.2 a (.inr (ci, fs'))) H1 locs1 → W p l e R s m args below meth c H1 locs1 cells slots Q (F0 m (pc + 3) ls rest)) : W p l e R s m args below meth c H locs cells slots Q (F0 m pc ls (v :: .ref a :: rest)) := by
  subst hfs
  obtain ⟨k0, hk0'⟩ := va_pl_get (X := []) (f := S.2) hL
  have hk0 := hk0'
  rw [hf] at hk0
  refine va_putF C.1 C.2.1 C.2.2.2.2.1 hin ty0 hty hnm C.2.2.2.1 C.2.2.2.2.2.1 hw.1 hw.2.1 hw.2.2 k0 hk0 hc k hk (C.2.2.2.2.1 _ hlink) (fun _ h9 => by rw [← hs]; exact h9) hfin hin2 hdecl hd hn hfit hl hdg (fun H1 locs1 hP hD hS => ?_)
  have he := va_pl_set (X := []) (e := .inr (ci, fs.set k v)) hw.2.1 hL hk0'
  simp only [List.nil_append] at he
  exact kk H1 locs1 ⟨Eq.mp (congrArg (fun w => va_P D vwCl w H1) he) hP, Eq.mp (congrArg (va_D A) he) hD, hS⟩
/-- int arrays: read, write, length -/
theorem p_ald (C : pC p s m args c cc nL own Ts D cy) (hw : pW D A H0 S H locs) {cA : ClassId} (t0 : Nat) (ht : (pTy cy)[t0]? = some (cA, .int)) {n : Nat} {g : Nat → Int32} (hL : a ∈ S.1) (hf : S.2 a = .inl (cA, n, .inl g)) {j : Nat} (hj : j < n) (hn : n < 2 ^ 31) (hdg : decode cc pc = .ok (.iaload, 1))
    (kk : W p l e R s m args below meth c H locs cells slots Q (F0 m (pc + 1) ls (.int (g j) :: rest))) : W p l e R s m args below meth c H locs cells slots Q (F0 m pc ls (.int (nI j) :: .ref a :: rest)) := by
  obtain ⟨k0, hk0⟩ := va_pl_get (X := []) (f := S.2) hL
  rw [hf] at hk0
  refine va_iald C.1 C.2.1 C.2.2.2.2.2.1 hw.1 k0 t0 hk0 ht (vp_in_nI hj hn) hdg ?_
  rw [nI_clamp (Nat.lt_trans hj hn)]
  exact kk
theorem p_ast (C : pC p s m args c cc nL own Ts D cy) (hw : pW D A H0 S H locs) {cA : ClassId} (t0 : Nat) (ht : (pTy cy)[t0]? = some (cA, .int)) {n : Nat} {g : Nat → Int32} (hL : a ∈ S.1) (hf : S.2 a = .inl (cA, n, .inl g)) {j : Nat} {x : Int32} (hj : j < n) (hn : n < 2 ^ 31) (hdg : decode cc pc = .ok (.iastore, 1))
    (kk : ∀ (H1 : Heap) (locs1 : List Loc), pW D A H0 (S.1, va_up S.2 a (.inl (cA, n, .inl (upd g j x)))) H1 locs1 → W p l e R s m args below meth c H1 locs1 cells slots Q (F0 m (pc + 1) ls rest)) : W p l e R s m args below meth c H locs cells slots Q (F0 m pc ls (.int x :: .int (nI j) :: .ref a :: rest)) := by
  obtain ⟨k0, hk0'⟩ := va_pl_get (X := []) (f := S.2) hL
  have hk0 := hk0'
  rw [hf] at hk0
  refine va_iast C.1 C.2.1 C.2.2.2.2.2.1 hw.1 hw.2.1 hw.2.2 k0 t0 hk0 ht (vp_in_nI hj hn) hdg (fun H1 locs1 hP hD hS => ?_)
  rw [nI_clamp (Nat.lt_trans hj hn)] at hP hD
  have he := va_pl_set (X := []) (e := .inl (cA, n, .inl (upd g j x))) hw.2.1 hL hk0'
  simp only [List.nil_append] at he
  exact kk H1 locs1 ⟨Eq.mp (congrArg (fun w => va_P D vwCl w H1) he) hP, Eq.mp (congrArg (va_D A) he) hD, hS⟩
theorem p_len (C : pC p s m args c cc nL own Ts D cy) (hw : pW D A H0 S H locs) {cA : ClassId} {x : vp_A} (t0 : Nat) {ty : FieldType} (ht : (pTy cy)[t0]? = some (cA, ty)) (hL : a ∈ S.1) (hf : S.2 a = .inl (cA, x)) (hdg : decode cc pc = .ok (.arraylength, 1))
    (kk : W p l e R s m args below meth c H locs cells slots Q (F0 m (pc + 1) ls (.int (nI x.1) :: rest))) : W p l e R s m args below meth c H locs cells slots Q (F0 m pc ls (.ref a :: rest)) := by
  obtain ⟨k0, hk0⟩ := va_pl_get (X := []) (f := S.2) hL
  rw [hf] at hk0
  exact va_alen C.1 C.2.1 C.2.2.2.2.2.1 hw.1 k0 t0 hk0 ht rfl hdg kk
/-- arrays of references -/
theorem p_aldq (C : pC p s m args c cc nL own Ts D cy) (hw : pW D A H0 S H locs) {cA : ClassId} {Cn : String} (t0 : Nat) (ht : (pTy cy)[t0]? = some (cA, .object Cn)) {n : Nat} {g : Nat → Option Nat} (hL : a ∈ S.1) (hf : S.2 a = .inl (cA, n, .inr (.inr (.inr (.inr g))))) {j : Nat} (hj : j < n) (hn : n < 2 ^ 31) {r : Option Nat} (hr : g j = r) (hdg : decode cc pc = .ok (.aaload, 1))
    (kk : W p l e R s m args below meth c H locs cells slots Q (F0 m (pc + 1) ls (va_rf r :: rest))) : W p l e R s m args below meth c H locs cells slots Q (F0 m pc ls (.int (nI j) :: .ref a :: rest)) := by
  subst hr
  obtain ⟨k0, hk0⟩ := va_pl_get (X := []) (f := S.2) hL
  rw [hf] at hk0
  refine va_aldq C.1 C.2.1 C.2.2.2.2.2.1 hw.1 k0 t0 hk0 ht (vp_in_nI hj hn) hdg ?_
  rw [nI_clamp (Nat.lt_trans hj hn)]
  exact kk
theorem p_astqN (C : pC p s m args c cc nL own Ts D cy) (hw : pW D A H0 S H locs) {cA : ClassId} {Cn : String} (t0 : Nat) (ht : (pTy cy)[t0]? = some (cA, .object Cn)) {n : Nat} {g : Nat → Option Nat} (hL : a ∈ S.1) (hf : S.2 a = .inl (cA, n, .inr (.inr (.inr (.inr g))))) {j : Nat} (hj : j < n) (hn : n < 2 ^ 31) (hdg : decode cc pc = .ok (.aastore, 1))
    (kk : ∀ (H1 : Heap) (locs1 : List Loc), pW D A H0 (S.1, va_up S.2 a (.inl (cA, n, .inr (.inr (.inr (.inr (va_up g j none))))))) H1 locs1 → W p l e R s m args below meth c H1 locs1 cells slots Q (F0 m (pc + 1) ls rest)) : W p l e R s m args below meth c H locs cells slots Q (F0 m pc ls (.null :: .int (nI j) :: .ref a :: rest)) := by
  obtain ⟨k0, hk0'⟩ := va_pl_get (X := []) (f := S.2) hL
  have hk0 := hk0'
  rw [hf] at hk0
  refine va_astqN C.1 C.2.1 C.2.2.2.2.2.1 hw.1 hw.2.1 hw.2.2 k0 t0 hk0 ht (vp_in_nI hj hn) hdg (fun H1 locs1 hP hD hS => ?_)
  rw [nI_clamp (Nat.lt_trans hj hn)] at hP hD
  have he := va_pl_set (X := []) (e := .inl (cA, n, .inr (.inr (.inr (.inr (va_up g j none)))))) hw.2.1 hL hk0'
  simp only [List.nil_append] at he
  exact kk H1 locs1 ⟨Eq.mp (congrArg (fun w => va_P D vwCl w H1) he) hP, Eq.mp (congrArg (va_D A) he) hD, hS⟩
theorem p_astq (C : pC p s m args c cc nL own Ts D cy) (hw : pW D A H0 S H locs) {cA : ClassId} {Cn : String} (t0 : Nat) (ht : (pTy cy)[t0]? = some (cA, .object Cn)) {n : Nat} {g : Nat → Option Nat} (hL : a ∈ S.1) (hf : S.2 a = .inl (cA, n, .inr (.inr (.inr (.inr g))))) {j v ci N : Nat} {T : u_T} {vs : List Value} (hLv : v ∈ S.1) (hv : S.2 v = .inr (ci, vs)) (hc : vwCl[ci]? = some (Cn, T, N)) (hj : j < n) (hn : n < 2 ^ 31) (hdg : decode cc pc = .ok (.aastore, 1))
    (kk : ∀ (H1 : Heap) (locs1 : List Loc), pW D A H0 (S.1, va_up S.2 a (.inl (cA, n, .inr (.inr (.inr (.inr (va_up g j (some v)))))))) H1 locs1 → W p l e R s m args below meth c H1 locs1 cells slots Q (F0 m (pc + 1) ls rest)) : W p l e R s m args below meth c H locs cells slots Q (F0 m pc ls (.ref v :: .int (nI j) :: .ref a :: rest)) := by
  obtain ⟨k0, hk0'⟩ := va_pl_get (X := []) (f := S.2) hL
  have hk0 := hk0'
  rw [hf] at hk0
  obtain ⟨k1, hk1⟩ := va_pl_get (X := []) (f := S.2) hLv
  rw [hv] at hk1
  refine va_astq C.1 C.2.1 C.2.2.2.2.2.1 hw.1 hw.2.1 hw.2.2 k0 t0 k1 ci hk0 (r := (Cn, T, N)) ht hk1 hc (vp_in_nI hj hn) hdg (fun H1 locs1 hP hD hS => ?_)
  rw [nI_clamp (Nat.lt_trans hj hn)] at hP hD
  have he := va_pl_set (X := []) (e := .inl (cA, n, .inr (.inr (.inr (.inr (va_up g j (some v))))))) hw.2.1 hL hk0'
  simp only [List.nil_append] at he
  exact kk H1 locs1 ⟨Eq.mp (congrArg (fun w => va_P D vwCl w H1) he) hP, Eq.mp (congrArg (va_D A) he) hD, hS⟩
/-- a reference to a thing of another class that may stand there -/
theorem p_astqO (C : pC p s m args c cc nL own Ts D cy) (hw : pW D A H0 S H locs) {cA : ClassId} {E Cn : String} (t0 : Nat) (ht : (pTy cy)[t0]? = some (cA, .object E)) {n : Nat} {g : Nat → Option Nat} (hL : a ∈ S.1) (hf : S.2 a = .inl (cA, n, .inr (.inr (.inr (.inr g))))) {j v ci N : Nat} {T : u_T} {vs : List Value} (hLv : v ∈ S.1) (hv : S.2 v = .inr (ci, vs)) (hc : vwCl[ci]? = some (Cn, T, N)) (hca : va_Nw (.castable Cn E) s) (hj : j < n) (hn : n < 2 ^ 31) (hdg : decode cc pc = .ok (.aastore, 1))
    (kk : ∀ (H1 : Heap) (locs1 : List Loc), pW D A H0 (S.1, va_up S.2 a (.inl (cA, n, .inr (.inr (.inr (.inr (va_up g j (some v)))))))) H1 locs1 → W p l e R s m args below meth c H1 locs1 cells slots Q (F0 m (pc + 1) ls rest)) : W p l e R s m args below meth c H locs cells slots Q (F0 m pc ls (.ref v :: .int (nI j) :: .ref a :: rest)) := by
  obtain ⟨k0, hk0'⟩ := va_pl_get (X := []) (f := S.2) hL
  have hk0 := hk0'
  rw [hf] at hk0
  obtain ⟨k1, hk1⟩ := va_pl_get (X := []) (f := S.2) hLv
  rw [hv] at hk1
  refine va_astqO C.1 C.2.1 C.2.2.2.2.2.1 hw.1 hw.2.1 hw.2.2 k0 t0 k1 ci hk0 ht hca hk1 (r := (Cn, T, N)) hc (vp_in_nI hj hn) hdg (fun H1 locs1 hP hD hS => ?_)
  rw [nI_clamp (Nat.lt_trans hj hn)] at hP hD
  have he := va_pl_set (X := []) (e := .inl (cA, n, .inr (.inr (.inr (.inr (va_up g j (some v))))))) hw.2.1 hL hk0'
  simp only [List.nil_append] at he
  exact kk H1 locs1 ⟨Eq.mp (congrArg (fun w => va_P D vwCl w H1) he) hP, Eq.mp (congrArg (va_D A) he) hD, hS⟩
/-- making an object, making an array of ints -/
theorem p_new (C : pC p s m args c cc nL own Ts D cy) (hw : pW D A H0 S H locs) (hA : ∀ q, H0.size ≤ q → A q) {Cn : String} {T : u_T} {N ci index : Nat} (ty0 : Nat → FieldType) (hty : ∀ k, k < N → parseFieldDescriptor (T k).2.2.1 = some (ty0 k)) (hc : vwCl[ci]? = some (Cn, T, N)) (hin : ∀ w ∈ u_ws Cn T N, w ∈ Ts) (hcl : Cond.classLink own index Cn ∈ Ts) (hinst : Cond.instantiable Cn N ∈ Ts) (hini : Cond.initialized Cn ∈ Ts) {fs : List Value} (hfs : ∀ j, j < N → defaultValue (ty0 j) = vp_V fs j) (hcells : cells + 1 ≤ R.cells) (hslots : slots + N ≤ R.slots) (hdg : decode cc pc = .ok (.new index, 3))
    (kk : ∀ (q : Nat) (H1 : Heap), q ∉ S.1 → pW D A H0 (S.1 ++ [q], va_up S.2 q (.inr (ci, fs))) H1 locs → W p l e R s m args below meth c H1 locs (cells + 1) (slots + N) Q (F0 m (pc + 3) ls (.ref q :: rest))) : W p l e R s m args below meth c H locs cells slots Q (F0 m pc ls rest) := by
  refine va_new C.1 C.2.1 C.2.2.2.2.1 hin ty0 hty C.2.2.2.1 (C.2.2.2.2.1 _ hcl) (C.2.2.2.2.1 _ hinst) (C.2.2.2.2.1 _ hini) C.2.2.2.2.2.1 hw.1 hw.2.1 hw.2.2 hA hc hfs hcells hslots hdg (fun q H1 hP hD hS => ?_)
  have hq : q ∉ S.1 := va_pl_fresh2 (X := []) hD
  have he := va_pl_push (f := S.2) (e := .inr (ci, fs)) hq
  exact kk q H1 hq ⟨Eq.mp (congrArg (fun w => va_P D vwCl w H1) he) hP, Eq.mp (congrArg (va_D A) he) hD, hS⟩
theorem pK_arr {ty : FieldType} (hK : va_K D vwCl (pTy cy) s) {cA cB : ClassId} (t0 : Nat) (ht : (pTy cy)[t0]? = some (cA, ty)) (hK2 : va_K D vwCl (pTy cy ++ [(cB, ty)]) s) : cB = cA := by
  have h1 := (hK.2 t0 _ ht).2
  have h2 := (hK2.2 (pTy cy).length (cB, ty) (by simp)).2
  have e1 : s.vm.findClass ("[" ++ ty.toString) = some cA := by
    cases ty <;> first | exact h1 | exact h1.choose_spec.choose_spec.2.2.2
  have e2 : s.vm.findClass ("[" ++ ty.toString) = some cB := by
    cases ty <;> first | exact h2 | exact h2.choose_spec.choose_spec.2.2.2
  exact Option.some.inj (e2.symm.trans e1)
theorem p_newa (C : pC p s m args c cc nL own Ts D cy) (hw : pW D A H0 S H locs) (hA : ∀ q, H0.size ≤ q → A q) (harr : Cond.arrayClass .int ∈ Ts) {cA : ClassId} (t0 : Nat) (ht : (pTy cy)[t0]? = some (cA, .int)) {n : Nat} (hn : n < 2 ^ 27) (hcells : cells + 1 ≤ R.cells) (hslots : slots + n ≤ R.slots) (hdg : decode cc pc = .ok (.newarray .int, 2))
    (kk : ∀ (q : Nat) (H1 : Heap), q ∉ S.1 → pW D A H0 (S.1 ++ [q], va_up S.2 q (.inl (cA, n, .inl (fun _ => 0)))) H1 locs → W p l e R s m args below meth c H1 locs (cells + 1) (slots + n) Q (F0 m (pc + 2) ls (.ref q :: rest))) : W p l e R s m args below meth c H locs cells slots Q (F0 m pc ls (.int (nI n) :: rest)) := by
  refine va_newa (atype := .int) (a0 := (n, .inl (fun _ => 0))) C.1 C.2.1 (C.2.2.2.2.1 _ harr) rfl C.2.2.2.2.2.1 hw.1 hw.2.1 hw.2.2 hA (fun _ => rfl) (nI_pos (by omega)) (nI_clamp (by omega)) (by show n * 4 ≤ 536870912; omega) hcells hslots hdg (fun q cB H1 hK2 hP hD hS => ?_)
  have hc := pK_arr C.2.2.2.2.2.1 t0 ht hK2
  subst hc
  have hq : q ∉ S.1 := va_pl_fresh2 (X := []) hD
  have he := va_pl_push (f := S.2) (e := .inl (cB, n, .inl (fun _ => 0))) hq
  exact kk q H1 hq ⟨Eq.mp (congrArg (fun w => va_P D vwCl w H1) he) hP, Eq.mp (congrArg (va_D A) he) hD, hS⟩
theorem p_newq (C : pC p s m args c cc nL own Ts D cy) (hw : pW D A H0 S H locs) (hA : ∀ q, H0.size ≤ q → A q) {Cn : String} {index : Nat} (hcl : Cond.classLink own index Cn ∈ Ts) (hover : va_AO Cn s) {cA : ClassId} (t0 : Nat) (ht : (pTy cy)[t0]? = some (cA, .object Cn)) {n : Nat} (hn : n < 2 ^ 27) (hcells : cells + 1 ≤ R.cells) (hslots : slots + n ≤ R.slots) (hdg : decode cc pc = .ok (.anewarray index, 3))
    (kk : ∀ (q : Nat) (H1 : Heap), q ∉ S.1 → pW D A H0 (S.1 ++ [q], va_up S.2 q (.inl (cA, n, .inr (.inr (.inr (.inr (fun _ => none))))))) H1 locs → W p l e R s m args below meth c H1 locs (cells + 1) (slots + n) Q (F0 m (pc + 3) ls (.ref q :: rest))) : W p l e R s m args below meth c H locs cells slots Q (F0 m pc ls (.int (nI n) :: rest)) := by
  refine va_newq C.1 C.2.1 C.2.2.2.1 (C.2.2.2.2.1 _ hcl) hover C.2.2.2.2.2.1 hw.1 hw.2.1 hw.2.2 hA (nI_pos (by omega)) (nI_clamp (by omega)) (by omega) hcells hslots hdg (fun q cB H1 hK2 hP hD hS => ?_)
  have hc := pK_arr C.2.2.2.2.2.1 t0 ht hK2
  subst hc
  have hq : q ∉ S.1 := va_pl_fresh2 (X := []) hD
  have he := va_pl_push (f := S.2) (e := .inl (cB, n, .inr (.inr (.inr (.inr (fun _ => none)))))) hq
  exact kk q H1 hq ⟨Eq.mp (congrArg (fun w => va_P D vwCl w H1) he) hP, Eq.mp (congrArg (va_D A) he) hD, hS⟩
/-- calls: what comes back -/
theorem p_calli {st0 : List Value} {mc ms : Nat} {av : Array Value} {post : Int32 → pS → Prop} (hr : va_Run p l e R s m args below meth c H locs cells slots mc ms (F0 m pc ls st0) rest (pQi D cy S H.size post av) (pA S H.size)) (hw : pW D A H0 S H locs) (hA : ∀ q, H0.size ≤ q → A q)
    (kk : ∀ (r : Int32) (S' : pS) (H1 : Heap) (locs1 : List Loc), post r S' → pW D A H0 S' H1 locs1 → W p l e R s m args below meth c H1 locs1 (cells + mc) (slots + ms) Q (F0 m (pc + 3) ls (.int r :: rest))) : W p l e R s m args below meth c H locs cells slots Q (F0 m pc ls st0) :=
  va_calli hr hw.2.2 (fun q _ h => pA.in hw hA q h) (pA.in hw hA) (fun r u t H1 locs1 ht _ hp hB _ _ hS => kk r u H1 locs1 hp ⟨by rw [← ht]; exact hB.1, hB.2.2.weaken (fun _ _ _ h => pA.in hw hA _ h), hS⟩)
theorem p_calll {st0 : List Value} {mc ms : Nat} {av : Array Value} {post : Int64 → pS → Prop} (hr : va_Run p l e R s m args below meth c H locs cells slots mc ms (F0 m pc ls st0) rest (pQl D cy S H.size post av) (pA S H.size)) (hw : pW D A H0 S H locs) (hA : ∀ q, H0.size ≤ q → A q)
    (kk : ∀ (r : Int64) (S' : pS) (H1 : Heap) (locs1 : List Loc), post r S' → pW D A H0 S' H1 locs1 → W p l e R s m args below meth c H1 locs1 (cells + mc) (slots + ms) Q (F0 m (pc + 3) ls (.long r :: rest))) : W p l e R s m args below meth c H locs cells slots Q (F0 m pc ls st0) :=
  va_calll hr hw.2.2 (fun q _ h => pA.in hw hA q h) (pA.in hw hA) (fun r u t H1 locs1 ht _ hp hB _ _ hS => kk r u H1 locs1 hp ⟨by rw [← ht]; exact hB.1, hB.2.2.weaken (fun _ _ _ h => pA.in hw hA _ h), hS⟩)
theorem p_callv {st0 : List Value} {mc ms : Nat} {av : Array Value} {post : pS → Prop} (hr : va_Run p l e R s m args below meth c H locs cells slots mc ms (F0 m pc ls st0) rest (pQv D cy S H.size post av) (pA S H.size)) (hw : pW D A H0 S H locs) (hA : ∀ q, H0.size ≤ q → A q)
    (kk : ∀ (S' : pS) (H1 : Heap) (locs1 : List Loc), post S' → pW D A H0 S' H1 locs1 → W p l e R s m args below meth c H1 locs1 (cells + mc) (slots + ms) Q (F0 m (pc + 3) ls rest)) : W p l e R s m args below meth c H locs cells slots Q (F0 m pc ls st0) :=
  va_callv hr hw.2.2 (fun q _ h => pA.in hw hA q h) (pA.in hw hA) (fun u t H1 locs1 ht _ hp hB _ _ hS => kk u H1 locs1 hp ⟨by rw [← ht]; exact hB.1, hB.2.2.weaken (fun _ _ _ h => pA.in hw hA _ h), hS⟩)
theorem p_callq {st0 : List Value} {mc ms : Nat} {av : Array Value} {post : Option Nat → pS → Prop} (hr : va_Run p l e R s m args below meth c H locs cells slots mc ms (F0 m pc ls st0) rest (pQq D cy S H.size post av) (pA S H.size)) (hw : pW D A H0 S H locs) (hA : ∀ q, H0.size ≤ q → A q)
    (kk : ∀ (r : Option Nat) (S' : pS) (H1 : Heap) (locs1 : List Loc), post r S' → pW D A H0 S' H1 locs1 → W p l e R s m args below meth c H1 locs1 (cells + mc) (slots + ms) Q (F0 m (pc + 3) ls (va_rf r :: rest))) : W p l e R s m args below meth c H locs cells slots Q (F0 m pc ls st0) :=
  va_callq hr hw.2.2 (fun q _ h => pA.in hw hA q h) (pA.in hw hA) (fun r u t H1 locs1 ht _ hp hB _ _ hS => kk r u H1 locs1 hp ⟨by rw [← ht]; exact hB.1, hB.2.2.weaken (fun _ _ _ h => pA.in hw hA _ h), hS⟩)
/-- what a callee finds -/
theorem p_preS (C : pC p s m args c cc nL own Ts D cy) (hw : pW D A H0 S H locs) {av : List Value} : PreS s H (pPc D cy S H.size av) av :=
  ⟨pPc.blind, fun U hU hW => ⟨rfl, by rw [hU], by rw [hU]; exact hw.1, C.2.2.2.2.2.warm hW, hw.2.1.weaken (fun _ _ _ _ => trivial)⟩⟩
theorem p_preV (C : pC p s m args c cc nL own Ts D cy) (hw : pW D A H0 S H locs) {Cn : String} {T : u_T} {N ci : Nat} {fs As : List Value} (hL : a ∈ S.1) (hf : S.2 a = .inr (ci, fs)) (hc : vwCl[ci]? = some (Cn, T, N)) : PreV s H Cn a (pPc D cy S H.size (.ref a :: As)) As := by
  obtain ⟨k0, hk0⟩ := va_pl_get (X := []) (f := S.2) hL
  rw [hf] at hk0
  exact ⟨pPc.blind, va_recv C.2.2.2.2.2.1 hw.1 hc hk0, fun U hU hW => ⟨rfl, by rw [hU], by rw [hU]; exact hw.1, C.2.2.2.2.2.warm hW, hw.2.1.weaken (fun _ _ _ _ => trivial)⟩⟩
/-- a method's ends -/
theorem p_iret (C : pC p s m args c cc nL own Ts D cy) {S0 : pS} (hw : pW D (pA S0 s.heap.size) s.heap S H locs) {post : Int32 → pS → Prop} {v : Int32} (hpost : post v S) (hr : meth.sig.returnType = some .int) (hlocks : meth.locks = false) (hdg : decode cc pc = .ok (.ireturn, 1)) : W p l e R s m args below meth c H locs cells slots (MQ below (pQi D cy S0 s.heap.size post) args s cells slots (pA S0 s.heap.size)) (F0 m pc ls [.int v]) :=
  W.iret (v := v) C.1 C.2.1 hr (fun t ht hW => ⟨⟨v, S, rfl, hpost, by rw [ht]; exact hw.1, C.2.2.2.2.2.warm hW, hw.2.1⟩, hw.2.2.F ht⟩) hw.2.2.2.2 hdg
theorem p_lret (C : pC p s m args c cc nL own Ts D cy) {S0 : pS} (hw : pW D (pA S0 s.heap.size) s.heap S H locs) {post : Int64 → pS → Prop} {v : Int64} (hpost : post v S) (hr : meth.sig.returnType = some .long) (hlocks : meth.locks = false) (hdg : decode cc pc = .ok (.lreturn, 1)) : W p l e R s m args below meth c H locs cells slots (MQ below (pQl D cy S0 s.heap.size post) args s cells slots (pA S0 s.heap.size)) (F0 m pc ls [.long v]) :=
  W.lret (v := v) C.1 C.2.1 hr (fun t ht hW => ⟨⟨v, S, rfl, hpost, by rw [ht]; exact hw.1, C.2.2.2.2.2.warm hW, hw.2.1⟩, hw.2.2.F ht⟩) hw.2.2.2.2 hdg
theorem p_vret (C : pC p s m args c cc nL own Ts D cy) {S0 : pS} (hw : pW D (pA S0 s.heap.size) s.heap S H locs) {post : pS → Prop} (hpost : post S) (hr : meth.sig.returnType = none) (hlocks : meth.locks = false) (hdg : decode cc pc = .ok (.return_, 1)) : W p l e R s m args below meth c H locs cells slots (MQ below (pQv D cy S0 s.heap.size post) args s cells slots (pA S0 s.heap.size)) (F0 m pc ls []) :=
  W.vret C.1 C.2.1 hr (fun t ht hW => ⟨⟨S, rfl, hpost, by rw [ht]; exact hw.1, C.2.2.2.2.2.warm hW, hw.2.1⟩, hw.2.2.F ht⟩) hw.2.2.2.2 hdg
/-- the start of a method's walk -/
theorem p_start {cy : Nat → ClassId} {y : MethodName} {ws : List Cond} {rm : Room} {maxL : Nat} {ret : Option FieldType} {s₁ : State} {av : List Value} {sz : Nat} (B : BodyLoose p l y (headSpec ws rm) cc maxL ret e s m args below meth c s₁) (hml : c.maxLocals = maxL) (hv : pPc D cy S sz av args s) :
    args = av.toArray ∧ sz = s.heap.size ∧ pC p s m args c cc maxL y.cls ws D cy ∧ pW D (pA S s.heap.size) s.heap S s.heap [] ∧ (∀ q, s.heap.size ≤ q → pA S s.heap.size q) ∧ meth.sig.returnType = ret ∧ meth.locks = false := by
  obtain ⟨h0, hsz, hP, hK, hD0⟩ := hv
  refine ⟨h0, hsz.symm, ⟨B.exec, B.bytes, hml, findClass_of_methodNamed B.named, atoms_spec (ws := ws) B.pre, hK⟩, ⟨hP, hD0.self, va_S.rf⟩, fun q h => Or.inr h, B.returns, B.notSynchronized⟩
end PL
