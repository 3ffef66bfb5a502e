/-! rows of the walk on a fresh object: ints as integers, what lies outside the pool, throws and their catching -/
theorem mU {x w : Cond} (h : w ∈ lwU) : w ∈ x :: lwU := List.mem_cons_of_mem _ h
theorem gU_sub {x : Cond} {ws : List Cond} (h : ∀ w ∈ ws, w ∈ lwU) : GoodIn (x :: lwU) ws := fun w hw => ⟨List.mem_cons_of_mem _ (h w hw), good_of_word (List.all_eq_true.mp lwU_good w (h w hw))⟩
theorem sub_cU {w : Cond} {ws : List Cond} (h : w ∈ lwU) (h2 : ∀ v ∈ ws, v ∈ lwU) : ∀ v ∈ w :: ws, v ∈ lwU := fun v hv => (List.mem_cons.mp hv).elim (fun e => e ▸ h) (h2 v)
theorem subU {w : Cond} (h : w ∈ lwU) : ∀ v ∈ w :: lwU, v ∈ lwU := sub_cU h (fun _ h => h)
theorem gU_V {x : Cond} {own C : String} {idx : Nat} {y : MethodName} {ws : List Cond} (h1 : Cond.methodLink own idx y ∈ lwU) (h2 : Cond.instanceMethod y ∈ lwU) (h3 : Cond.selects C y y ∈ lwU) (h4 : Cond.initialized C ∈ lwU) (h : ∀ w ∈ ws, w ∈ lwU) : GoodIn (x :: lwU) (wsV own idx C y ws) := gU_sub (sub_cU h1 (sub_cU h2 (sub_cU h3 (sub_cU h4 h))))
theorem gU_S {x : Cond} {own : String} {idx : Nat} {y : MethodName} {ws : List Cond} (h1 : Cond.methodLink own idx y ∈ lwU) (h2 : Cond.static y ∈ lwU) (h3 : Cond.initialized y.cls ∈ lwU) (h : ∀ w ∈ ws, w ∈ lwU) : GoodIn (x :: lwU) (va_wsS own idx y ws) := gU_sub (sub_cU h1 (sub_cU h2 (sub_cU h3 h)))
theorem gU_U {z : Cond} {own C owner : String} {idx : Nat} {x y : MethodName} {ws : List Cond} (h1 : Cond.methodLink own idx x ∈ lwU) (h2 : Cond.sameMethod x.cls owner x.name x.desc ∈ lwU) (h3 : Cond.selects C x y ∈ lwU) (h4 : Cond.instanceMethod y ∈ lwU) (h5 : Cond.initialized y.cls ∈ lwU) (h : ∀ w ∈ ws, w ∈ lwU) : GoodIn (z :: lwU) (va_wsU own idx C owner x y ws) := gU_sub (sub_cU h1 (sub_cU h2 (sub_cU h3 (sub_cU h4 (sub_cU h5 h)))))
section ZR
variable {p : Program} {l : Launch} {e : Env} {R : Room} {s : State} {m : MethodId} {args : Array Value} {below : List Frame} {meth : Method} {c : Code} {H : Heap} {locs : List Loc} {cells slots : Nat} {Q : State → Prop}
variable {cc : ByteArray} {pc : Nat} {ls : Array Slot} {rest : List Value} {a b : Int32} {A B : Int} {off : Int} {tgt : Nat}
theorem z_icmp_lt (hx : p.tables.exec = Jvm.exec) (hb : c.code = cc) (ha : a.toInt = A) (hb2 : b.toInt = B) (hdg : decode cc pc = .ok (.if_icmp .lt off, 3)) (ht : (pc : Int) + off = (tgt : Int)) (kt : A < B → W p l e R s m args below meth c H locs cells slots Q (F0 m tgt ls rest)) (kf : B ≤ A → W p l e R s m args below meth c H locs cells slots Q (F0 m (pc + 3) ls rest)) : W p l e R s m args below meth c H locs cells slots Q (F0 m pc ls (.int b :: .int a :: rest)) := by
  subst ha; subst hb2
  exact lv_icmp_lt hx hb hdg ht (fun h => kt (Int32.lt_iff_toInt_lt.mp h)) (fun h => kf (Int.not_lt.mp fun q => h (Int32.lt_iff_toInt_lt.mpr q)))
theorem z_icmp_gt (hx : p.tables.exec = Jvm.exec) (hb : c.code = cc) (ha : a.toInt = A) (hb2 : b.toInt = B) (hdg : decode cc pc = .ok (.if_icmp .gt off, 3)) (ht : (pc : Int) + off = (tgt : Int)) (kt : B < A → W p l e R s m args below meth c H locs cells slots Q (F0 m tgt ls rest)) (kf : A ≤ B → W p l e R s m args below meth c H locs cells slots Q (F0 m (pc + 3) ls rest)) : W p l e R s m args below meth c H locs cells slots Q (F0 m pc ls (.int b :: .int a :: rest)) := by
  subst ha; subst hb2
  exact lv_icmp_gt hx hb hdg ht (fun h => kt (Int32.lt_iff_toInt_lt.mp h)) (fun h => kf (Int.not_lt.mp fun q => h (Int32.lt_iff_toInt_lt.mpr q)))
theorem z_icmp_ge (hx : p.tables.exec = Jvm.exec) (hb : c.code = cc) (ha : a.toInt = A) (hb2 : b.toInt = B) (hdg : decode cc pc = .ok (.if_icmp .ge off, 3)) (ht : (pc : Int) + off = (tgt : Int)) (kt : B ≤ A → W p l e R s m args below meth c H locs cells slots Q (F0 m tgt ls rest)) (kf : A < B → W p l e R s m args below meth c H locs cells slots Q (F0 m (pc + 3) ls rest)) : W p l e R s m args below meth c H locs cells slots Q (F0 m pc ls (.int b :: .int a :: rest)) := by
  subst ha; subst hb2
  exact lv_icmp_ge hx hb hdg ht (fun h => kt (Int32.le_iff_toInt_le.mp h)) (fun h => kf (Int.not_le.mp fun q => h (Int32.le_iff_toInt_le.mpr q)))
theorem z_icmp_le (hx : p.tables.exec = Jvm.exec) (hb : c.code = cc) (ha : a.toInt = A) (hb2 : b.toInt = B) (hdg : decode cc pc = .ok (.if_icmp .le off, 3)) (ht : (pc : Int) + off = (tgt : Int)) (kt : A ≤ B → W p l e R s m args below meth c H locs cells slots Q (F0 m tgt ls rest)) (kf : B < A → W p l e R s m args below meth c H locs cells slots Q (F0 m (pc + 3) ls rest)) : W p l e R s m args below meth c H locs cells slots Q (F0 m pc ls (.int b :: .int a :: rest)) := by
  subst ha; subst hb2
  exact lv_icmp_le hx hb hdg ht (fun h => kt (Int32.le_iff_toInt_le.mp h)) (fun h => kf (Int.not_le.mp fun q => h (Int32.le_iff_toInt_le.mpr q)))
theorem z_icmp_eq (hx : p.tables.exec = Jvm.exec) (hb : c.code = cc) (ha : a.toInt = A) (hb2 : b.toInt = B) (hdg : decode cc pc = .ok (.if_icmp .eq off, 3)) (ht : (pc : Int) + off = (tgt : Int)) (kt : A = B → W p l e R s m args below meth c H locs cells slots Q (F0 m tgt ls rest)) (kf : A ≠ B → W p l e R s m args below meth c H locs cells slots Q (F0 m (pc + 3) ls rest)) : W p l e R s m args below meth c H locs cells slots Q (F0 m pc ls (.int b :: .int a :: rest)) := by
  subst ha; subst hb2
  exact lv_icmp_eq hx hb hdg ht (fun h => kt (congrArg Int32.toInt h)) (fun h => kf fun q => h (Int32.toInt_inj.mp q))
theorem z_icmp_ne (hx : p.tables.exec = Jvm.exec) (hb : c.code = cc) (ha : a.toInt = A) (hb2 : b.toInt = B) (hdg : decode cc pc = .ok (.if_icmp .ne off, 3)) (ht : (pc : Int) + off = (tgt : Int)) (kt : A ≠ B → W p l e R s m args below meth c H locs cells slots Q (F0 m tgt ls rest)) (kf : A = B → W p l e R s m args below meth c H locs cells slots Q (F0 m (pc + 3) ls rest)) : W p l e R s m args below meth c H locs cells slots Q (F0 m pc ls (.int b :: .int a :: rest)) := by
  subst ha; subst hb2
  exact lv_icmp_ne hx hb hdg ht (fun h => kt fun q => h (Int32.toInt_inj.mp q)) (fun h => kf (congrArg Int32.toInt h))
theorem z_if_lt (hx : p.tables.exec = Jvm.exec) (hb : c.code = cc) (ha : a.toInt = A) (hdg : decode cc pc = .ok (.ifCond .lt off, 3)) (ht : (pc : Int) + off = (tgt : Int)) (kt : A < 0 → W p l e R s m args below meth c H locs cells slots Q (F0 m tgt ls rest)) (kf : 0 ≤ A → W p l e R s m args below meth c H locs cells slots Q (F0 m (pc + 3) ls rest)) : W p l e R s m args below meth c H locs cells slots Q (F0 m pc ls (.int a :: rest)) := by
  subst ha
  exact lv_if_lt hx hb hdg ht (fun h => kt (Int32.lt_iff_toInt_lt.mp h)) (fun h => kf (Int.not_lt.mp fun q => h (Int32.lt_iff_toInt_lt.mpr q)))
theorem z_if_gt (hx : p.tables.exec = Jvm.exec) (hb : c.code = cc) (ha : a.toInt = A) (hdg : decode cc pc = .ok (.ifCond .gt off, 3)) (ht : (pc : Int) + off = (tgt : Int)) (kt : 0 < A → W p l e R s m args below meth c H locs cells slots Q (F0 m tgt ls rest)) (kf : A ≤ 0 → W p l e R s m args below meth c H locs cells slots Q (F0 m (pc + 3) ls rest)) : W p l e R s m args below meth c H locs cells slots Q (F0 m pc ls (.int a :: rest)) := by
  subst ha
  exact lv_if_gt hx hb hdg ht (fun h => kt (Int32.lt_iff_toInt_lt.mp h)) (fun h => kf (Int.not_lt.mp fun q => h (Int32.lt_iff_toInt_lt.mpr q)))
theorem z_if_ge (hx : p.tables.exec = Jvm.exec) (hb : c.code = cc) (ha : a.toInt = A) (hdg : decode cc pc = .ok (.ifCond .ge off, 3)) (ht : (pc : Int) + off = (tgt : Int)) (kt : 0 ≤ A → W p l e R s m args below meth c H locs cells slots Q (F0 m tgt ls rest)) (kf : A < 0 → W p l e R s m args below meth c H locs cells slots Q (F0 m (pc + 3) ls rest)) : W p l e R s m args below meth c H locs cells slots Q (F0 m pc ls (.int a :: rest)) := by
  subst ha
  exact lv_if_ge hx hb hdg ht (fun h => kt (Int32.le_iff_toInt_le.mp h)) (fun h => kf (Int.not_le.mp fun q => h (Int32.le_iff_toInt_le.mpr q)))
theorem z_if_le (hx : p.tables.exec = Jvm.exec) (hb : c.code = cc) (ha : a.toInt = A) (hdg : decode cc pc = .ok (.ifCond .le off, 3)) (ht : (pc : Int) + off = (tgt : Int)) (kt : A ≤ 0 → W p l e R s m args below meth c H locs cells slots Q (F0 m tgt ls rest)) (kf : 0 < A → W p l e R s m args below meth c H locs cells slots Q (F0 m (pc + 3) ls rest)) : W p l e R s m args below meth c H locs cells slots Q (F0 m pc ls (.int a :: rest)) := by
  subst ha
  exact lv_if_le hx hb hdg ht (fun h => kt (Int32.le_iff_toInt_le.mp h)) (fun h => kf (Int.not_le.mp fun q => h (Int32.le_iff_toInt_le.mpr q)))
theorem z_if_eq (hx : p.tables.exec = Jvm.exec) (hb : c.code = cc) (ha : a.toInt = A) (hdg : decode cc pc = .ok (.ifCond .eq off, 3)) (ht : (pc : Int) + off = (tgt : Int)) (kt : A = 0 → W p l e R s m args below meth c H locs cells slots Q (F0 m tgt ls rest)) (kf : A ≠ 0 → W p l e R s m args below meth c H locs cells slots Q (F0 m (pc + 3) ls rest)) : W p l e R s m args below meth c H locs cells slots Q (F0 m pc ls (.int a :: rest)) := by
  subst ha
  exact lv_if_eq hx hb hdg ht (fun h => kt (congrArg Int32.toInt h)) (fun h => kf fun q => h (Int32.toInt_inj.mp q))
theorem z_if_ne (hx : p.tables.exec = Jvm.exec) (hb : c.code = cc) (ha : a.toInt = A) (hdg : decode cc pc = .ok (.ifCond .ne off, 3)) (ht : (pc : Int) + off = (tgt : Int)) (kt : A ≠ 0 → W p l e R s m args below meth c H locs cells slots Q (F0 m tgt ls rest)) (kf : A = 0 → W p l e R s m args below meth c H locs cells slots Q (F0 m (pc + 3) ls rest)) : W p l e R s m args below meth c H locs cells slots Q (F0 m pc ls (.int a :: rest)) := by
  subst ha
  exact lv_if_ne hx hb hdg ht (fun h => kt fun q => h (Int32.toInt_inj.mp q)) (fun h => kf (congrArg Int32.toInt h))
end ZR
/-- a name for an int known to be small -/
theorem z_nat {x : Int32} (h : 0 ≤ x.toInt) : ∃ j : Nat, j < 2 ^ 31 ∧ x = nI j ∧ x.toInt = (j : Int) := by
  obtain ⟨j, hj, e⟩ := nI_of (x := x) (fun q => by have := Int32.lt_iff_toInt_lt.mp q; have e0 : (0 : Int32).toInt = 0 := rfl; omega)
  exact ⟨j, hj, e, by rw [e]; exact nI_toInt hj⟩
/-- what lies outside the pool and is only read: the script -/
def eK (A : Nat → Prop) (ed : Nat) (U : State) (H : Heap) : Prop := ∃ (L : Nat) (xs : Nat → Int32), va_X ed L xs U H ∧ ed < H.size ∧ ¬ A ed ∧ L ≤ 260
theorem eK.go {A B : Nat → Prop} {ed : Nat} {u U : State} {H H1 : Heap} (hW : u.WarmedH U.vm) (hq : ∀ a : Nat, a < H.size → ¬ A a → H1[a]? = H[a]?) (hAB : ∀ q, B q → A q) (h : eK A ed u H) : eK B ed U H1 := by
  obtain ⟨L, xs, hX, hl, hA, hL⟩ := h
  have e := hq ed hl hA
  refine ⟨L, xs, va_X.moved hW.alike (va_X.kept hX e), ?_, fun z => hA (hAB _ z), hL⟩
  obtain ⟨scr, h1, -⟩ := hX
  rw [h1] at e
  exact (Array.getElem?_eq_some_iff.mp e).1
theorem eK.same {A : Nat → Prop} {ed : Nat} {u U : State} {H : Heap} (hv : u.vm = U.vm) (h : eK A ed u H) : eK A ed U H := by
  obtain ⟨L, xs, hX, h2⟩ := h
  exact ⟨L, xs, va_X.moved (by rw [hv]; exact Vm.Alike.refl _) hX, h2⟩
def ePc (D : va_G) (cy : Nat → ClassId) (ed : Nat) (S : pS) (sz : Nat) (av : List Value) : Array Value → State → Prop := va_Pc av (fun U => (U.heap.size = sz ∧ va_P D vwCl (pL S) U.heap ∧ pK D cy U ∧ va_D (fun _ => True) (pL S)) ∧ eK (pA S sz) ed U U.heap)
theorem ePc.blind {D : va_G} {cy : Nat → ClassId} {ed : Nat} {S : pS} {sz : Nat} {av : List Value} : FrameBlind (ePc D cy ed S sz av) := fun a U g mk q => by
  obtain ⟨q0, ⟨q1, qP, qK, qD⟩, qE⟩ := q
  exact ⟨q0, ⟨q1, qP, qK.same (u := U) (U := U.calling g mk a) rfl, qD⟩, eK.same (u := U) (U := U.calling g mk a) rfl qE⟩
section XR
variable {p : Program} {l : Launch} {e : Env} {R : Room} {s : State} {m : MethodId} {args : Array Value} {below : List Frame} {meth : Method} {c : Code} {H : Heap} {locs : List Loc} {cells slots : Nat} {Q : State → Prop}
variable {cc : ByteArray} {nL : Nat} {own : String} {Ts : List Cond} {D : va_G} {cy : Nat → ClassId} {A : Nat → Prop} {S : pS} {pc : Nat} {ls : Array Slot} {rest : List Value} {a ed : Nat}
theorem e_preS (C : pC p s m args c cc nL own Ts D cy) (hw : pW D A s.heap S H locs) (hA : ∀ q, s.heap.size ≤ q → A q) (hE : eK A ed s s.heap) {av : List Value} : PreS s H (ePc D cy ed S H.size av) av :=
  ⟨ePc.blind, fun U hU hW => ⟨rfl, ⟨by rw [hU], by rw [hU]; exact hw.1, C.2.2.2.2.2.warm hW, hw.2.1.weaken (fun _ _ _ _ => trivial)⟩, eK.go hW (fun a h1 h2 => by rw [hU]; exact hw.2.2.2.1 a h1 h2) (pA.in hw hA) hE⟩⟩
theorem e_preV (C : pC p s m args c cc nL own Ts D cy) (hw : pW D A s.heap S H locs) (hA : ∀ q, s.heap.size ≤ q → A q) (hE : eK A ed s s.heap) {Cn : String} {T : u_T} {N ci : Nat} {fs As : List Value} (hL : a ∈ S.1) (hf : S.2 a = .inr (ci, fs)) (hc : vwCl[ci]? = some (Cn, T, N)) : PreV s H Cn a (ePc D cy ed S H.size (.ref a :: As)) As := by
  obtain ⟨k0, hk0⟩ := va_pl_get (X := []) (f := S.2) hL
  rw [hf] at hk0
  exact ⟨ePc.blind, va_recv C.2.2.2.2.2.1 hw.1 hc hk0, fun U hU hW => ⟨rfl, ⟨by rw [hU], by rw [hU]; exact hw.1, C.2.2.2.2.2.warm hW, hw.2.1.weaken (fun _ _ _ _ => trivial)⟩, eK.go hW (fun a h1 h2 => by rw [hU]; exact hw.2.2.2.1 a h1 h2) (pA.in hw hA) hE⟩⟩
theorem e_start {cy : Nat → ClassId} {y : MethodName} {ws : List Cond} {rm : Room} {maxL : Nat} {ret : Option FieldType} {s₁ : State} {av : List Value} {sz : Nat} (B : BodyLoose p l y (headSpec ws rm) cc maxL ret e s m args below meth c s₁) (hml : c.maxLocals = maxL) (hv : ePc D cy ed S sz av args s) :
    args = av.toArray ∧ sz = s.heap.size ∧ pC p s m args c cc maxL y.cls ws D cy ∧ pW D (pA S s.heap.size) s.heap S s.heap [] ∧ (∀ q, s.heap.size ≤ q → pA S s.heap.size q) ∧ meth.sig.returnType = ret ∧ meth.locks = false ∧ eK (pA S s.heap.size) ed s s.heap := by
  obtain ⟨h0, h1, hE⟩ := hv
  obtain ⟨e1, e2, e3, e4, e5, e6, e7⟩ := p_start B hml (show pPc D cy S sz av args s from ⟨h0, h1⟩)
  exact ⟨e1, e2, e3, e4, e5, e6, e7, by rw [e2] at hE; exact hE⟩
end XR
/-- no address twice -/
def pInj (L : List Nat) : Prop := ∀ (i j : Nat) (x : Nat), L[i]? = some x → L[j]? = some x → i = j
section PM
variable {p : Program} {l : Launch} {e : Env} {R : Room} {s : State} {m : MethodId} {args : Array Value} {below : List Frame} {meth : Method} {c : Code} {H : Heap} {locs : List Loc} {cells slots : Nat} {Q : State → Prop}
variable {cc : ByteArray} {nL : Nat} {own : String} {Ts : List Cond} {D : va_G} {cy : Nat → ClassId} {A : Nat → Prop} {H0 : Heap} {S : pS} {pc : Nat} {ls : Array Slot} {rest : List Value} {a : Nat}
theorem pC.nst (C : pC p s m args c cc nL own Ts D cy) : ∀ (k : Nat) (q : String × Nat × MethodName), pNest[k]? = some q → va_Nw (.methodLinkNest q.1 q.2.1 q.2.2 "SoundingLine") s := C.2.2.2.2.2.2.1
theorem pC.aoR (C : pC p s m args c cc nL own Ts D cy) : va_AO "SoundingLine$Row" s := C.2.2.2.2.2.2.2.1
theorem pC.aoS (C : pC p s m args c cc nL own Ts D cy) : va_AO "SoundingLine$Stage" s := C.2.2.2.2.2.2.2.2.1
theorem pC.dcl (C : pC p s m args c cc nL own Ts D cy) : ∀ (k : Nat) (q : MethodName), pDcl[k]? = some q → va_Nw (.declares q) s := C.2.2.2.2.2.2.2.2.2.2
theorem p_seti (hw : pW D A H0 S H locs) {k0 : Nat} {x0 x : va_E} (hL : a ∈ S.1) (hk0 : (pL S)[k0]? = some (a, x0)) {H1 : Heap} {locs1 : List Loc} (hP : va_P D vwCl ((pL S).set k0 (a, x)) H1) (hD : va_D A ((pL S).set k0 (a, x))) (hS : va_S A H0 H1 locs1) : pW D A H0 (S.1, va_up S.2 a x) H1 locs1 := by
  have hs : x0 = S.2 a := by
    have h9 : (S.1.map (fun b => (b, S.2 b)))[k0]? = some (a, x0) := hk0
    rw [List.getElem?_map, Option.map_eq_some_iff] at h9
    obtain ⟨b, hb1, hb2⟩ := h9
    injection hb2 with e1 e2
    subst e1
    exact e2.symm
  subst hs
  have he := va_pl_set (X := []) (e := x) hw.2.1 hL hk0
  simp only [List.nil_append] at he
  exact ⟨Eq.mp (congrArg (fun w => va_P D vwCl w H1) he) hP, Eq.mp (congrArg (va_D A) he) hD, hS⟩
theorem p_copy (C : pC p s m args c cc nL own Ts D cy) (hw : pW D A H0 S H locs) (hml : nL = ls.size) {index : Nat} (hlink : (Cond.methodLink own index arraycopyName).before args s = true) (hnat : (Cond.native arraycopyName).before args s = true) (hstat : (Cond.static arraycopyName).before args s = true) (hini : (Cond.initialized "java/lang/System").before args s = true)
    {a0 n0 n1 : Nat} {f g : Nat → Int32} (hL0 : a0 ∈ S.1) (hf0 : S.2 a0 = .inl (cy 0, n0, .inl f)) (hL : a ∈ S.1) (hf : S.2 a = .inl (cy 0, n1, .inl g)) {sp dp k : Nat} (h1 : sp + k ≤ n0) (h2 : dp + k ≤ n1) (h3 : n0 < 2 ^ 31) (h4 : n1 < 2 ^ 31) (hframes : 1 ≤ R.frames) (hlocals : (rest.map fun v => v.category).sum + (nativeFrameWords "java/lang/System" "arraycopy" 5 + 11) ≤ R.locals) (hdg : decode cc pc = .ok (.invokestatic index, 3))
    (kk : ∀ (H1 : Heap) (locs1 : List Loc), pW D A H0 (S.1, va_up S.2 a (.inl (cy 0, n1, .inl (va_cpy f g sp dp k)))) H1 locs1 → W p l e R s m args below meth c H1 locs1 cells slots Q (F0 m (pc + 3) ls rest)) : W p l e R s m args below meth c H locs cells slots Q (F0 m pc ls (.int (nI k) :: .int (nI dp) :: .ref a :: .int (nI sp) :: .ref a0 :: rest)) := by
  obtain ⟨k0, hk0⟩ := va_pl_get (X := []) (f := S.2) hL
  rw [hf] at hk0
  obtain ⟨k1, hk1⟩ := va_pl_get (X := []) (f := S.2) hL0
  rw [hf0] at hk1
  have e1 : (nI sp).toNatClampNeg = sp := nI_clamp (by omega)
  have e2 : (nI dp).toNatClampNeg = dp := nI_clamp (by omega)
  have e3 : (nI k).toNatClampNeg = k := nI_clamp (by omega)
  refine va_copyi C.1 C.2.1 (by rw [C.2.2.1]; exact hml) C.2.2.2.1 hlink hnat hstat hini C.2.2.2.2.2.1 hw.1 hw.2.1 hw.2.2 k1 k0 0 0 hk1 hk0 (show (pTy cy)[0]? = some (cy 0, .int) from rfl) rfl rfl (nI_pos (by omega)) (nI_pos (by omega)) (nI_pos (by omega)) (by rw [e1, e3]; exact h1) (by rw [e2, e3]; exact h2) (fun i _ => rfl) hframes hlocals hdg (fun H1 locs1 hP hD hS => ?_)
  rw [e1, e2, e3] at hP hD
  exact kk H1 locs1 (p_seti hw hL hk0 hP hD hS)
theorem p_dret (C : pC p s m args c cc nL own Ts D cy) {S0 : pS} (hw : pW D (pA S0 s.heap.size) s.heap S H locs) {post : UInt64 → pS → Prop} {v : UInt64} (hpost : post v S) (hr : meth.sig.returnType = some .double) (hlocks : meth.locks = false) (hdg : decode cc pc = .ok (.dreturn, 1)) : W p l e R s m args below meth c H locs cells slots (MQ below (pQd D cy S0 s.heap.size post) args s cells slots (pA S0 s.heap.size)) (F0 m pc ls [.double v]) :=
  W.dret (v := v) C.1 C.2.1 hr (fun t ht hW => ⟨⟨v, S, rfl, hpost, by rw [ht]; exact hw.1, C.2.2.2.2.2.warm hW, hw.2.1⟩, hw.2.2.F ht⟩) hw.2.2.2.2 hdg
/-- what a callee made is not among what was there; and its things are apart -/
theorem p_nodup {S' : pS} (hw : pW D A H0 S' H locs) : pInj S'.1 := by
  intro i j q hi hj
  have h2 : (pL S')[j]? = some (q, S'.2 q) := by
    show (S'.1.map (fun b => (b, S'.2 b)))[j]? = _
    rw [List.getElem?_map, hj]; rfl
  have h1 : (pL S')[i]? = some (q, S'.2 q) := by
    show (S'.1.map (fun b => (b, S'.2 b)))[i]? = _
    rw [List.getElem?_map, hi]; rfl
  exact hw.2.1.1 i j _ _ h1 h2 rfl
theorem p_fresh {S' : pS} {S0 : List Nat} {L : List Nat} {q : Nat} (hw : pW D A H0 S' H locs) (hS : S'.1 = S0 ++ L) (j : Nat) (hj : L[j]? = some q) : q ∉ S0 := by
  intro hq
  have hn := p_nodup hw
  rw [hS] at hn
  obtain ⟨i, hi, he⟩ := List.getElem_of_mem hq
  have := hn i (S0.length + j) q (by rw [List.getElem?_append_left hi, List.getElem?_eq_getElem hi, he]) (by rw [List.getElem?_append_right (Nat.le_add_right _ _), Nat.add_sub_cancel_left]; exact hj)
  omega
theorem p_apart {S' : pS} {S0 : List Nat} {L : List Nat} (hw : pW D A H0 S' H locs) (hS : S'.1 = S0 ++ L) : pInj L := by
  have hn := p_nodup hw
  rw [hS] at hn
  intro i j q hi hj
  have := hn (S0.length + i) (S0.length + j) q (by rw [List.getElem?_append_right (Nat.le_add_right _ _), Nat.add_sub_cancel_left]; exact hi) (by rw [List.getElem?_append_right (Nat.le_add_right _ _), Nat.add_sub_cancel_left]; exact hj)
  omega
theorem nd_ne {L : List Nat} (h : pInj L) {x y : Nat} (i j : Nat) (hi : L[i]? = some x) (hj : L[j]? = some y) (hij : i < j) : x ≠ y := fun e => by
  subst e
  have := h i j x hi hj
  omega
theorem p_calld {st0 : List Value} {mc ms : Nat} {av : Array Value} {post : UInt64 → pS → Prop} (hr : va_Run p l e R s m args below meth c H locs cells slots mc ms (F0 m pc ls st0) rest (pQd D cy S H.size post av) (pA S H.size)) (hw : pW D A H0 S H locs) (hA : ∀ q, H0.size ≤ q → A q)
    (kk : ∀ (r : UInt64) (S' : pS) (H1 : Heap) (locs1 : List Loc), post r S' → pW D A H0 S' H1 locs1 → W p l e R s m args below meth c H1 locs1 (cells + mc) (slots + ms) Q (F0 m (pc + 3) ls (.double r :: rest))) : W p l e R s m args below meth c H locs cells slots Q (F0 m pc ls st0) :=
  va_calld hr hw.2.2 (fun q _ h => pA.in hw hA q h) (pA.in hw hA) (fun r u t H1 locs1 ht _ hp hB _ _ hS => kk r u H1 locs1 hp ⟨by rw [← ht]; exact hB.1, hB.2.2.weaken (fun _ _ _ h => pA.in hw hA _ h), hS⟩)
end PM
section PA3
variable {p : Program} {l : Launch} {e : Env} {R : Room} {s : State} {m : MethodId} {args : Array Value} {below : List Frame} {meth : Method} {c : Code} {H : Heap} {locs : List Loc} {cells slots : Nat} {Q : State → Prop} {pc : Nat} {ls : Array Slot} {rest : List Value}
theorem x_ren {a b : Int32} (h : a = b) (kk : W p l e R s m args below meth c H locs cells slots Q (F0 m pc ls (.int b :: rest))) : W p l e R s m args below meth c H locs cells slots Q (F0 m pc ls (.int a :: rest)) := by rw [h]; exact kk
theorem l_ren {a b : Int64} (h : a = b) (kk : W p l e R s m args below meth c H locs cells slots Q (F0 m pc ls (.long b :: rest))) : W p l e R s m args below meth c H locs cells slots Q (F0 m pc ls (.long a :: rest)) := by rw [h]; exact kk
theorem d_ren {a b : UInt64} (h : a = b) (kk : W p l e R s m args below meth c H locs cells slots Q (F0 m pc ls (.double b :: rest))) : W p l e R s m args below meth c H locs cells slots Q (F0 m pc ls (.double a :: rest)) := by rw [h]; exact kk
end PA3
