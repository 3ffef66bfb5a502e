theorem gU_O {z : Cond} {own C owner : String} {idx : Nat} {x y : MethodName} {ws : List Cond} (h1 : Cond.methodLink own idx x ∈ lwU) (h2 : Cond.sameMethod x.cls owner x.name x.desc ∈ lwU) (h3 : Cond.instanceMethod ⟨owner, x.name, x.desc⟩ ∈ lwU) (h4 : Cond.selects C x y ∈ lwU) (h5 : Cond.instanceMethod y ∈ lwU) (h6 : Cond.initialized y.cls ∈ lwU) (h : ∀ w ∈ ws, w ∈ lwU) : GoodIn (z :: lwU) (va_wsO own idx C owner x y ws) := gU_sub (sub_cU h1 (sub_cU h2 (sub_cU h3 (sub_cU h4 (sub_cU h5 (sub_cU h6 h))))))
theorem two_pow_10 {k : Nat} (h : k ≤ 10) : 2 ^ k ≤ 1024 := by
  have := Nat.pow_le_pow_right (n := 2) (by decide) h
  simpa using this
theorem degN_all {d : Nat} (h0 : 2 ≤ d) (h : d < 512) : 2 ^ degN d 9 ≤ d ∧ d < 2 ^ (degN d 9 + 1) ∧ degN d 9 ≤ 8 := by
  have : ∀ d, d < 512 → 2 ≤ d → 2 ^ degN d 9 ≤ d ∧ d < 2 ^ (degN d 9 + 1) ∧ degN d 9 ≤ 8 := by decide +kernel
  exact this d h h0
theorem wvI_lt {a c q k nb : Nat} (ha : 1 ≤ a) (hc : 1 ≤ c) (hq : q < nb) : wvI a c q < blk nb (a * c) * a * c := by
  have h0 : 0 < a * c := Nat.mul_pos ha hc
  obtain ⟨k, x, hx, rfl⟩ := wv_split (q := q) h0
  obtain ⟨i, j, hj, rfl⟩ := wv_split (q := x) hc
  have hi : i < a := by
    refine Nat.lt_of_not_le fun h => ?_
    have := Nat.mul_le_mul_right c h
    omega
  rw [wvI_at hi hj, Nat.mul_assoc]
  have h1 := wv_lt hi hj
  have h2 : k < blk nb (a * c) := by
    refine Nat.lt_of_not_le fun h => ?_
    have h3 := Nat.mul_le_mul_right (a * c) h
    have h4 := blk_ge (n := nb) h0
    omega
  have h5 := Nat.mul_le_mul_right (a * c) (Nat.succ_le_of_lt h2)
  rw [Nat.succ_mul] at h5
  omega
theorem lcop_nxt_in {fg tab : Nat → Nat} {mm b k B : Nat} {x : Nat → Nat} (h1 : 1 ≤ mm) (h4 : mm ≤ 4) (hf : ∀ q, q < 16 → fg q ≤ B) : ∀ q, q < 16 → lcop fg (nxt fg tab mm b k x (2 ^ mm)) (2 ^ mm) q ≤ B + 12 := by
  intro q hq
  unfold lcop
  split
  · rename_i h
    have := ahd_lt h1 h4 h; have := two_pow_4 h4
    have e := hf (ahd mm q) (by omega); have e2 := @farT_le tab b k (wnd mm q)
    unfold nxt loN
    rw [if_pos h]
    exact Nat.le_trans (Nat.min_le_left _ _) (by omega)
  · exact Nat.le_trans (hf q hq) (by omega)
theorem lcop_out {fg x : Nat → Nat} {mm q : Nat} (h4 : mm ≤ 4) (hq : 16 ≤ q) : lcop fg x (2 ^ mm) q = fg q := by
  have := two_pow_4 h4
  unfold lcop; rw [if_neg (by omega)]
theorem vit_in {tab ga : Nat → Nat} {na mm kk : Nat} {fg xg wg : Nat → Nat} (h1 : 1 ≤ mm) (h4 : mm ≤ 4) : ∀ i, (∀ q, q < 16 → (vit tab ga na mm kk fg xg wg i).1 q ≤ 1000000 + 12 * i) ∧ ∀ q, 16 ≤ q → (vit tab ga na mm kk fg xg wg i).1 q = fg q
  | 0 => ⟨fun q hq => by show lsta fg 0 0 16 q ≤ _; unfold lsta; rw [if_pos hq]; split <;> omega, fun q hq => by show lsta fg 0 0 16 q = _; unfold lsta; rw [if_neg (by omega)]⟩
  | i + 1 => by
    obtain ⟨a, b⟩ := vit_in (tab := tab) (ga := ga) (na := na) (kk := kk) (fg := fg) (xg := xg) (wg := wg) h1 h4 i
    refine ⟨fun q hq => ?_, fun q hq => ?_⟩
    · have := lcop_nxt_in (tab := tab) (b := numAt ga na (i * kk) kk) (k := knoAt ga na (i * kk) kk) (x := (vit tab ga na mm kk fg xg wg i).2.1) h1 h4 a q hq
      exact Nat.le_trans this (by omega)
    · exact (lcop_out h4 hq).trans (b q hq)
theorem vit_2m {tab ga : Nat → Nat} {na mm kk : Nat} {fg xg wg : Nat → Nat} {i : Nat} (h1 : 1 ≤ mm) (h4 : mm ≤ 4) (hF : ∀ q, fg q ≤ 2000000) (hi : i ≤ 400) : ∀ q, (vit tab ga na mm kk fg xg wg i).1 q ≤ 2000000 := by
  intro q
  obtain ⟨a, b⟩ := vit_in (tab := tab) (ga := ga) (na := na) (kk := kk) (fg := fg) (xg := xg) (wg := wg) h1 h4 i
  by_cases hq : q < 16
  · exact Nat.le_trans (a q hq) (by omega)
  · rw [b q (by omega)]; exact hF q
theorem apr_in {tab : Nat → Nat} {mm kk : Nat} {fg xg wg : Nat → Nat} (h1 : 1 ≤ mm) (h4 : mm ≤ 4) : ∀ i, (∀ q, q < 16 → (apr tab mm kk fg xg wg i).1.1 q ≤ 1000000 + 12 * i) ∧ ∀ q, 16 ≤ q → (apr tab mm kk fg xg wg i).1.1 q = fg q
  | 0 => ⟨fun q hq => by
      have := @farT_le tab 0 (1 * 2 ^ kk - 1) (2 ^ mm)
      show lsta fg _ _ 16 q ≤ _; unfold lsta; rw [if_pos hq]; split <;> omega, fun q hq => by show lsta fg _ _ 16 q = _; unfold lsta; rw [if_neg (by omega)]⟩
  | i + 1 => by
    obtain ⟨a, b⟩ := apr_in (tab := tab) (kk := kk) (fg := fg) (xg := xg) (wg := wg) h1 h4 i
    refine ⟨fun q hq => ?_, fun q hq => ?_⟩
    · show nup _ 0 1000000 q ≤ _
      by_cases h : q = 0
      · subst h; rw [nup_s]; omega
      · rw [nup_n h]
        have := lcop_nxt_in (tab := tab) (b := 0) (k := 1 * 2 ^ kk - 1) (x := (apr tab mm kk fg xg wg i).1.2.1) h1 h4 a q hq
        exact Nat.le_trans this (by omega)
    · show nup _ 0 1000000 q = _
      rw [nup_n (by omega)]
      exact (lcop_out h4 hq).trans (b q hq)
theorem apr_2m {tab : Nat → Nat} {mm kk : Nat} {fg xg wg : Nat → Nat} (h1 : 1 ≤ mm) (h4 : mm ≤ 4) (hF : ∀ q, fg q ≤ 2000000) : ∀ q, (apr tab mm kk fg xg wg 19).1.1 q ≤ 2000000 := by
  intro q
  obtain ⟨a, b⟩ := apr_in (tab := tab) (kk := kk) (fg := fg) (xg := xg) (wg := wg) h1 h4 19
  by_cases hq : q < 16
  · exact Nat.le_trans (a q hq) (by omega)
  · rw [b q (by omega)]; exact hF q
theorem apr_w {tab : Nat → Nat} {mm kk : Nat} {fg xg wg : Nat → Nat} (h4 : mm ≤ 4) (hw : ∀ q, wg q < 65536) : ∀ i q, (apr tab mm kk fg xg wg i).1.2.2 q < 65536
  | 0 => hw
  | i + 1 => nup_lt (apr_w h4 hw i) (Nat.lt_of_lt_of_le (frg_lt _) (two_pow_le16 h4))
theorem apr_c0 {tab : Nat → Nat} {mm kk : Nat} (h1 : 1 ≤ mm) (h4 : mm ≤ 4) (fg xg wg : Nat → Nat) : ∀ i, (∀ q, q < 16 → (apr tab mm kk fg xg wg i).1.1 q = (apr tab mm kk (fun _ => 0) (fun _ => 0) (fun _ => 0) i).1.1 q) ∧ (apr tab mm kk fg xg wg i).2 = (apr tab mm kk (fun _ => 0) (fun _ => 0) (fun _ => 0) i).2
  | 0 => ⟨fun q hq => by show lsta fg _ _ 16 q = lsta _ _ _ 16 q; unfold lsta; rw [if_pos hq, if_pos hq], rfl⟩
  | i + 1 => by
    obtain ⟨a, b⟩ := apr_c0 (tab := tab) (kk := kk) h1 h4 fg xg wg i
    have e : ∀ q, q < 16 → lcop (apr tab mm kk fg xg wg i).1.1 (nxt (apr tab mm kk fg xg wg i).1.1 tab mm 0 (1 * 2 ^ kk - 1) (apr tab mm kk fg xg wg i).1.2.1 (2 ^ mm)) (2 ^ mm) q = lcop (apr tab mm kk (fun _ => 0) (fun _ => 0) (fun _ => 0) i).1.1 (nxt (apr tab mm kk (fun _ => 0) (fun _ => 0) (fun _ => 0) i).1.1 tab mm 0 (1 * 2 ^ kk - 1) (apr tab mm kk (fun _ => 0) (fun _ => 0) (fun _ => 0) i).1.2.1 (2 ^ mm)) (2 ^ mm) q := fun q hq => by
      unfold lcop
      by_cases h : q < 2 ^ mm
      · rw [if_pos h, if_pos h]; exact nxt_c h1 h4 a h
      · rw [if_neg h, if_neg h]; exact a q hq
    refine ⟨fun q hq => ?_, ?_⟩
    · show nup _ 0 1000000 q = nup _ 0 1000000 q
      by_cases h : q = 0
      · subst h; rw [nup_s, nup_s]
      · rw [nup_n h, nup_n h]; exact e q hq
    · show min _ _ = min _ _
      rw [b, e 0 (by omega)]
/-- how far a trail's words are apart -/
def trA (tab : Nat → Nat) (mm kk : Nat) : Nat := (apr tab mm kk (fun _ => 0) (fun _ => 0) (fun _ => 0) 19).2
theorem apr_c {tab : Nat → Nat} {mm kk : Nat} (h1 : 1 ≤ mm) (h4 : mm ≤ 4) (fg xg wg : Nat → Nat) : (apr tab mm kk fg xg wg 19).2 = trA tab mm kk := (apr_c0 h1 h4 fg xg wg 19).2
def sApart (w : WV) : Nat := if w.1 = 0 then w.2.1 else if w.1 = 1 then leaN w.2.2.2 w.2.2.1 (2 ^ w.2.1) else if w.1 = 3 then trA w.2.2.2 w.2.1 w.2.2.1 else 1
def sDam (w : WV) (n : Nat) (f : Nat → Nat) : Nat := if w.1 = 2 then cnt (damK f n w.2.1 w.2.2.1 (degN w.2.1 9)) (blk n (w.2.2.1 + degN w.2.1 9)) else 0
def sWrd (w : WV) (o : Nat) : Nat := if w.1 = 1 then cnt (hasOnes w.2.2.2 o) (2 ^ w.2.1) else 0
theorem hdq_v_sizeOf : "SoundingLine$Stage" ≠ "java/lang/invoke/MethodHandle" ∧ "SoundingLine$Stage" ≠ "java/lang/invoke/VarHandle" ∧ (parseMethodDescriptor "(I)I").map (fun d => d.parameters.length) = some 1 := by decide +kernel
set_option maxHeartbeats 2000000 in
theorem v_sizeOf {p : Program} {l : Launch} {e : Env} {R : Room} {s : State} {m : MethodId} {args : Array Value} {below : List Frame} {meth : Method} {c : Code} {H : Heap} {locs : List Loc} {cells slots : Nat} {cc : ByteArray} {nL : Nat} {own : String} {D : va_G} {cy : Nat → ClassId} {A : Nat → Prop} {H0 : Heap} {S : pS} {pc : Nat} {ls : Array Slot} {rest : List Value} {x0 : Cond} {G T : Nat → Nat} {n : Nat} {ws : Nat → WV} {l1 l2 : va_E} {V : RV} (C : pC p s m args c cc nL own (x0 :: lwU) D cy) (hw : pW D A H0 S H locs) (hml : ls.size = nL) {j : Nat} {w0 : WV} (hst : gStg cy S G T w0 j) (w : Nat) (hw0 : w < 2 ^ 20) {index : Nat} (hlink : Cond.methodLink own index ⟨"SoundingLine$Stage", "sizeOf", "(I)I"⟩ ∈ lwU) (hR : 2 ≤ R.frames ∧ 50 ≤ R.locals) (hcs : cells + 0 ≤ R.cells ∧ slots + 0 ≤ R.slots) (hcat : (rest.map fun v => v.category).sum ≤ 8) (hdg : decode cc pc = .ok (.invokevirtual index, 3)) :
    va_Run p l e R s m args below meth c H locs cells slots 0 0 (F0 m pc ls (.int (nI w) :: .ref (T (2 * j)) :: rest)) rest (pQi D cy S H.size (fun r S' => r = nI (sSize w0 w) ∧ S = S') #[]) (pA S H.size) := by
  obtain ⟨hok, hc, ht1, ht3, hL, hLt⟩ := hst
  rcases hok with ⟨k, ko1, ko2⟩ | ⟨k, kb1, kb2, kb3, kb4, b1, b2, b3, b4, hb1, hb2, hb3, hb4, kb5⟩ | ⟨k, kc1, kc2, kc3, kc4⟩ | ⟨k, kt1, kt2, f1, f2, f3, hf1, hf2, hf3, kt3, kt4⟩ | ⟨k, kw1, kw2, kw3, kw4⟩
  · have hc : S.2 (T (2 * j)) = .inr (6, [.int (nI w0.2.1)]) := by rw [hc]; unfold gst; rw [if_pos k]
    refine va_Run.qi (va_runU (x := ⟨"SoundingLine$Stage", "sizeOf", "(I)I"⟩) (As := [.int (nI w)]) (rest := rest) C.fix (c_X6_sizeOf l D cy S H.size (T (2 * j)) w0.2.1 w hL hc) (va_cwA 1 C.2.2.2.2.1 (gU_U hlink mw_128 mw_143 mw_144 mw_145 sub_X6_sizeOf) rfl rfl rfl (C.dcl 0 _ rfl) hdq_v_sizeOf ⟨Nat.le_trans (Nat.le_of_ble_eq_true rfl) hR.1, Nat.le_trans (Nat.le_of_ble_eq_true rfl) hR.2⟩) (p_preV C hw hL hc rfl) rfl rfl hml rfl (lv_room hcat) hdg hcs) ?_
    exact fun r S' e => ⟨e.1.trans (by unfold sSize; rw [if_pos k]), e.2⟩
  · have hc : S.2 (T (2 * j)) = .inr (0, [.int (nI w0.2.1), .int (nI w0.2.2.1), .ref (T (2 * j + 1))]) := by rw [hc]; unfold gst; rw [if_neg (by omega), if_pos k]
    refine va_Run.qi (va_runU (x := ⟨"SoundingLine$Stage", "sizeOf", "(I)I"⟩) (As := [.int (nI w)]) (rest := rest) C.fix (c_X0_sizeOf l D cy S H.size (T (2 * j)) w0.2.1 w0.2.2.1 (T (2 * j + 1)) w hL hc (by omega) (by omega)) (va_cwA 1 C.2.2.2.2.1 (gU_U hlink mw_128 mw_129 mw_130 mw_131 sub_X0_sizeOf) rfl rfl rfl (C.dcl 0 _ rfl) hdq_v_sizeOf ⟨Nat.le_trans (Nat.le_of_ble_eq_true rfl) hR.1, Nat.le_trans (Nat.le_of_ble_eq_true rfl) hR.2⟩) (p_preV C hw hL hc rfl) rfl rfl hml rfl (lv_room hcat) hdg hcs) ?_
    exact fun r S' e => ⟨e.1.trans (by unfold sSize; rw [if_neg (by omega), if_pos k]), e.2⟩
  · have hc : S.2 (T (2 * j)) = .inr (2, [.int (nI w0.2.1), .int (nI w0.2.2.1), .int (nI (degN w0.2.1 9))]) := by rw [hc]; unfold gst; rw [if_neg (by omega), if_neg (by omega), if_pos k]
    refine va_Run.qi (va_runU (x := ⟨"SoundingLine$Stage", "sizeOf", "(I)I"⟩) (As := [.int (nI w)]) (rest := rest) C.fix (c_X2_sizeOf l D cy S H.size (T (2 * j)) w0.2.1 w0.2.2.1 (degN w0.2.1 9) w hL hc (by omega) (by omega)) (va_cwA 1 C.2.2.2.2.1 (gU_U hlink mw_128 mw_137 mw_138 mw_139 sub_X2_sizeOf) rfl rfl rfl (C.dcl 0 _ rfl) hdq_v_sizeOf ⟨Nat.le_trans (Nat.le_of_ble_eq_true rfl) hR.1, Nat.le_trans (Nat.le_of_ble_eq_true rfl) hR.2⟩) (p_preV C hw hL hc rfl) rfl rfl hml rfl (lv_room hcat) hdg hcs) ?_
    exact fun r S' e => ⟨e.1.trans (by unfold sSize; rw [if_neg (by omega), if_neg (by omega), if_pos k]), e.2⟩
  · have hc : S.2 (T (2 * j)) = .inr (8, [.int (nI w0.2.1), .int (nI w0.2.2.1), .ref (T (2 * j + 1)), .ref (G 5)]) := by rw [hc]; unfold gst; rw [if_neg (by omega), if_neg (by omega), if_neg (by omega), if_pos k]
    refine va_Run.qi (va_runU (x := ⟨"SoundingLine$Stage", "sizeOf", "(I)I"⟩) (As := [.int (nI w)]) (rest := rest) C.fix (c_X9_sizeOf l D cy S H.size (T (2 * j)) w0.2.1 w0.2.2.1 (T (2 * j + 1)) (G 5) w hL hc (by omega)) (va_cwA 1 C.2.2.2.2.1 (gU_U hlink mw_128 mw_148 mw_149 mw_150 sub_X9_sizeOf) rfl rfl rfl (C.dcl 0 _ rfl) hdq_v_sizeOf ⟨Nat.le_trans (Nat.le_of_ble_eq_true rfl) hR.1, Nat.le_trans (Nat.le_of_ble_eq_true rfl) hR.2⟩) (p_preV C hw hL hc rfl) rfl rfl hml rfl (lv_room hcat) hdg hcs) ?_
    exact fun r S' e => ⟨e.1.trans (by unfold sSize; rw [if_neg (by omega), if_neg (by omega), if_neg (by omega), if_pos k]), e.2⟩
  · have hc : S.2 (T (2 * j)) = .inr (9, [.int (nI w0.2.1), .int (nI w0.2.2.1)]) := by rw [hc]; unfold gst; rw [if_neg (by omega), if_neg (by omega), if_neg (by omega), if_neg (by omega)]
    refine va_Run.qi (va_runU (x := ⟨"SoundingLine$Stage", "sizeOf", "(I)I"⟩) (As := [.int (nI w)]) (rest := rest) C.fix (c_X10_sizeOf l D cy S H.size (T (2 * j)) w0.2.1 w0.2.2.1 w hL hc (by omega) kw1 kw2 kw3 kw4) (va_cwA 1 C.2.2.2.2.1 (gU_U hlink mw_128 mw_158 mw_159 mw_160 sub_X10_sizeOf) rfl rfl rfl (C.dcl 0 _ rfl) hdq_v_sizeOf ⟨Nat.le_trans (Nat.le_of_ble_eq_true rfl) hR.1, Nat.le_trans (Nat.le_of_ble_eq_true rfl) hR.2⟩) (p_preV C hw hL hc rfl) rfl rfl hml rfl (lv_room hcat) hdg hcs) ?_
    exact fun r S' e => ⟨e.1.trans (by unfold sSize; rw [if_neg (by omega), if_neg (by omega), if_neg (by omega), if_neg (by omega)]), e.2⟩
theorem hdq_v_kind : "SoundingLine$Stage" ≠ "java/lang/invoke/MethodHandle" ∧ "SoundingLine$Stage" ≠ "java/lang/invoke/VarHandle" ∧ (parseMethodDescriptor "()I").map (fun d => d.parameters.length) = some 0 := by decide +kernel
set_option maxHeartbeats 2000000 in
theorem v_kind {p : Program} {l : Launch} {e : Env} {R : Room} {s : State} {m : MethodId} {args : Array Value} {below : List Frame} {meth : Method} {c : Code} {H : Heap} {locs : List Loc} {cells slots : Nat} {cc : ByteArray} {nL : Nat} {own : String} {D : va_G} {cy : Nat → ClassId} {A : Nat → Prop} {H0 : Heap} {S : pS} {pc : Nat} {ls : Array Slot} {rest : List Value} {x0 : Cond} {G T : Nat → Nat} {n : Nat} {ws : Nat → WV} {l1 l2 : va_E} {V : RV} (C : pC p s m args c cc nL own (x0 :: lwU) D cy) (hw : pW D A H0 S H locs) (hml : ls.size = nL) (hP : Pic cy S G T n ws l1 l2 V) {j : Nat} (hj : j < n)  {index : Nat} (hlink : Cond.methodLink own index ⟨"SoundingLine$Stage", "kind", "()I"⟩ ∈ lwU) (hR : 1 ≤ R.frames ∧ 30 ≤ R.locals) (hcs : cells + 0 ≤ R.cells ∧ slots + 0 ≤ R.slots) (hcat : (rest.map fun v => v.category).sum ≤ 8) (hdg : decode cc pc = .ok (.invokevirtual index, 3)) :
    va_Run p l e R s m args below meth c H locs cells slots 0 0 (F0 m pc ls (.ref (T (2 * j)) :: rest)) rest (pQi D cy S H.size (fun r S' => r = nI (ws j).1 ∧ S = S') #[]) (pA S H.size) := by
  have hn4 := hP.n4
  obtain ⟨hok, hc, ht1, ht3, hL, hLt⟩ := hP.stg hj
  have hok0 := hok
  rcases hok with ⟨k, ko1, ko2⟩ | ⟨k, kb1, kb2, kb3, kb4, b1, b2, b3, b4, hb1, hb2, hb3, hb4, kb5⟩ | ⟨k, kc1, kc2, kc3, kc4⟩ | ⟨k, kt1, kt2, f1, f2, f3, hf1, hf2, hf3, kt3, kt4⟩ | ⟨k, kw1, kw2, kw3, kw4⟩
  · have hc : S.2 (T (2 * j)) = .inr (6, [.int (nI (ws j).2.1)]) := by rw [hc]; unfold gst; rw [if_pos k]
    refine va_Run.qi (va_runU (x := ⟨"SoundingLine$Stage", "kind", "()I"⟩) (As := []) (rest := rest) C.fix (c_X6_kind l D cy S H.size (T (2 * j)) ) (va_cwA 0 C.2.2.2.2.1 (gU_U hlink mw_535 mw_542 mw_543 mw_145 sub_X6_kind) rfl rfl rfl (C.dcl 3 _ rfl) hdq_v_kind ⟨Nat.le_trans (Nat.le_of_ble_eq_true rfl) hR.1, Nat.le_trans (Nat.le_of_ble_eq_true rfl) hR.2⟩) (p_preV C hw hL hc rfl) rfl rfl hml rfl (lv_room hcat) hdg hcs) ?_
    exact fun r S' e => ⟨e.1.trans (by rw [k]), e.2⟩
  · have hc : S.2 (T (2 * j)) = .inr (0, [.int (nI (ws j).2.1), .int (nI (ws j).2.2.1), .ref (T (2 * j + 1))]) := by rw [hc]; unfold gst; rw [if_neg (by omega), if_pos k]
    refine va_Run.qi (va_runU (x := ⟨"SoundingLine$Stage", "kind", "()I"⟩) (As := []) (rest := rest) C.fix (c_X0_kind l D cy S H.size (T (2 * j)) ) (va_cwA 0 C.2.2.2.2.1 (gU_U hlink mw_535 mw_536 mw_537 mw_131 sub_X0_kind) rfl rfl rfl (C.dcl 3 _ rfl) hdq_v_kind ⟨Nat.le_trans (Nat.le_of_ble_eq_true rfl) hR.1, Nat.le_trans (Nat.le_of_ble_eq_true rfl) hR.2⟩) (p_preV C hw hL hc rfl) rfl rfl hml rfl (lv_room hcat) hdg hcs) ?_
    exact fun r S' e => ⟨e.1.trans (by rw [k]), e.2⟩
  · have hc : S.2 (T (2 * j)) = .inr (2, [.int (nI (ws j).2.1), .int (nI (ws j).2.2.1), .int (nI (degN (ws j).2.1 9))]) := by rw [hc]; unfold gst; rw [if_neg (by omega), if_neg (by omega), if_pos k]
    refine va_Run.qi (va_runU (x := ⟨"SoundingLine$Stage", "kind", "()I"⟩) (As := []) (rest := rest) C.fix (c_X2_kind l D cy S H.size (T (2 * j)) ) (va_cwA 0 C.2.2.2.2.1 (gU_U hlink mw_535 mw_539 mw_540 mw_139 sub_X2_kind) rfl rfl rfl (C.dcl 3 _ rfl) hdq_v_kind ⟨Nat.le_trans (Nat.le_of_ble_eq_true rfl) hR.1, Nat.le_trans (Nat.le_of_ble_eq_true rfl) hR.2⟩) (p_preV C hw hL hc rfl) rfl rfl hml rfl (lv_room hcat) hdg hcs) ?_
    exact fun r S' e => ⟨e.1.trans (by rw [k]), e.2⟩
  · have hc : S.2 (T (2 * j)) = .inr (8, [.int (nI (ws j).2.1), .int (nI (ws j).2.2.1), .ref (T (2 * j + 1)), .ref (G 5)]) := by rw [hc]; unfold gst; rw [if_neg (by omega), if_neg (by omega), if_neg (by omega), if_pos k]
    refine va_Run.qi (va_runU (x := ⟨"SoundingLine$Stage", "kind", "()I"⟩) (As := []) (rest := rest) C.fix (c_X9_kind l D cy S H.size (T (2 * j)) ) (va_cwA 0 C.2.2.2.2.1 (gU_U hlink mw_535 mw_545 mw_546 mw_150 sub_X9_kind) rfl rfl rfl (C.dcl 3 _ rfl) hdq_v_kind ⟨Nat.le_trans (Nat.le_of_ble_eq_true rfl) hR.1, Nat.le_trans (Nat.le_of_ble_eq_true rfl) hR.2⟩) (p_preV C hw hL hc rfl) rfl rfl hml rfl (lv_room hcat) hdg hcs) ?_
    exact fun r S' e => ⟨e.1.trans (by rw [k]), e.2⟩
  · have hc : S.2 (T (2 * j)) = .inr (9, [.int (nI (ws j).2.1), .int (nI (ws j).2.2.1)]) := by rw [hc]; unfold gst; rw [if_neg (by omega), if_neg (by omega), if_neg (by omega), if_neg (by omega)]
    refine va_Run.qi (va_runU (x := ⟨"SoundingLine$Stage", "kind", "()I"⟩) (As := []) (rest := rest) C.fix (c_X10_kind l D cy S H.size (T (2 * j)) ) (va_cwA 0 C.2.2.2.2.1 (gU_U hlink mw_535 mw_548 mw_549 mw_160 sub_X10_kind) rfl rfl rfl (C.dcl 3 _ rfl) hdq_v_kind ⟨Nat.le_trans (Nat.le_of_ble_eq_true rfl) hR.1, Nat.le_trans (Nat.le_of_ble_eq_true rfl) hR.2⟩) (p_preV C hw hL hc rfl) rfl rfl hml rfl (lv_room hcat) hdg hcs) ?_
    exact fun r S' e => ⟨e.1.trans (by rw [k]), e.2⟩
theorem hdq_v_code : "SoundingLine$Stage" ≠ "java/lang/invoke/MethodHandle" ∧ "SoundingLine$Stage" ≠ "java/lang/invoke/VarHandle" ∧ (parseMethodDescriptor "(LSoundingLine$Row;LSoundingLine$Row;)V").map (fun d => d.parameters.length) = some 2 := by decide +kernel
set_option maxHeartbeats 2000000 in
theorem v_code {p : Program} {l : Launch} {e : Env} {R : Room} {s : State} {m : MethodId} {args : Array Value} {below : List Frame} {meth : Method} {c : Code} {H : Heap} {locs : List Loc} {cells slots : Nat} {cc : ByteArray} {nL : Nat} {own : String} {D : va_G} {cy : Nat → ClassId} {A : Nat → Prop} {H0 : Heap} {S : pS} {pc : Nat} {ls : Array Slot} {rest : List Value} {x0 : Cond} {G T : Nat → Nat} {n : Nat} {ws : Nat → WV} {l1 l2 : va_E} {V : RV} (C : pC p s m args c cc nL own (x0 :: lwU) D cy) (hw : pW D A H0 S H locs) (hml : ls.size = nL) (hP : Pic cy S G T n ws l1 l2 V) {j : Nat} (hj : j < n) {r1 r2 : Nat} (h1 : r1 < 16) (h2 : r2 < 16) (h12 : r1 ≠ r2) (hs : V.1 r2 = sSize (ws j) (V.1 r1)) {index : Nat} (hlink : Cond.methodLink own index ⟨"SoundingLine$Stage", "code", "(LSoundingLine$Row;LSoundingLine$Row;)V"⟩ ∈ lwU) (hR : 3 ≤ R.frames ∧ 72 ≤ R.locals) (hcs : cells + 0 ≤ R.cells ∧ slots + 0 ≤ R.slots) (hcat : (rest.map fun v => v.category).sum ≤ 8) (hdg : decode cc pc = .ok (.invokevirtual index, 3)) :
    va_Run p l e R s m args below meth c H locs cells slots 0 0 (F0 m pc ls (.ref (G (21 + r2)) :: .ref (G (21 + r1)) :: .ref (T (2 * j)) :: rest)) rest (pQv D cy S H.size (fun S' => ∃ g, (∀ q, q < V.1 r2 → g q = sCode (ws j) (V.1 r1) (V.2 r1) q) ∧ Pic cy S' G T n ws l1 l2 (V.1, va_up V.2 r2 g) ∧ Frm G S S') #[]) (pA S H.size) := by
  have hn4 := hP.n4
  obtain ⟨hok, hc, ht1, ht3, hL, hLt⟩ := hP.stg hj
  have hok0 := hok
  rcases hok with ⟨k, ko1, ko2⟩ | ⟨k, kb1, kb2, kb3, kb4, b1, b2, b3, b4, hb1, hb2, hb3, hb4, kb5⟩ | ⟨k, kc1, kc2, kc3, kc4⟩ | ⟨k, kt1, kt2, f1, f2, f3, hf1, hf2, hf3, kt3, kt4⟩ | ⟨k, kw1, kw2, kw3, kw4⟩
  · have hc : S.2 (T (2 * j)) = .inr (6, [.int (nI (ws j).2.1)]) := by rw [hc]; unfold gst; rw [if_pos k]
    have h3201 := hP.r320 h1
    have h3202 := hP.r320 h2
    refine va_Run.qv (va_runU (x := ⟨"SoundingLine$Stage", "code", "(LSoundingLine$Row;LSoundingLine$Row;)V"⟩) (As := [.ref (G (21 + r1)), .ref (G (21 + r2))]) (rest := rest) C.fix (c_X6_code l D cy S H.size (T (2 * j)) (ws j).2.1 (G (21 + r1)) (G (37 + r1)) (gcap r1) (V.1 r1) (G (21 + r2)) (G (37 + r2)) (gcap r2) (V.1 r2) (V.2 r1) (V.2 r2) hL hc (hP.mem (by omega)) (hP.rh h1) (hP.mem (by omega)) (hP.rb h1) (hP.mem (by omega)) (hP.rh h2) (hP.mem (by omega)) (hP.rb h2) (by omega) (by omega) (gcap_27 r1) (hP.rn h1) (hP.rg2 h1) (gcap_27 r2) (hP.rn h2) (hP.rg2 h2) (hP.ne (by omega) (by omega) (by omega))) (va_cwA 2 C.2.2.2.2.1 (gU_U hlink mw_184 mw_214 mw_215 mw_145 sub_X6_code) rfl rfl rfl (C.dcl 1 _ rfl) hdq_v_code ⟨Nat.le_trans (Nat.le_of_ble_eq_true rfl) hR.1, Nat.le_trans (Nat.le_of_ble_eq_true rfl) hR.2⟩) (p_preV C hw hL hc rfl) rfl rfl hml rfl (lv_room hcat) hdg hcs) ?_
    refine fun S' e => ⟨repl (V.2 r2) (V.1 r2) (V.2 r1) (V.1 r1) (ws j).2.1 (V.1 r1 * (ws j).2.1), fun q hq => ?_, by rw [e]; exact hP.rowB h2 (repl_le (hP.rg2 h2)), by rw [e]; exact Frm.up (by omega)⟩
    unfold sCode; rw [if_pos k]; unfold sSize at hs; rw [if_pos k] at hs
    unfold repl; rw [if_pos ⟨by rw [← hs]; exact hq, hq⟩]
  · have hc : S.2 (T (2 * j)) = .inr (0, [.int (nI (ws j).2.1), .int (nI (ws j).2.2.1), .ref (T (2 * j + 1))]) := by rw [hc]; unfold gst; rw [if_neg (by omega), if_pos k]
    have h3201 := hP.r320 h1
    have h3202 := hP.r320 h2
    have htb := ht1 k
    have h1024 : ∀ q, (ws j).2.2.2 q < 1024 := by rw [kb5]; exact bwt_lt (Nat.lt_of_lt_of_le hb1 (two_pow_10 kb4)) (Nat.lt_of_lt_of_le hb2 (two_pow_10 kb4)) (Nat.lt_of_lt_of_le hb3 (two_pow_10 kb4)) (Nat.lt_of_lt_of_le hb4 (two_pow_10 kb4))
    refine va_Run.qv (va_runU (x := ⟨"SoundingLine$Stage", "code", "(LSoundingLine$Row;LSoundingLine$Row;)V"⟩) (As := [.ref (G (21 + r1)), .ref (G (21 + r2))]) (rest := rest) C.fix (c_X0_code l D cy S H.size (T (2 * j)) (ws j).2.1 (ws j).2.2.1 (T (2 * j + 1)) (ws j).2.2.2 (G (21 + r1)) (G (37 + r1)) (gcap r1) (V.1 r1) (G (21 + r2)) (G (37 + r2)) (gcap r2) (V.1 r2) (V.2 r1) (V.2 r2) hL hc hLt htb (hP.mem (by omega)) (hP.rh h1) (hP.mem (by omega)) (hP.rb h1) (hP.mem (by omega)) (hP.rh h2) (hP.mem (by omega)) (hP.rb h2) kb1 kb2 (by omega) kb4 h1024 (by omega) (hP.nT (by omega) (by omega)) (gcap_27 r1) (hP.rn h1) (hP.rg2 h1) (gcap_27 r2) (hP.rn h2) (hP.rg2 h2) (hP.ne (by omega) (by omega) (by omega))) (va_cwA 2 C.2.2.2.2.1 (gU_U hlink mw_184 mw_185 mw_186 mw_131 sub_X0_code) rfl rfl rfl (C.dcl 1 _ rfl) hdq_v_code ⟨Nat.le_trans (Nat.le_of_ble_eq_true rfl) hR.1, Nat.le_trans (Nat.le_of_ble_eq_true rfl) hR.2⟩) (p_preV C hw hL hc rfl) rfl rfl hml rfl (lv_room hcat) hdg hcs) ?_
    refine fun S' e => ⟨rblk (V.2 r2) (V.1 r2) (ws j).2.2.2 (V.2 r1) (V.1 r1) (ws j).2.1 (ws j).2.2.1 (blk (V.1 r1) (ws j).2.1), fun q hq => ?_, by rw [e]; exact hP.rowB h2 (rblk_le (hP.rg2 h2)), by rw [e]; exact Frm.up (by omega)⟩
    unfold sCode; rw [if_neg (by omega), if_pos k]; unfold sSize at hs; rw [if_neg (by omega), if_pos k] at hs
    unfold rblk; rw [if_pos ⟨by rw [← hs]; exact hq, hq⟩]
  · have hc : S.2 (T (2 * j)) = .inr (2, [.int (nI (ws j).2.1), .int (nI (ws j).2.2.1), .int (nI (degN (ws j).2.1 9))]) := by rw [hc]; unfold gst; rw [if_neg (by omega), if_neg (by omega), if_pos k]
    have h3201 := hP.r320 h1
    have h3202 := hP.r320 h2
    have hdg1 : 2 ^ degN (ws j).2.1 9 ≤ (ws j).2.1 ∧ (ws j).2.1 < 2 ^ (degN (ws j).2.1 9 + 1) ∧ degN (ws j).2.1 9 ≤ 8 := degN_all (by omega) (by omega)
    refine va_Run.qv (va_runU (x := ⟨"SoundingLine$Stage", "code", "(LSoundingLine$Row;LSoundingLine$Row;)V"⟩) (As := [.ref (G (21 + r1)), .ref (G (21 + r2))]) (rest := rest) C.fix (c_X2_code l D cy S H.size (T (2 * j)) (ws j).2.1 (ws j).2.2.1 (degN (ws j).2.1 9) (G (21 + r1)) (G (37 + r1)) (gcap r1) (V.1 r1) (G (21 + r2)) (G (37 + r2)) (gcap r2) (V.1 r2) (V.2 r1) (V.2 r2) hL hc (hP.mem (by omega)) (hP.rh h1) (hP.mem (by omega)) (hP.rb h1) (hP.mem (by omega)) (hP.rh h2) (hP.mem (by omega)) (hP.rb h2) hdg1.1 hdg1.2.1 hdg1.2.2 kc3 kc4 (by omega) (gcap_27 r1) (hP.rn h1) (hP.rg2 h1) (gcap_27 r2) (hP.rn h2) (hP.rg2 h2) (hP.ne (by omega) (by omega) (by omega))) (va_cwA 2 C.2.2.2.2.1 (gU_U hlink mw_184 mw_201 mw_202 mw_139 sub_X2_code) rfl rfl rfl (C.dcl 1 _ rfl) hdq_v_code ⟨Nat.le_trans (Nat.le_of_ble_eq_true rfl) hR.1, Nat.le_trans (Nat.le_of_ble_eq_true rfl) hR.2⟩) (p_preV C hw hL hc rfl) rfl rfl hml rfl (lv_room hcat) hdg hcs) ?_
    refine fun S' e => ⟨rpos (chkF (V.2 r1) (V.1 r1) (ws j).2.1 (ws j).2.2.1 (degN (ws j).2.1 9)) (V.2 r2) (V.1 r2) (blk (V.1 r1) (ws j).2.2.1 * ((ws j).2.2.1 + degN (ws j).2.1 9)), fun q hq => ?_, by rw [e]; exact hP.rowB h2 (rpos_le chkF_le (hP.rg2 h2)), by rw [e]; exact Frm.up (by omega)⟩
    unfold sCode; rw [if_neg (by omega), if_neg (by omega), if_pos k]; unfold sSize at hs; rw [if_neg (by omega), if_neg (by omega), if_pos k] at hs
    unfold rpos; rw [if_pos ⟨by rw [← hs]; exact hq, hq⟩]
  · have hc : S.2 (T (2 * j)) = .inr (8, [.int (nI (ws j).2.1), .int (nI (ws j).2.2.1), .ref (T (2 * j + 1)), .ref (G 5)]) := by rw [hc]; unfold gst; rw [if_neg (by omega), if_neg (by omega), if_neg (by omega), if_pos k]
    have h3201 := hP.r320 h1
    have h3202 := hP.r320 h2
    have htb := ht3 k
    have h8 : ∀ q, (ws j).2.2.2 q < 8 := by rw [kt4]; exact ttab_lt
    have hk2 : 2 ≤ (ws j).2.2.1 := by rcases mk3_23 f3 with z | z <;> omega
    have hk3 : (ws j).2.2.1 ≤ 3 := by rcases mk3_23 f3 with z | z <;> omega
    refine va_Run.qv (va_runU (x := ⟨"SoundingLine$Stage", "code", "(LSoundingLine$Row;LSoundingLine$Row;)V"⟩) (As := [.ref (G (21 + r1)), .ref (G (21 + r2))]) (rest := rest) C.fix (c_X9_code l D cy S H.size (T (2 * j)) (ws j).2.1 (ws j).2.2.1 (T (2 * j + 1)) (G 5) (ws j).2.2.2 (G (21 + r1)) (G (37 + r1)) (gcap r1) (V.1 r1) (G (21 + r2)) (G (37 + r2)) (gcap r2) (V.1 r2) (V.2 r1) (V.2 r2) hL hc hLt htb (hP.mem (by omega)) (hP.rh h1) (hP.mem (by omega)) (hP.rb h1) (hP.mem (by omega)) (hP.rh h2) (hP.mem (by omega)) (hP.rb h2) kt1 kt2 hk2 hk3 h8 (by omega) (hP.nT (by omega) (by omega)) (gcap_27 r1) (hP.rn h1) (hP.rg2 h1) (gcap_27 r2) (hP.rn h2) (hP.rg2 h2) (hP.ne (by omega) (by omega) (by omega))) (va_cwA 2 C.2.2.2.2.1 (gU_U hlink mw_184 mw_220 mw_221 mw_150 sub_X9_code) rfl rfl rfl (C.dcl 1 _ rfl) hdq_v_code ⟨Nat.le_trans (Nat.le_of_ble_eq_true rfl) hR.1, Nat.le_trans (Nat.le_of_ble_eq_true rfl) hR.2⟩) (p_preV C hw hL hc rfl) rfl rfl hml rfl (lv_room hcat) hdg hcs) ?_
    refine fun S' e => ⟨rpos (trF (ws j).2.2.2 (V.2 r1) (V.1 r1) (ws j).2.1 (ws j).2.2.1) (V.2 r2) (V.1 r2) (stp (ws j).2.1 (V.1 r1) * (ws j).2.2.1), fun q hq => ?_, by rw [e]; exact hP.rowB h2 (rpos_le (fun q => by unfold trF; omega) (hP.rg2 h2)), by rw [e]; exact Frm.up (by omega)⟩
    unfold sCode; rw [if_neg (by omega), if_neg (by omega), if_neg (by omega), if_pos k]; unfold sSize at hs; rw [if_neg (by omega), if_neg (by omega), if_neg (by omega), if_pos k] at hs
    unfold rpos; rw [if_pos ⟨by rw [← hs]; exact hq, hq⟩]
  · have hc : S.2 (T (2 * j)) = .inr (9, [.int (nI (ws j).2.1), .int (nI (ws j).2.2.1)]) := by rw [hc]; unfold gst; rw [if_neg (by omega), if_neg (by omega), if_neg (by omega), if_neg (by omega)]
    have h3201 := hP.r320 h1
    have h3202 := hP.r320 h2
    refine va_Run.qv (va_runU (x := ⟨"SoundingLine$Stage", "code", "(LSoundingLine$Row;LSoundingLine$Row;)V"⟩) (As := [.ref (G (21 + r1)), .ref (G (21 + r2))]) (rest := rest) C.fix (c_X10_code l D cy S H.size (T (2 * j)) (ws j).2.1 (ws j).2.2.1 (G (21 + r1)) (G (37 + r1)) (gcap r1) (V.1 r1) (G (21 + r2)) (G (37 + r2)) (gcap r2) (V.1 r2) (V.2 r1) (V.2 r2) hL hc (hP.mem (by omega)) (hP.rh h1) (hP.mem (by omega)) (hP.rb h1) (hP.mem (by omega)) (hP.rh h2) (hP.mem (by omega)) (hP.rb h2) kw1 kw2 kw3 kw4 (by omega) (gcap_27 r1) (hP.rn h1) (hP.rg2 h1) (gcap_27 r2) (hP.rn h2) (hP.rg2 h2) (hP.ne (by omega) (by omega) (by omega))) (va_cwA 2 C.2.2.2.2.1 (gU_U hlink mw_184 mw_227 mw_228 mw_160 sub_X10_code) rfl rfl rfl (C.dcl 1 _ rfl) hdq_v_code ⟨Nat.le_trans (Nat.le_of_ble_eq_true rfl) hR.1, Nat.le_trans (Nat.le_of_ble_eq_true rfl) hR.2⟩) (p_preV C hw hL hc rfl) rfl rfl hml rfl (lv_room hcat) hdg hcs) ?_
    refine fun S' e => ⟨rpos (wvF (V.2 r1) (V.1 r1) (ws j).2.1 (ws j).2.2.1) (V.2 r2) (V.1 r2) (V.1 r2), fun q hq => ?_, by rw [e]; exact hP.rowB h2 (rpos_le (fun q => Nat.le_trans numAt_1le (by omega)) (hP.rg2 h2)), by rw [e]; exact Frm.up (by omega)⟩
    unfold sCode; rw [if_neg (by omega), if_neg (by omega), if_neg (by omega), if_neg (by omega)]; unfold sSize at hs; rw [if_neg (by omega), if_neg (by omega), if_neg (by omega), if_neg (by omega)] at hs
    unfold rpos; rw [if_pos ⟨hq, hq⟩]
theorem hdq_v_decode : "SoundingLine$Stage" ≠ "java/lang/invoke/MethodHandle" ∧ "SoundingLine$Stage" ≠ "java/lang/invoke/VarHandle" ∧ (parseMethodDescriptor "(LSoundingLine$Row;LSoundingLine$Row;)V").map (fun d => d.parameters.length) = some 2 := by decide +kernel
set_option maxHeartbeats 2000000 in
theorem v_decode {p : Program} {l : Launch} {e : Env} {R : Room} {s : State} {m : MethodId} {args : Array Value} {below : List Frame} {meth : Method} {c : Code} {H : Heap} {locs : List Loc} {cells slots : Nat} {cc : ByteArray} {nL : Nat} {own : String} {D : va_G} {cy : Nat → ClassId} {A : Nat → Prop} {H0 : Heap} {S : pS} {pc : Nat} {ls : Array Slot} {rest : List Value} {x0 : Cond} {G T : Nat → Nat} {n : Nat} {ws : Nat → WV} {l1 l2 : va_E} {V : RV} (C : pC p s m args c cc nL own (x0 :: lwU) D cy) (hw : pW D A H0 S H locs) (hml : ls.size = nL) (hP : Pic cy S G T n ws l1 l2 V) {j : Nat} (hj : j < n) {r1 r2 : Nat} (h1 : r1 < 16) (h2 : r2 < 16) (h12 : r1 ≠ r2) (hs : V.1 r1 = sSize (ws j) (V.1 r2)) {index : Nat} (hlink : Cond.methodLink own index ⟨"SoundingLine$Stage", "decode", "(LSoundingLine$Row;LSoundingLine$Row;)V"⟩ ∈ lwU) (hR : 4 ≤ R.frames ∧ 99 ≤ R.locals) (hcs : cells + 0 ≤ R.cells ∧ slots + 0 ≤ R.slots) (hcat : (rest.map fun v => v.category).sum ≤ 8) (hdg : decode cc pc = .ok (.invokevirtual index, 3)) :
    va_Run p l e R s m args below meth c H locs cells slots 0 0 (F0 m pc ls (.ref (G (21 + r2)) :: .ref (G (21 + r1)) :: .ref (T (2 * j)) :: rest)) rest (pQv D cy S H.size (fun S' => ∃ g, (∀ q, q < V.1 r2 → g q = sDec (ws j) (V.1 r2) (V.1 r1) (V.2 r1) q) ∧ Pic cy S' G T n ws l1 l2 (V.1, va_up V.2 r2 g) ∧ Frm G S S') #[]) (pA S H.size) := by
  have hn4 := hP.n4
  obtain ⟨hok, hc, ht1, ht3, hL, hLt⟩ := hP.stg hj
  have hok0 := hok
  rcases hok with ⟨k, ko1, ko2⟩ | ⟨k, kb1, kb2, kb3, kb4, b1, b2, b3, b4, hb1, hb2, hb3, hb4, kb5⟩ | ⟨k, kc1, kc2, kc3, kc4⟩ | ⟨k, kt1, kt2, f1, f2, f3, hf1, hf2, hf3, kt3, kt4⟩ | ⟨k, kw1, kw2, kw3, kw4⟩
  · have hc : S.2 (T (2 * j)) = .inr (6, [.int (nI (ws j).2.1)]) := by rw [hc]; unfold gst; rw [if_pos k]
    have h3201 := hP.r320 h1
    have h3202 := hP.r320 h2
    refine va_Run.qv (va_runU (x := ⟨"SoundingLine$Stage", "decode", "(LSoundingLine$Row;LSoundingLine$Row;)V"⟩) (As := [.ref (G (21 + r1)), .ref (G (21 + r2))]) (rest := rest) C.fix (c_X6_decode l D cy S H.size (T (2 * j)) (ws j).2.1 (G (21 + r1)) (G (37 + r1)) (gcap r1) (V.1 r1) (G (21 + r2)) (G (37 + r2)) (gcap r2) (V.1 r2) (V.2 r1) (V.2 r2) hL hc (hP.mem (by omega)) (hP.rh h1) (hP.mem (by omega)) (hP.rb h1) (hP.mem (by omega)) (hP.rh h2) (hP.mem (by omega)) (hP.rb h2) (by omega) (by omega) (gcap_27 r1) (hP.rn h1) (hP.rg2 h1) (gcap_27 r2) (hP.rn h2) (hP.rg2 h2) (hP.ne (by omega) (by omega) (by omega))) (va_cwA 2 C.2.2.2.2.1 (gU_U hlink mw_289 mw_317 mw_318 mw_145 sub_X6_decode) rfl rfl rfl (C.dcl 2 _ rfl) hdq_v_decode ⟨Nat.le_trans (Nat.le_of_ble_eq_true rfl) hR.1, Nat.le_trans (Nat.le_of_ble_eq_true rfl) hR.2⟩) (p_preV C hw hL hc rfl) rfl rfl hml rfl (lv_room hcat) hdg hcs) ?_
    refine fun S' e => ⟨rvot (V.2 r2) (V.2 r1) (V.1 r1) (ws j).2.1 (V.1 r2), fun q hq => ?_, by rw [e]; exact hP.rowB h2 (rvot_le (hP.rg2 h2)), by rw [e]; exact Frm.up (by omega)⟩
    unfold sDec; rw [if_pos k]
    unfold rvot; rw [if_pos hq]
  · have hc : S.2 (T (2 * j)) = .inr (0, [.int (nI (ws j).2.1), .int (nI (ws j).2.2.1), .ref (T (2 * j + 1))]) := by rw [hc]; unfold gst; rw [if_neg (by omega), if_pos k]
    have h3201 := hP.r320 h1
    have h3202 := hP.r320 h2
    have htb := ht1 k
    have h1024 : ∀ q, (ws j).2.2.2 q < 1024 := by rw [kb5]; exact bwt_lt (Nat.lt_of_lt_of_le hb1 (two_pow_10 kb4)) (Nat.lt_of_lt_of_le hb2 (two_pow_10 kb4)) (Nat.lt_of_lt_of_le hb3 (two_pow_10 kb4)) (Nat.lt_of_lt_of_le hb4 (two_pow_10 kb4))
    refine va_Run.qv (va_runU (x := ⟨"SoundingLine$Stage", "decode", "(LSoundingLine$Row;LSoundingLine$Row;)V"⟩) (As := [.ref (G (21 + r1)), .ref (G (21 + r2))]) (rest := rest) C.fix (c_X0_decode l D cy S H.size (T (2 * j)) (ws j).2.1 (ws j).2.2.1 (T (2 * j + 1)) (ws j).2.2.2 (G (21 + r1)) (G (37 + r1)) (gcap r1) (V.1 r1) (G (21 + r2)) (G (37 + r2)) (gcap r2) (V.1 r2) (V.2 r1) (V.2 r2) hL hc hLt htb (hP.mem (by omega)) (hP.rh h1) (hP.mem (by omega)) (hP.rb h1) (hP.mem (by omega)) (hP.rh h2) (hP.mem (by omega)) (hP.rb h2) kb1 kb2 (by omega) kb4 h1024 (by omega) (hP.nT (by omega) (by omega)) (gcap_27 r1) (hP.rn h1) (hP.rg2 h1) (gcap_27 r2) (hP.rn h2) (hP.rg2 h2) (hP.ne (by omega) (by omega) (by omega))) (va_cwA 2 C.2.2.2.2.1 (gU_U hlink mw_289 mw_290 mw_291 mw_131 sub_X0_decode) rfl rfl rfl (C.dcl 2 _ rfl) hdq_v_decode ⟨Nat.le_trans (Nat.le_of_ble_eq_true rfl) hR.1, Nat.le_trans (Nat.le_of_ble_eq_true rfl) hR.2⟩) (p_preV C hw hL hc rfl) rfl rfl hml rfl (lv_room hcat) hdg hcs) ?_
    refine fun S' e => ⟨rnea (V.2 r2) (V.1 r2) (ws j).2.2.2 (V.2 r1) (V.1 r1) (ws j).2.1 (ws j).2.2.1 (blk (V.1 r2) (ws j).2.1), fun q hq => ?_, by rw [e]; exact hP.rowB h2 (rnea_le (hP.rg2 h2)), by rw [e]; exact Frm.up (by omega)⟩
    unfold sDec; rw [if_neg (by omega), if_pos k]
    unfold rnea; rw [if_pos ⟨Nat.lt_of_lt_of_le hq (blk_ge kb1), hq⟩]
  · have hc : S.2 (T (2 * j)) = .inr (2, [.int (nI (ws j).2.1), .int (nI (ws j).2.2.1), .int (nI (degN (ws j).2.1 9))]) := by rw [hc]; unfold gst; rw [if_neg (by omega), if_neg (by omega), if_pos k]
    have h3201 := hP.r320 h1
    have h3202 := hP.r320 h2
    have hdg1 : 2 ^ degN (ws j).2.1 9 ≤ (ws j).2.1 ∧ (ws j).2.1 < 2 ^ (degN (ws j).2.1 9 + 1) ∧ degN (ws j).2.1 9 ≤ 8 := degN_all (by omega) (by omega)
    refine va_Run.qv (va_runU (x := ⟨"SoundingLine$Stage", "decode", "(LSoundingLine$Row;LSoundingLine$Row;)V"⟩) (As := [.ref (G (21 + r1)), .ref (G (21 + r2))]) (rest := rest) C.fix (c_X2_decode l D cy S H.size (T (2 * j)) (ws j).2.1 (ws j).2.2.1 (degN (ws j).2.1 9) (G (21 + r1)) (G (37 + r1)) (gcap r1) (V.1 r1) (G (21 + r2)) (G (37 + r2)) (gcap r2) (V.1 r2) (V.2 r1) (V.2 r2) hL hc (hP.mem (by omega)) (hP.rh h1) (hP.mem (by omega)) (hP.rb h1) (hP.mem (by omega)) (hP.rh h2) (hP.mem (by omega)) (hP.rb h2) hdg1.1 hdg1.2.1 hdg1.2.2 kc3 kc4 (by omega) (gcap_27 r1) (hP.rn h1) (hP.rg2 h1) (gcap_27 r2) (hP.rn h2) (hP.rg2 h2) (hP.ne (by omega) (by omega) (by omega))) (va_cwA 2 C.2.2.2.2.1 (gU_U hlink mw_289 mw_314 mw_315 mw_139 sub_X2_decode) rfl rfl rfl (C.dcl 2 _ rfl) hdq_v_decode ⟨Nat.le_trans (Nat.le_of_ble_eq_true rfl) hR.1, Nat.le_trans (Nat.le_of_ble_eq_true rfl) hR.2⟩) (p_preV C hw hL hc rfl) rfl rfl hml rfl (lv_room hcat) hdg hcs) ?_
    refine fun S' e => ⟨rpos (chkD (V.2 r1) (V.1 r1) (ws j).2.2.1 (degN (ws j).2.1 9)) (V.2 r2) (V.1 r2) (blk (V.1 r2) (ws j).2.2.1 * (ws j).2.2.1), fun q hq => ?_, by rw [e]; exact hP.rowB h2 (rpos_le (fun q => rg_le (hP.rg2 h1) _ _) (hP.rg2 h2)), by rw [e]; exact Frm.up (by omega)⟩
    unfold sDec; rw [if_neg (by omega), if_neg (by omega), if_pos k]
    unfold rpos; rw [if_pos ⟨Nat.lt_of_lt_of_le hq (blk_ge kc3), hq⟩]
  · have hc : S.2 (T (2 * j)) = .inr (8, [.int (nI (ws j).2.1), .int (nI (ws j).2.2.1), .ref (T (2 * j + 1)), .ref (G 5)]) := by rw [hc]; unfold gst; rw [if_neg (by omega), if_neg (by omega), if_neg (by omega), if_pos k]
    have h3201 := hP.r320 h1
    have h3202 := hP.r320 h2
    have htb := ht3 k
    have h8 : ∀ q, (ws j).2.2.2 q < 8 := by rw [kt4]; exact ttab_lt
    have hk2 : 2 ≤ (ws j).2.2.1 := by rcases mk3_23 f3 with z | z <;> omega
    have hk3 : (ws j).2.2.1 ≤ 3 := by rcases mk3_23 f3 with z | z <;> omega
    obtain ⟨F, X, Wt, e6, e7, e8, hF, hWt⟩ := hP.lat
    have hs320 : sSize (ws j) (V.1 r2) ≤ 320 := by rw [← hs]; exact h3201
    have hst := stp_320 hok0 k hs320
    have hnb : V.1 r2 ≤ 310 := Nat.le_trans (Nat.le_trans (@stp_ge (ws j).2.1 (V.1 r2)) hst.1) (by omega)
    have hvF : ∀ q, (vit (ws j).2.2.2 (V.2 r1) (V.1 r1) (ws j).2.1 (ws j).2.2.1 F X Wt (stp (ws j).2.1 (V.1 r2))).1 q ≤ 2000000 := vit_2m kt1 kt2 hF (by omega)
    have hvW : ∀ q, (vit (ws j).2.2.2 (V.2 r1) (V.1 r1) (ws j).2.1 (ws j).2.2.1 F X Wt (stp (ws j).2.1 (V.1 r2))).2.2 q < 65536 := vit_w kt2 hWt _
    have hg1 : gcap r1 < 2 ^ 27 := gcap_27 r1
    refine va_Run.qv (va_runU (x := ⟨"SoundingLine$Stage", "decode", "(LSoundingLine$Row;LSoundingLine$Row;)V"⟩) (As := [.ref (G (21 + r1)), .ref (G (21 + r2))]) (rest := rest) C.fix (c_X9_decode l D cy S H.size (T (2 * j)) (ws j).2.1 (ws j).2.2.1 (T (2 * j + 1)) (G 5) (G 6) (G 7) (G 8) 2000000 (ws j).2.2.2 F X Wt (G (21 + r1)) (G (37 + r1)) (gcap r1) (V.1 r1) (G (21 + r2)) (G (37 + r2)) (gcap r2) (V.1 r2) (V.2 r1) (V.2 r2) hL hc hLt htb (hP.mem (by omega)) hP.c5 (hP.mem (by omega)) e6 (hP.mem (by omega)) e7 (hP.mem (by omega)) e8 (hP.mem (by omega)) (hP.rh h1) (hP.mem (by omega)) (hP.rb h1) (hP.mem (by omega)) (hP.rh h2) (hP.mem (by omega)) (hP.rb h2) kt1 kt2 hk2 hk3 h8 hnb (by omega) (by omega) hF hWt (hP.ne (by omega) (by omega) (by omega)) (hP.ne (by omega) (by omega) (by omega)) (hP.ne (by omega) (by omega) (by omega)) (hP.nT (by omega) (by omega)) (hP.nT (by omega) (by omega)) (hP.nT (by omega) (by omega)) (hP.ne (by omega) (by omega) (by omega)) (hP.ne (by omega) (by omega) (by omega)) (hP.ne (by omega) (by omega) (by omega)) (hP.ne (by omega) (by omega) (by omega)) (hP.ne (by omega) (by omega) (by omega)) (hP.ne (by omega) (by omega) (by omega)) (hP.nT (by omega) (by omega)) (gcap_27 r1) (hP.rn h1) (hP.rg2 h1) (gcap_27 r2) (hP.rn h2) (hP.rg2 h2) (hP.ne (by omega) (by omega) (by omega))) (va_cwA 2 C.2.2.2.2.1 (gU_U hlink mw_289 mw_322 mw_323 mw_150 sub_X9_decode) rfl rfl rfl (C.dcl 2 _ rfl) hdq_v_decode ⟨Nat.le_trans (Nat.le_of_ble_eq_true rfl) hR.1, Nat.le_trans (Nat.le_of_ble_eq_true rfl) hR.2⟩) (p_preV C hw hL hc rfl) rfl rfl hml rfl (lv_room hcat) hdg hcs) ?_
    refine fun S' e => ⟨rtb (V.2 r2) (V.1 r2) (ws j).2.1 (stp (ws j).2.1 (V.1 r2)) (vit (ws j).2.2.2 (V.2 r1) (V.1 r1) (ws j).2.1 (ws j).2.2.1 F X Wt (stp (ws j).2.1 (V.1 r2))).2.2 (stp (ws j).2.1 (V.1 r2)), fun q hq => ?_, by rw [e]; exact (hP.lat3 hvF hvW).rowB h2 (rtb_le kt1 kt2 (hP.rg2 h2)), by rw [e]; exact Frm.lat3.trans (Frm.up (by omega))⟩
    unfold sDec; rw [if_neg (by omega), if_neg (by omega), if_neg (by omega), if_pos k]
    exact rtb_D kt1 kt2 (by omega) hq
  · have hc : S.2 (T (2 * j)) = .inr (9, [.int (nI (ws j).2.1), .int (nI (ws j).2.2.1)]) := by rw [hc]; unfold gst; rw [if_neg (by omega), if_neg (by omega), if_neg (by omega), if_neg (by omega)]
    have h3201 := hP.r320 h1
    have h3202 := hP.r320 h2
    refine va_Run.qv (va_runU (x := ⟨"SoundingLine$Stage", "decode", "(LSoundingLine$Row;LSoundingLine$Row;)V"⟩) (As := [.ref (G (21 + r1)), .ref (G (21 + r2))]) (rest := rest) C.fix (c_X10_decode l D cy S H.size (T (2 * j)) (ws j).2.1 (ws j).2.2.1 (G (21 + r1)) (G (37 + r1)) (gcap r1) (V.1 r1) (G (21 + r2)) (G (37 + r2)) (gcap r2) (V.1 r2) (V.2 r1) (V.2 r2) hL hc (hP.mem (by omega)) (hP.rh h1) (hP.mem (by omega)) (hP.rb h1) (hP.mem (by omega)) (hP.rh h2) (hP.mem (by omega)) (hP.rb h2) kw1 kw2 kw3 kw4 (by omega) (gcap_27 r1) (hP.rn h1) (hP.rg2 h1) (gcap_27 r2) (hP.rn h2) (hP.rg2 h2) (hP.ne (by omega) (by omega) (by omega))) (va_cwA 2 C.2.2.2.2.1 (gU_U hlink mw_289 mw_367 mw_368 mw_160 sub_X10_decode) rfl rfl rfl (C.dcl 2 _ rfl) hdq_v_decode ⟨Nat.le_trans (Nat.le_of_ble_eq_true rfl) hR.1, Nat.le_trans (Nat.le_of_ble_eq_true rfl) hR.2⟩) (p_preV C hw hL hc rfl) rfl rfl hml rfl (lv_room hcat) hdg hcs) ?_
    refine fun S' e => ⟨rwd (V.2 r2) (V.1 r2) (V.2 r1) (V.1 r1) (ws j).2.1 (ws j).2.2.1 (V.1 r1), fun q hq => ?_, by rw [e]; exact hP.rowB h2 (rwd_le (hP.rg2 h2) (hP.rg2 h1) _), by rw [e]; exact Frm.up (by omega)⟩
    unfold sDec; rw [if_neg (by omega), if_neg (by omega), if_neg (by omega), if_neg (by omega)]
    rw [rwd_I kw1 kw3, if_pos ⟨?_, hq⟩]
    rw [hs]; unfold sSize; rw [if_neg (by omega), if_neg (by omega), if_neg (by omega), if_neg (by omega)]
    exact wvI_lt kw1 kw3 hq
theorem hdq_v_apart : "SoundingLine$Stage" ≠ "java/lang/invoke/MethodHandle" ∧ "SoundingLine$Stage" ≠ "java/lang/invoke/VarHandle" ∧ (parseMethodDescriptor "()I").map (fun d => d.parameters.length) = some 0 := by decide +kernel
set_option maxHeartbeats 2000000 in
theorem v_apart {p : Program} {l : Launch} {e : Env} {R : Room} {s : State} {m : MethodId} {args : Array Value} {below : List Frame} {meth : Method} {c : Code} {H : Heap} {locs : List Loc} {cells slots : Nat} {cc : ByteArray} {nL : Nat} {own : String} {D : va_G} {cy : Nat → ClassId} {A : Nat → Prop} {H0 : Heap} {S : pS} {pc : Nat} {ls : Array Slot} {rest : List Value} {x0 : Cond} {G T : Nat → Nat} {n : Nat} {ws : Nat → WV} {l1 l2 : va_E} {V : RV} (C : pC p s m args c cc nL own (x0 :: lwU) D cy) (hw : pW D A H0 S H locs) (hml : ls.size = nL) (hP : Pic cy S G T n ws l1 l2 V) {j : Nat} (hj : j < n)  {index : Nat} (hlink : Cond.methodLink own index ⟨"SoundingLine$Stage", "apart", "()I"⟩ ∈ lwU) (hR : 4 ≤ R.frames ∧ 100 ≤ R.locals) (hcs : cells + 0 ≤ R.cells ∧ slots + 0 ≤ R.slots) (hcat : (rest.map fun v => v.category).sum ≤ 8) (hdg : decode cc pc = .ok (.invokevirtual index, 3)) :
    va_Run p l e R s m args below meth c H locs cells slots 0 0 (F0 m pc ls (.ref (T (2 * j)) :: rest)) rest (pQi D cy S H.size (fun r S' => r = nI (sApart (ws j)) ∧ Pic cy S' G T n ws l1 l2 V ∧ Frm G S S') #[]) (pA S H.size) := by
  have hn4 := hP.n4
  obtain ⟨hok, hc, ht1, ht3, hL, hLt⟩ := hP.stg hj
  have hok0 := hok
  rcases hok with ⟨k, ko1, ko2⟩ | ⟨k, kb1, kb2, kb3, kb4, b1, b2, b3, b4, hb1, hb2, hb3, hb4, kb5⟩ | ⟨k, kc1, kc2, kc3, kc4⟩ | ⟨k, kt1, kt2, f1, f2, f3, hf1, hf2, hf3, kt3, kt4⟩ | ⟨k, kw1, kw2, kw3, kw4⟩
  · have hc : S.2 (T (2 * j)) = .inr (6, [.int (nI (ws j).2.1)]) := by rw [hc]; unfold gst; rw [if_pos k]
    refine va_Run.qi (va_runU (x := ⟨"SoundingLine$Stage", "apart", "()I"⟩) (As := []) (rest := rest) C.fix (c_X6_apart l D cy S H.size (T (2 * j)) (ws j).2.1 hL hc) (va_cwO 0 C.2.2.2.2.1 (gU_O hlink mw_478 mw_479 mw_486 mw_487 mw_145 sub_X6_apart) rfl rfl rfl (mU mw_483) hdq_v_apart ⟨Nat.le_trans (Nat.le_of_ble_eq_true rfl) hR.1, Nat.le_trans (Nat.le_of_ble_eq_true rfl) hR.2⟩) (p_preV C hw hL hc rfl) rfl rfl hml rfl (lv_room hcat) hdg hcs) ?_
    exact fun r S' e => ⟨e.1.trans (by unfold sApart; rw [if_pos k]), by rw [← e.2]; exact hP, by rw [← e.2]; exact Frm.id⟩
  · have hc : S.2 (T (2 * j)) = .inr (0, [.int (nI (ws j).2.1), .int (nI (ws j).2.2.1), .ref (T (2 * j + 1))]) := by rw [hc]; unfold gst; rw [if_neg (by omega), if_pos k]
    have htb := ht1 k
    have h1024 : ∀ q, (ws j).2.2.2 q < 1024 := by rw [kb5]; exact bwt_lt (Nat.lt_of_lt_of_le hb1 (two_pow_10 kb4)) (Nat.lt_of_lt_of_le hb2 (two_pow_10 kb4)) (Nat.lt_of_lt_of_le hb3 (two_pow_10 kb4)) (Nat.lt_of_lt_of_le hb4 (two_pow_10 kb4))
    refine va_Run.qi (va_runU (x := ⟨"SoundingLine$Stage", "apart", "()I"⟩) (As := []) (rest := rest) C.fix (c_X0_apart l D cy S H.size (T (2 * j)) (ws j).2.1 (ws j).2.2.1 (T (2 * j + 1)) (ws j).2.2.2 hL hc hLt htb kb2 kb4 h1024) (va_cwO 0 C.2.2.2.2.1 (gU_O hlink mw_478 mw_479 mw_480 mw_481 mw_131 sub_X0_apart) rfl rfl rfl (mU mw_483) hdq_v_apart ⟨Nat.le_trans (Nat.le_of_ble_eq_true rfl) hR.1, Nat.le_trans (Nat.le_of_ble_eq_true rfl) hR.2⟩) (p_preV C hw hL hc rfl) rfl rfl hml rfl (lv_room hcat) hdg hcs) ?_
    exact fun r S' e => ⟨e.1.trans (by unfold sApart; rw [if_neg (by omega), if_pos k]), by rw [← e.2]; exact hP, by rw [← e.2]; exact Frm.id⟩
  · have hc : S.2 (T (2 * j)) = .inr (2, [.int (nI (ws j).2.1), .int (nI (ws j).2.2.1), .int (nI (degN (ws j).2.1 9))]) := by rw [hc]; unfold gst; rw [if_neg (by omega), if_neg (by omega), if_pos k]
    refine va_Run.qi (va_runU (x := ⟨"SoundingLine$Stage", "apart", "()I"⟩) (As := []) (rest := rest) C.fix (c_X8_apart l D cy S H.size (T (2 * j))) (va_cwU 0 C.2.2.2.2.1 (gU_U hlink mw_478 mw_484 mw_479 mw_413 sub_X8_apart) rfl rfl rfl rfl hdq_v_apart ⟨Nat.le_trans (Nat.le_of_ble_eq_true rfl) hR.1, Nat.le_trans (Nat.le_of_ble_eq_true rfl) hR.2⟩) (p_preV C hw hL hc rfl) rfl rfl hml rfl (lv_room hcat) hdg hcs) ?_
    exact fun r S' e => ⟨e.1.trans (by unfold sApart; rw [if_neg (by omega), if_neg (by omega), if_neg (by omega)]), by rw [← e.2]; exact hP, by rw [← e.2]; exact Frm.id⟩
  · have hc : S.2 (T (2 * j)) = .inr (8, [.int (nI (ws j).2.1), .int (nI (ws j).2.2.1), .ref (T (2 * j + 1)), .ref (G 5)]) := by rw [hc]; unfold gst; rw [if_neg (by omega), if_neg (by omega), if_neg (by omega), if_pos k]
    have htb := ht3 k
    have h8 : ∀ q, (ws j).2.2.2 q < 8 := by rw [kt4]; exact ttab_lt
    have hk2 : 2 ≤ (ws j).2.2.1 := by rcases mk3_23 f3 with z | z <;> omega
    have hk3 : (ws j).2.2.1 ≤ 3 := by rcases mk3_23 f3 with z | z <;> omega
    obtain ⟨F, X, Wt, e6, e7, e8, hF, hWt⟩ := hP.lat
    have hvF : ∀ q, (apr (ws j).2.2.2 (ws j).2.1 (ws j).2.2.1 F X Wt 19).1.1 q ≤ 2000000 := apr_2m kt1 kt2 hF
    have hvW : ∀ q, (apr (ws j).2.2.2 (ws j).2.1 (ws j).2.2.1 F X Wt 19).1.2.2 q < 65536 := apr_w kt2 hWt _
    refine va_Run.qi (va_runU (x := ⟨"SoundingLine$Stage", "apart", "()I"⟩) (As := []) (rest := rest) C.fix (c_X9_apart l D cy S H.size (T (2 * j)) (ws j).2.1 (ws j).2.2.1 (T (2 * j + 1)) (G 5) (G 6) (G 7) (G 8) 2000000 (ws j).2.2.2 F X Wt hL hc hLt htb (hP.mem (by omega)) hP.c5 (hP.mem (by omega)) e6 (hP.mem (by omega)) e7 (hP.mem (by omega)) e8 kt1 kt2 hk2 hk3 h8 (by omega) (by omega) hF hWt (hP.ne (by omega) (by omega) (by omega)) (hP.ne (by omega) (by omega) (by omega)) (hP.ne (by omega) (by omega) (by omega)) (hP.nT (by omega) (by omega)) (hP.nT (by omega) (by omega)) (hP.nT (by omega) (by omega))) (va_cwO 0 C.2.2.2.2.1 (gU_O hlink mw_478 mw_479 mw_489 mw_490 mw_150 sub_X9_apart) rfl rfl rfl (mU mw_483) hdq_v_apart ⟨Nat.le_trans (Nat.le_of_ble_eq_true rfl) hR.1, Nat.le_trans (Nat.le_of_ble_eq_true rfl) hR.2⟩) (p_preV C hw hL hc rfl) rfl rfl hml rfl (lv_room hcat) hdg hcs) ?_
    exact fun r S' e => ⟨e.1.trans (by unfold sApart; rw [if_neg (by omega), if_neg (by omega), if_pos k]; rw [apr_c kt1 kt2 F X Wt]), by rw [e.2]; exact hP.lat3 hvF hvW, by rw [e.2]; exact Frm.lat3⟩
  · have hc : S.2 (T (2 * j)) = .inr (9, [.int (nI (ws j).2.1), .int (nI (ws j).2.2.1)]) := by rw [hc]; unfold gst; rw [if_neg (by omega), if_neg (by omega), if_neg (by omega), if_neg (by omega)]
    refine va_Run.qi (va_runU (x := ⟨"SoundingLine$Stage", "apart", "()I"⟩) (As := []) (rest := rest) C.fix (c_X8_apart l D cy S H.size (T (2 * j))) (va_cwU 0 C.2.2.2.2.1 (gU_U hlink mw_478 mw_497 mw_479 mw_413 sub_X8_apart) rfl rfl rfl rfl hdq_v_apart ⟨Nat.le_trans (Nat.le_of_ble_eq_true rfl) hR.1, Nat.le_trans (Nat.le_of_ble_eq_true rfl) hR.2⟩) (p_preV C hw hL hc rfl) rfl rfl hml rfl (lv_room hcat) hdg hcs) ?_
    exact fun r S' e => ⟨e.1.trans (by unfold sApart; rw [if_neg (by omega), if_neg (by omega), if_neg (by omega)]), by rw [← e.2]; exact hP, by rw [← e.2]; exact Frm.id⟩
theorem hdq_v_damagedIn : "SoundingLine$Stage" ≠ "java/lang/invoke/MethodHandle" ∧ "SoundingLine$Stage" ≠ "java/lang/invoke/VarHandle" ∧ (parseMethodDescriptor "(LSoundingLine$Row;)I").map (fun d => d.parameters.length) = some 1 := by decide +kernel
set_option maxHeartbeats 2000000 in
theorem v_damagedIn {p : Program} {l : Launch} {e : Env} {R : Room} {s : State} {m : MethodId} {args : Array Value} {below : List Frame} {meth : Method} {c : Code} {H : Heap} {locs : List Loc} {cells slots : Nat} {cc : ByteArray} {nL : Nat} {own : String} {D : va_G} {cy : Nat → ClassId} {A : Nat → Prop} {H0 : Heap} {S : pS} {pc : Nat} {ls : Array Slot} {rest : List Value} {x0 : Cond} {G T : Nat → Nat} {n : Nat} {ws : Nat → WV} {l1 l2 : va_E} {V : RV} (C : pC p s m args c cc nL own (x0 :: lwU) D cy) (hw : pW D A H0 S H locs) (hml : ls.size = nL) (hP : Pic cy S G T n ws l1 l2 V) {j : Nat} (hj : j < n) {r1 : Nat} (h1 : r1 < 16) {index : Nat} (hlink : Cond.methodLink own index ⟨"SoundingLine$Stage", "damagedIn", "(LSoundingLine$Row;)I"⟩ ∈ lwU) (hR : 4 ≤ R.frames ∧ 100 ≤ R.locals) (hcs : cells + 0 ≤ R.cells ∧ slots + 0 ≤ R.slots) (hcat : (rest.map fun v => v.category).sum ≤ 8) (hdg : decode cc pc = .ok (.invokevirtual index, 3)) :
    va_Run p l e R s m args below meth c H locs cells slots 0 0 (F0 m pc ls (.ref (G (21 + r1)) :: .ref (T (2 * j)) :: rest)) rest (pQi D cy S H.size (fun r S' => r = nI (sDam (ws j) (V.1 r1) (V.2 r1)) ∧ S = S') #[]) (pA S H.size) := by
  have hn4 := hP.n4
  obtain ⟨hok, hc, ht1, ht3, hL, hLt⟩ := hP.stg hj
  have hok0 := hok
  rcases hok with ⟨k, ko1, ko2⟩ | ⟨k, kb1, kb2, kb3, kb4, b1, b2, b3, b4, hb1, hb2, hb3, hb4, kb5⟩ | ⟨k, kc1, kc2, kc3, kc4⟩ | ⟨k, kt1, kt2, f1, f2, f3, hf1, hf2, hf3, kt3, kt4⟩ | ⟨k, kw1, kw2, kw3, kw4⟩
  · have hc : S.2 (T (2 * j)) = .inr (6, [.int (nI (ws j).2.1)]) := by rw [hc]; unfold gst; rw [if_pos k]
    refine va_Run.qi (va_runU (x := ⟨"SoundingLine$Stage", "damagedIn", "(LSoundingLine$Row;)I"⟩) (As := [.ref (G (21 + r1))]) (rest := rest) C.fix (c_X8_damagedIn l D cy S H.size (T (2 * j)) (G (21 + r1))) (va_cwU 1 C.2.2.2.2.1 (gU_U hlink mw_557 mw_569 mw_561 mw_413 sub_X8_damagedIn) rfl rfl rfl rfl hdq_v_damagedIn ⟨Nat.le_trans (Nat.le_of_ble_eq_true rfl) hR.1, Nat.le_trans (Nat.le_of_ble_eq_true rfl) hR.2⟩) (p_preV C hw hL hc rfl) rfl rfl hml rfl (lv_room hcat) hdg hcs) ?_
    exact fun r S' e => ⟨e.1.trans (by unfold sDam; rw [if_neg (by omega)]), e.2⟩
  · have hc : S.2 (T (2 * j)) = .inr (0, [.int (nI (ws j).2.1), .int (nI (ws j).2.2.1), .ref (T (2 * j + 1))]) := by rw [hc]; unfold gst; rw [if_neg (by omega), if_pos k]
    refine va_Run.qi (va_runU (x := ⟨"SoundingLine$Stage", "damagedIn", "(LSoundingLine$Row;)I"⟩) (As := [.ref (G (21 + r1))]) (rest := rest) C.fix (c_X8_damagedIn l D cy S H.size (T (2 * j)) (G (21 + r1))) (va_cwU 1 C.2.2.2.2.1 (gU_U hlink mw_557 mw_558 mw_561 mw_413 sub_X8_damagedIn) rfl rfl rfl rfl hdq_v_damagedIn ⟨Nat.le_trans (Nat.le_of_ble_eq_true rfl) hR.1, Nat.le_trans (Nat.le_of_ble_eq_true rfl) hR.2⟩) (p_preV C hw hL hc rfl) rfl rfl hml rfl (lv_room hcat) hdg hcs) ?_
    exact fun r S' e => ⟨e.1.trans (by unfold sDam; rw [if_neg (by omega)]), e.2⟩
  · have hc : S.2 (T (2 * j)) = .inr (2, [.int (nI (ws j).2.1), .int (nI (ws j).2.2.1), .int (nI (degN (ws j).2.1 9))]) := by rw [hc]; unfold gst; rw [if_neg (by omega), if_neg (by omega), if_pos k]
    have h3201 := hP.r320 h1
    have hdg1 : 2 ^ degN (ws j).2.1 9 ≤ (ws j).2.1 ∧ (ws j).2.1 < 2 ^ (degN (ws j).2.1 9 + 1) ∧ degN (ws j).2.1 9 ≤ 8 := degN_all (by omega) (by omega)
    refine va_Run.qi (va_runU (x := ⟨"SoundingLine$Stage", "damagedIn", "(LSoundingLine$Row;)I"⟩) (As := [.ref (G (21 + r1))]) (rest := rest) C.fix (c_X2_damagedIn l D cy S H.size (T (2 * j)) (ws j).2.1 (ws j).2.2.1 (degN (ws j).2.1 9) (G (21 + r1)) (G (37 + r1)) (gcap r1) (V.1 r1) (V.2 r1) hL hc (hP.mem (by omega)) (hP.rh h1) (hP.mem (by omega)) (hP.rb h1) hdg1.1 hdg1.2.1 hdg1.2.2 kc3 kc4 (by omega) (gcap_27 r1) (hP.rn h1) (hP.rg2 h1)) (va_cwO 1 C.2.2.2.2.1 (gU_O hlink mw_557 mw_561 mw_562 mw_563 mw_139 sub_X2_damagedIn) rfl rfl rfl (mU mw_560) hdq_v_damagedIn ⟨Nat.le_trans (Nat.le_of_ble_eq_true rfl) hR.1, Nat.le_trans (Nat.le_of_ble_eq_true rfl) hR.2⟩) (p_preV C hw hL hc rfl) rfl rfl hml rfl (lv_room hcat) hdg hcs) ?_
    exact fun r S' e => ⟨e.1.trans (by unfold sDam; rw [if_pos k]), e.2⟩
  · have hc : S.2 (T (2 * j)) = .inr (8, [.int (nI (ws j).2.1), .int (nI (ws j).2.2.1), .ref (T (2 * j + 1)), .ref (G 5)]) := by rw [hc]; unfold gst; rw [if_neg (by omega), if_neg (by omega), if_neg (by omega), if_pos k]
    refine va_Run.qi (va_runU (x := ⟨"SoundingLine$Stage", "damagedIn", "(LSoundingLine$Row;)I"⟩) (As := [.ref (G (21 + r1))]) (rest := rest) C.fix (c_X8_damagedIn l D cy S H.size (T (2 * j)) (G (21 + r1))) (va_cwU 1 C.2.2.2.2.1 (gU_U hlink mw_557 mw_570 mw_561 mw_413 sub_X8_damagedIn) rfl rfl rfl rfl hdq_v_damagedIn ⟨Nat.le_trans (Nat.le_of_ble_eq_true rfl) hR.1, Nat.le_trans (Nat.le_of_ble_eq_true rfl) hR.2⟩) (p_preV C hw hL hc rfl) rfl rfl hml rfl (lv_room hcat) hdg hcs) ?_
    exact fun r S' e => ⟨e.1.trans (by unfold sDam; rw [if_neg (by omega)]), e.2⟩
  · have hc : S.2 (T (2 * j)) = .inr (9, [.int (nI (ws j).2.1), .int (nI (ws j).2.2.1)]) := by rw [hc]; unfold gst; rw [if_neg (by omega), if_neg (by omega), if_neg (by omega), if_neg (by omega)]
    refine va_Run.qi (va_runU (x := ⟨"SoundingLine$Stage", "damagedIn", "(LSoundingLine$Row;)I"⟩) (As := [.ref (G (21 + r1))]) (rest := rest) C.fix (c_X8_damagedIn l D cy S H.size (T (2 * j)) (G (21 + r1))) (va_cwU 1 C.2.2.2.2.1 (gU_U hlink mw_557 mw_571 mw_561 mw_413 sub_X8_damagedIn) rfl rfl rfl rfl hdq_v_damagedIn ⟨Nat.le_trans (Nat.le_of_ble_eq_true rfl) hR.1, Nat.le_trans (Nat.le_of_ble_eq_true rfl) hR.2⟩) (p_preV C hw hL hc rfl) rfl rfl hml rfl (lv_room hcat) hdg hcs) ?_
    exact fun r S' e => ⟨e.1.trans (by unfold sDam; rw [if_neg (by omega)]), e.2⟩
theorem hdq_v_wordsWith : "SoundingLine$Stage" ≠ "java/lang/invoke/MethodHandle" ∧ "SoundingLine$Stage" ≠ "java/lang/invoke/VarHandle" ∧ (parseMethodDescriptor "(I)I").map (fun d => d.parameters.length) = some 1 := by decide +kernel
set_option maxHeartbeats 2000000 in
theorem v_wordsWith {p : Program} {l : Launch} {e : Env} {R : Room} {s : State} {m : MethodId} {args : Array Value} {below : List Frame} {meth : Method} {c : Code} {H : Heap} {locs : List Loc} {cells slots : Nat} {cc : ByteArray} {nL : Nat} {own : String} {D : va_G} {cy : Nat → ClassId} {A : Nat → Prop} {H0 : Heap} {S : pS} {pc : Nat} {ls : Array Slot} {rest : List Value} {x0 : Cond} {G T : Nat → Nat} {n : Nat} {ws : Nat → WV} {l1 l2 : va_E} {V : RV} (C : pC p s m args c cc nL own (x0 :: lwU) D cy) (hw : pW D A H0 S H locs) (hml : ls.size = nL) (hP : Pic cy S G T n ws l1 l2 V) {j : Nat} (hj : j < n) {o : Nat} (ho : o < 2 ^ 31) {index : Nat} (hlink : Cond.methodLink own index ⟨"SoundingLine$Stage", "wordsWith", "(I)I"⟩ ∈ lwU) (hR : 4 ≤ R.frames ∧ 100 ≤ R.locals) (hcs : cells + 0 ≤ R.cells ∧ slots + 0 ≤ R.slots) (hcat : (rest.map fun v => v.category).sum ≤ 8) (hdg : decode cc pc = .ok (.invokevirtual index, 3)) :
    va_Run p l e R s m args below meth c H locs cells slots 0 0 (F0 m pc ls (.int (nI o) :: .ref (T (2 * j)) :: rest)) rest (pQi D cy S H.size (fun r S' => r = nI (sWrd (ws j) o) ∧ S = S') #[]) (pA S H.size) := by
  have hn4 := hP.n4
  obtain ⟨hok, hc, ht1, ht3, hL, hLt⟩ := hP.stg hj
  have hok0 := hok
  rcases hok with ⟨k, ko1, ko2⟩ | ⟨k, kb1, kb2, kb3, kb4, b1, b2, b3, b4, hb1, hb2, hb3, hb4, kb5⟩ | ⟨k, kc1, kc2, kc3, kc4⟩ | ⟨k, kt1, kt2, f1, f2, f3, hf1, hf2, hf3, kt3, kt4⟩ | ⟨k, kw1, kw2, kw3, kw4⟩
  · have hc : S.2 (T (2 * j)) = .inr (6, [.int (nI (ws j).2.1)]) := by rw [hc]; unfold gst; rw [if_pos k]
    refine va_Run.qi (va_runU (x := ⟨"SoundingLine$Stage", "wordsWith", "(I)I"⟩) (As := [.int (nI o)]) (rest := rest) C.fix (c_X8_wordsWith l D cy S H.size (T (2 * j)) (nI o)) (va_cwU 1 C.2.2.2.2.1 (gU_U hlink mw_578 mw_586 mw_579 mw_413 sub_X8_wordsWith) rfl rfl rfl rfl hdq_v_wordsWith ⟨Nat.le_trans (Nat.le_of_ble_eq_true rfl) hR.1, Nat.le_trans (Nat.le_of_ble_eq_true rfl) hR.2⟩) (p_preV C hw hL hc rfl) rfl rfl hml rfl (lv_room hcat) hdg hcs) ?_
    exact fun r S' e => ⟨e.1.trans (by unfold sWrd; rw [if_neg (by omega)]), e.2⟩
  · have hc : S.2 (T (2 * j)) = .inr (0, [.int (nI (ws j).2.1), .int (nI (ws j).2.2.1), .ref (T (2 * j + 1))]) := by rw [hc]; unfold gst; rw [if_neg (by omega), if_pos k]
    have htb := ht1 k
    have h1024 : ∀ q, (ws j).2.2.2 q < 1024 := by rw [kb5]; exact bwt_lt (Nat.lt_of_lt_of_le hb1 (two_pow_10 kb4)) (Nat.lt_of_lt_of_le hb2 (two_pow_10 kb4)) (Nat.lt_of_lt_of_le hb3 (two_pow_10 kb4)) (Nat.lt_of_lt_of_le hb4 (two_pow_10 kb4))
    refine va_Run.qi (va_runU (x := ⟨"SoundingLine$Stage", "wordsWith", "(I)I"⟩) (As := [.int (nI o)]) (rest := rest) C.fix (c_X0_wordsWith l D cy S H.size (T (2 * j)) (ws j).2.1 (ws j).2.2.1 (T (2 * j + 1)) o (ws j).2.2.2 hL hc hLt htb kb2 ho h1024) (va_cwO 1 C.2.2.2.2.1 (gU_O hlink mw_578 mw_579 mw_580 mw_581 mw_131 sub_X0_wordsWith) rfl rfl rfl (mU mw_583) hdq_v_wordsWith ⟨Nat.le_trans (Nat.le_of_ble_eq_true rfl) hR.1, Nat.le_trans (Nat.le_of_ble_eq_true rfl) hR.2⟩) (p_preV C hw hL hc rfl) rfl rfl hml rfl (lv_room hcat) hdg hcs) ?_
    exact fun r S' e => ⟨e.1.trans (by unfold sWrd; rw [if_pos k]), e.2⟩
  · have hc : S.2 (T (2 * j)) = .inr (2, [.int (nI (ws j).2.1), .int (nI (ws j).2.2.1), .int (nI (degN (ws j).2.1 9))]) := by rw [hc]; unfold gst; rw [if_neg (by omega), if_neg (by omega), if_pos k]
    refine va_Run.qi (va_runU (x := ⟨"SoundingLine$Stage", "wordsWith", "(I)I"⟩) (As := [.int (nI o)]) (rest := rest) C.fix (c_X8_wordsWith l D cy S H.size (T (2 * j)) (nI o)) (va_cwU 1 C.2.2.2.2.1 (gU_U hlink mw_578 mw_584 mw_579 mw_413 sub_X8_wordsWith) rfl rfl rfl rfl hdq_v_wordsWith ⟨Nat.le_trans (Nat.le_of_ble_eq_true rfl) hR.1, Nat.le_trans (Nat.le_of_ble_eq_true rfl) hR.2⟩) (p_preV C hw hL hc rfl) rfl rfl hml rfl (lv_room hcat) hdg hcs) ?_
    exact fun r S' e => ⟨e.1.trans (by unfold sWrd; rw [if_neg (by omega)]), e.2⟩
  · have hc : S.2 (T (2 * j)) = .inr (8, [.int (nI (ws j).2.1), .int (nI (ws j).2.2.1), .ref (T (2 * j + 1)), .ref (G 5)]) := by rw [hc]; unfold gst; rw [if_neg (by omega), if_neg (by omega), if_neg (by omega), if_pos k]
    refine va_Run.qi (va_runU (x := ⟨"SoundingLine$Stage", "wordsWith", "(I)I"⟩) (As := [.int (nI o)]) (rest := rest) C.fix (c_X8_wordsWith l D cy S H.size (T (2 * j)) (nI o)) (va_cwU 1 C.2.2.2.2.1 (gU_U hlink mw_578 mw_587 mw_579 mw_413 sub_X8_wordsWith) rfl rfl rfl rfl hdq_v_wordsWith ⟨Nat.le_trans (Nat.le_of_ble_eq_true rfl) hR.1, Nat.le_trans (Nat.le_of_ble_eq_true rfl) hR.2⟩) (p_preV C hw hL hc rfl) rfl rfl hml rfl (lv_room hcat) hdg hcs) ?_
    exact fun r S' e => ⟨e.1.trans (by unfold sWrd; rw [if_neg (by omega)]), e.2⟩
  · have hc : S.2 (T (2 * j)) = .inr (9, [.int (nI (ws j).2.1), .int (nI (ws j).2.2.1)]) := by rw [hc]; unfold gst; rw [if_neg (by omega), if_neg (by omega), if_neg (by omega), if_neg (by omega)]
    refine va_Run.qi (va_runU (x := ⟨"SoundingLine$Stage", "wordsWith", "(I)I"⟩) (As := [.int (nI o)]) (rest := rest) C.fix (c_X8_wordsWith l D cy S H.size (T (2 * j)) (nI o)) (va_cwU 1 C.2.2.2.2.1 (gU_U hlink mw_578 mw_588 mw_579 mw_413 sub_X8_wordsWith) rfl rfl rfl rfl hdq_v_wordsWith ⟨Nat.le_trans (Nat.le_of_ble_eq_true rfl) hR.1, Nat.le_trans (Nat.le_of_ble_eq_true rfl) hR.2⟩) (p_preV C hw hL hc rfl) rfl rfl hml rfl (lv_room hcat) hdg hcs) ?_
    exact fun r S' e => ⟨e.1.trans (by unfold sWrd; rw [if_neg (by omega)]), e.2⟩
