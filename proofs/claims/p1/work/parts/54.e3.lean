theorem lw_str {args : Array Value} {s : State} (hts : ∀ w ∈ lw_tbl, w.before args s = true) (hgv : (Jvm.Cond.and given_1 narrow_1).before args s = true) : ∀ (k : Nat) (q : Nat × String), pStr[k]? = some q → ∃ sa : Nat, vk_R RX11 q.1 q.2 sa s := by
  have hs := flat_of_before _ hgv
  intro k q hq
  match k, hq with
  | 0, hq => cases hq; obtain ⟨a, _, _, _, h1, _⟩ := Cond.exactly_spec (hs (.exactly (.string "SoundingLine" 60) "java/lang/String") (by decide +kernel)); exact ⟨a, vk_R.of (hts _ (tm3 _ (List.mem_of_getElem? (i := 171) rfl))) h1⟩
  | 1, hq => cases hq; obtain ⟨a, _, _, _, h1, _⟩ := Cond.exactly_spec (hs (.exactly (.string "SoundingLine" 69) "java/lang/String") (by decide +kernel)); exact ⟨a, vk_R.of (hts _ (tm3 _ (List.mem_of_getElem? (i := 175) rfl))) h1⟩
  | 2, hq => cases hq; obtain ⟨a, _, _, _, h1, _⟩ := Cond.exactly_spec (hs (.exactly (.string "SoundingLine" 81) "java/lang/String") (by decide +kernel)); exact ⟨a, vk_R.of (hts _ (tm3 _ (List.mem_of_getElem? (i := 185) rfl))) h1⟩
  | 3, hq => cases hq; obtain ⟨a, _, _, _, h1, _⟩ := Cond.exactly_spec (hs (.exactly (.string "SoundingLine" 88) "java/lang/String") (by decide +kernel)); exact ⟨a, vk_R.of (hts _ (tm3 _ (List.mem_of_getElem? (i := 196) rfl))) h1⟩
  | 4, hq => cases hq; obtain ⟨a, _, _, _, h1, _⟩ := Cond.exactly_spec (hs (.exactly (.string "SoundingLine" 97) "java/lang/String") (by decide +kernel)); exact ⟨a, vk_R.of (hts _ (tm3 _ (List.mem_of_getElem? (i := 205) rfl))) h1⟩
  | 5, hq => cases hq; obtain ⟨a, _, _, _, h1, _⟩ := Cond.exactly_spec (hs (.exactly (.string "SoundingLine" 106) "java/lang/String") (by decide +kernel)); exact ⟨a, vk_R.of (hts _ (tm3 _ (List.mem_of_getElem? (i := 236) rfl))) h1⟩
  | 6, hq => cases hq; obtain ⟨a, _, _, _, h1, _⟩ := Cond.exactly_spec (hs (.exactly (.string "SoundingLine" 108) "java/lang/String") (by decide +kernel)); exact ⟨a, vk_R.of (hts _ (tm3 _ (List.mem_of_getElem? (i := 237) rfl))) h1⟩
  | 7, hq => cases hq; obtain ⟨a, _, _, _, h1, _⟩ := Cond.exactly_spec (hs (.exactly (.string "SoundingLine" 110) "java/lang/String") (by decide +kernel)); exact ⟨a, vk_R.of (hts _ (tm3 _ (List.mem_of_getElem? (i := 238) rfl))) h1⟩
  | 8, hq => cases hq; obtain ⟨a, _, _, _, h1, _⟩ := Cond.exactly_spec (hs (.exactly (.string "SoundingLine" 117) "java/lang/String") (by decide +kernel)); exact ⟨a, vk_R.of (hts _ (tm4 _ (List.mem_of_getElem? (i := 24) rfl))) h1⟩
  | 9, hq => cases hq; obtain ⟨a, _, _, _, h1, _⟩ := Cond.exactly_spec (hs (.exactly (.string "SoundingLine" 119) "java/lang/String") (by decide +kernel)); exact ⟨a, vk_R.of (hts _ (tm4 _ (List.mem_of_getElem? (i := 25) rfl))) h1⟩
  | 10, hq => cases hq; obtain ⟨a, _, _, _, h1, _⟩ := Cond.exactly_spec (hs (.exactly (.string "SoundingLine" 126) "java/lang/String") (by decide +kernel)); exact ⟨a, vk_R.of (hts _ (tm4 _ (List.mem_of_getElem? (i := 51) rfl))) h1⟩
  | 11, hq => cases hq; obtain ⟨a, _, _, _, h1, _⟩ := Cond.exactly_spec (hs (.exactly (.string "SoundingLine" 128) "java/lang/String") (by decide +kernel)); exact ⟨a, vk_R.of (hts _ (tm4 _ (List.mem_of_getElem? (i := 52) rfl))) h1⟩
  | 12, hq => cases hq; obtain ⟨a, _, _, _, h1, _⟩ := Cond.exactly_spec (hs (.exactly (.string "SoundingLine" 130) "java/lang/String") (by decide +kernel)); exact ⟨a, vk_R.of (hts _ (tm4 _ (List.mem_of_getElem? (i := 53) rfl))) h1⟩
  | 13, hq => cases hq; obtain ⟨a, _, _, _, h1, _⟩ := Cond.exactly_spec (hs (.exactly (.string "SoundingLine" 137) "java/lang/String") (by decide +kernel)); exact ⟨a, vk_R.of (hts _ (tm4 _ (List.mem_of_getElem? (i := 82) rfl))) h1⟩
  | 14, hq => cases hq; obtain ⟨a, _, _, _, h1, _⟩ := Cond.exactly_spec (hs (.exactly (.string "SoundingLine" 145) "java/lang/String") (by decide +kernel)); exact ⟨a, vk_R.of (hts _ (tm4 _ (List.mem_of_getElem? (i := 102) rfl))) h1⟩
  | 15, hq => cases hq; obtain ⟨a, _, _, _, h1, _⟩ := Cond.exactly_spec (hs (.exactly (.string "SoundingLine" 150) "java/lang/String") (by decide +kernel)); exact ⟨a, vk_R.of (hts _ (tm4 _ (List.mem_of_getElem? (i := 114) rfl))) h1⟩
  | 16, hq => cases hq; obtain ⟨a, _, _, _, h1, _⟩ := Cond.exactly_spec (hs (.exactly (.string "SoundingLine" 153) "java/lang/String") (by decide +kernel)); exact ⟨a, vk_R.of (hts _ (tm4 _ (List.mem_of_getElem? (i := 116) rfl))) h1⟩
  | 17, hq => cases hq; obtain ⟨a, _, _, _, h1, _⟩ := Cond.exactly_spec (hs (.exactly (.string "SoundingLine" 155) "java/lang/String") (by decide +kernel)); exact ⟨a, vk_R.of (hts _ (tm4 _ (List.mem_of_getElem? (i := 117) rfl))) h1⟩
  | 18, hq => cases hq; obtain ⟨a, _, _, _, h1, _⟩ := Cond.exactly_spec (hs (.exactly (.string "SoundingLine" 166) "java/lang/String") (by decide +kernel)); exact ⟨a, vk_R.of (hts _ (tm4 _ (List.mem_of_getElem? (i := 134) rfl))) h1⟩
  | 19, hq => cases hq; obtain ⟨a, _, _, _, h1, _⟩ := Cond.exactly_spec (hs (.exactly (.string "SoundingLine" 179) "java/lang/String") (by decide +kernel)); exact ⟨a, vk_R.of (hts _ (tm3 _ (List.mem_of_getElem? (i := 29) rfl))) h1⟩
  | 20, hq => cases hq; obtain ⟨a, _, _, _, h1, _⟩ := Cond.exactly_spec (hs (.exactly (.string "SoundingLine" 192) "java/lang/String") (by decide +kernel)); exact ⟨a, vk_R.of (hts _ (tm3 _ (List.mem_of_getElem? (i := 103) rfl))) h1⟩
  | 21, hq => cases hq; obtain ⟨a, _, _, _, h1, _⟩ := Cond.exactly_spec (hs (.exactly (.string "SoundingLine" 198) "java/lang/String") (by decide +kernel)); exact ⟨a, vk_R.of (hts _ (tm4 _ (List.mem_of_getElem? (i := 150) rfl))) h1⟩
  | 22, hq => cases hq; obtain ⟨a, _, _, _, h1, _⟩ := Cond.exactly_spec (hs (.exactly (.string "SoundingLine" 200) "java/lang/String") (by decide +kernel)); exact ⟨a, vk_R.of (hts _ (tm4 _ (List.mem_of_getElem? (i := 151) rfl))) h1⟩
  | 23, hq => cases hq; obtain ⟨a, _, _, _, h1, _⟩ := Cond.exactly_spec (hs (.exactly (.string "SoundingLine" 205) "java/lang/String") (by decide +kernel)); exact ⟨a, vk_R.of (hts _ (tm4 _ (List.mem_of_getElem? (i := 159) rfl))) h1⟩
  | 24, hq => cases hq; obtain ⟨a, _, _, _, h1, _⟩ := Cond.exactly_spec (hs (.exactly (.string "SoundingLine" 217) "java/lang/String") (by decide +kernel)); exact ⟨a, vk_R.of (hts _ (tm3 _ (List.mem_of_getElem? (i := 138) rfl))) h1⟩
  | 25, hq => cases hq; obtain ⟨a, _, _, _, h1, _⟩ := Cond.exactly_spec (hs (.exactly (.string "SoundingLine" 219) "java/lang/String") (by decide +kernel)); exact ⟨a, vk_R.of (hts _ (tm3 _ (List.mem_of_getElem? (i := 139) rfl))) h1⟩
  | 26, hq => cases hq; obtain ⟨a, _, _, _, h1, _⟩ := Cond.exactly_spec (hs (.exactly (.string "SoundingLine" 227) "java/lang/String") (by decide +kernel)); exact ⟨a, vk_R.of (hts _ (tm3 _ (List.mem_of_getElem? (i := 160) rfl))) h1⟩
  | 27, hq => cases hq; obtain ⟨a, _, _, _, h1, _⟩ := Cond.exactly_spec (hs (.exactly (.string "SoundingLine" 237) "java/lang/String") (by decide +kernel)); exact ⟨a, vk_R.of (hts _ (tm4 _ (List.mem_of_getElem? (i := 186) rfl))) h1⟩
  | 28, hq => cases hq; obtain ⟨a, _, _, _, h1, _⟩ := Cond.exactly_spec (hs (.exactly (.string "SoundingLine" 239) "java/lang/String") (by decide +kernel)); exact ⟨a, vk_R.of (hts _ (tm4 _ (List.mem_of_getElem? (i := 187) rfl))) h1⟩
  | 29, hq => cases hq; obtain ⟨a, _, _, _, h1, _⟩ := Cond.exactly_spec (hs (.exactly (.string "SoundingLine" 288) "java/lang/String") (by decide +kernel)); exact ⟨a, vk_R.of (hts _ (tm3 _ (List.mem_of_getElem? (i := 223) rfl))) h1⟩
  | k + 30, hq => exact absurd hq (by simp [pStr])
theorem lw_eqi {t : Term} {args : Array Value} {s : State} {z : Int32} (h : (Cond.eq t (.int z)).before args s = true) : t.eval args s none [] s = some (.int z) := by
  cases hv : t.eval args s none [] s with
  | none => simp [Cond.before, Cond.holds, Cond.value, hv] at h
  | some w =>
    have hz : (Term.int z).eval args s none [] s = some (.int z) := rfl
    simp only [Cond.before, Cond.holds, Cond.value, hv, hz] at h
    cases w <;> simp_all
theorem lw_eK {args : Array Value} {s : State} {A : Nat → Prop} (hts : ∀ w ∈ lw_tbl, w.before args s = true) (hgv : (Jvm.Cond.and given_1 narrow_1).before args s = true) (hA : ∀ a : Nat, a < s.heap.size → ¬ A a) : ∃ ed : Nat, eK A ed s s.heap := by
  have hs := flat_of_before _ hgv
  obtain ⟨ed, h1, h2⟩ := va_Tof (args := args) (s := s) (tm := .static "java/util/ArrayList" "DEFAULTCAPACITY_EMPTY_ELEMENTDATA" "[Ljava/lang/Object;") (ty := .object "java/lang/Object") (N := 0) (f := fun _ => .null) (A := A) (by decide) (hs _ (by decide +kernel)) (lw_eqi (hs (.eq (.length (.static "java/util/ArrayList" "DEFAULTCAPACITY_EMPTY_ELEMENTDATA" "[Ljava/lang/Object;")) (.int 0)) (by decide +kernel))) (fun j hj => absurd hj (Nat.not_lt_zero j)) hA
  exact ⟨ed, va_Zof (hts _ (tm4 _ (List.mem_of_getElem? (i := 207) rfl))) (hts _ (tm1 _ (List.mem_of_getElem? (i := 11) rfl))) h1 hA, h2, vx_Zqof (hts _ (tm3 _ (List.mem_of_getElem? (i := 15) rfl))) (hts _ (tm1 _ (List.mem_of_getElem? (i := 12) rfl))) (hs (.isRef (.static "java/lang/Throwable" "UNASSIGNED_STACK" "[Ljava/lang/StackTraceElement;")) (by decide +kernel)) hA, vx_Zqof (hts _ (tm3 _ (List.mem_of_getElem? (i := 17) rfl))) (hts _ (tm1 _ (List.mem_of_getElem? (i := 12) rfl))) (hs (.isRef (.static "java/lang/Throwable" "SUPPRESSED_SENTINEL" "Ljava/util/List;")) (by decide +kernel)) hA, lw_str hts hgv, lw_thr hts, lw_dx hts⟩
