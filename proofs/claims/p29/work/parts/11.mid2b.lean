set_option maxHeartbeats 4000000 in
set_option maxRecDepth 100000 in
/-- Block.chosen -/
theorem c_X0_chosen (l : Launch) (D : va_G) (cy : Nat → ClassId) (S : pS) (sz : Nat) (v t c2 a : Nat) (w : Int32)  (hv : v < 2 ^ 31) (ht : t ≤ 4) (hc : c2 ≤ 4) (hw0 : c2 ≤ t → w = nI a) : Met l yX0_chosen wsX0_chosen ({ frames := 0, cells := 0, slots := 0, locals := 0 }) (pPc D cy S sz [.int (nI v), .int (nI t - nI c2), .int w]) (pQi D cy S sz (fun r S' => r = nI (chN v t c2 a) ∧ S = S')) 0 0 (pA S sz) := by
  refine Met.ofW (cc := cX0_chosen) (maxL := 3) (ret := (some .int)) (by decide) rfl ?_
  intro p e s m args below meth c s₁ B hml hv
  obtain ⟨rfl, rfl, C, hw, hA, hr, hlocks⟩ := p_start B hml hv
  have hx := C.1
  have hb := C.2.1
  have hl := lv_entry ([.int (nI v), .int (nI t - nI c2), .int w]) (n := 3) (Nat.le_of_ble_eq_true rfl)
  rw [lg_entry_eq]
  generalize (lg_sl ([.int (nI v), .int (nI t - nI c2), .int w]) ++ List.replicate (3 - (lg_sl ([.int (nI v), .int (nI t - nI c2), .int w])).length) Slot.unset).toArray = ls at hl ⊢
  have hl : lv_has ls 3 [(0, .int (nI v)), (1, .int (nI t - nI c2)), (2, .int w)] := hl
  refine lv_iload_n hx hb dX0_chosen_0 rfl (lv_at hl 1 rfl) ?_
  refine lv_if_lt (tgt := 17) hx hb dX0_chosen_1 (by decide) (fun h_1 => ?_) (fun h_1 => ?_)
  · skip
    have hct : ¬ c2 ≤ t := fun z => by rw [pk_sub z] at h_1; exact nI_pos (by omega) h_1
    refine lv_iconst (v := nI 0) hx hb dX0_chosen_17 (by decide) ?_
    exact p_iret C hw ⟨by unfold chN; first | rw [if_pos ⟨hct, h_10⟩]; exact hw0 hct | rw [if_neg (fun z => h_10 z.2)] | rw [if_neg (fun z => hct z.1)], rfl⟩ hr hlocks dX0_chosen_18
  · skip
    have hct : c2 ≤ t := Nat.le_of_not_lt (fun z => h_1 (pk_sneg (by omega) z))
    rw [pk_sub hct] at hl
    refine lv_iload_n hx hb dX0_chosen_4 rfl (lv_at hl 0 rfl) ?_
    refine lv_iload_n hx hb dX0_chosen_5 rfl (lv_at hl 1 rfl) ?_
    refine n_iushr hx hb (by omega) (by omega) dX0_chosen_6 ?_
    refine lv_iconst (v := nI 1) hx hb dX0_chosen_7 (by decide) ?_
    refine n_iand hx hb dX0_chosen_8 ?_
    refine n_ren (b := v / 2 ^ (t - c2) % 2) (Nat.and_one_is_mod _) ?_
    refine lv_iconst (v := nI 1) hx hb dX0_chosen_9 (by decide) ?_
    refine n_icmp_ne (tgt := 17) hx hb (by omega) (by omega) dX0_chosen_10 (by decide) (fun h_10 => ?_) (fun h_10 => ?_)
    · skip
      refine lv_iconst (v := nI 0) hx hb dX0_chosen_17 (by decide) ?_
      exact p_iret C hw ⟨by unfold chN; first | rw [if_pos ⟨hct, h_10⟩]; exact hw0 hct | rw [if_neg (fun z => h_10 z.2)] | rw [if_neg (fun z => hct z.1)], rfl⟩ hr hlocks dX0_chosen_18
    · skip
      refine lv_iload_n hx hb dX0_chosen_13 rfl (lv_at hl 2 rfl) ?_
      refine lv_goto (tgt := 18) hx hb dX0_chosen_14 (by decide) ?_
      exact p_iret C hw ⟨by unfold chN; first | rw [if_pos ⟨hct, h_10⟩]; exact hw0 hct | rw [if_neg (fun z => h_10 z.2)] | rw [if_neg (fun z => hct z.1)], rfl⟩ hr hlocks dX0_chosen_18

theorem hdS_yX0_chosen : yX0_chosen.cls ≠ "java/lang/invoke/MethodHandle" ∧ yX0_chosen.cls ≠ "java/lang/invoke/VarHandle" ∧ (parseMethodDescriptor yX0_chosen.desc).map (fun d => d.parameters.length) = some 3 := by decide +kernel
set_option maxHeartbeats 4000000 in
set_option maxRecDepth 100000 in
/-- Block(int, int, int, int, int, int) -/
theorem c_X0_init (l : Launch) (D : va_G) (cy : Nat → ClassId) (S : pS) (sz : Nat) (h t0 m0 t mm a1 a2 a3 a4 : Nat) (w1 w2 w3 w4 : Int32) (hL_h : h ∈ S.1) (hf_h : S.2 h = .inr (0, [.int (nI t0), .int (nI m0), .null])) (ht : t ≤ 4) (hw1 : 1 ≤ t → w1 = nI a1) (hw2 : 2 ≤ t → w2 = nI a2) (hw3 : 3 ≤ t → w3 = nI a3) (hw4 : 4 ≤ t → w4 = nI a4) : Met l yX0_init wsX0_init ({ frames := 2, cells := 1, slots := 16, locals := 32 }) (pPc D cy S sz [.ref h, .int (nI t), .int (nI mm), .int w1, .int w2, .int w3, .int w4]) (pQv D cy S sz (fun S' => ∃ q, q ∉ S.1 ∧ S' = pup (pnew S q (aN (cy 0) 16 (bwt t a1 a2 a3 a4 16))) h (.inr (0, [.int (nI t), .int (nI mm), .ref q])))) 1 16 (pA S sz) := by
  refine Met.ofW (cc := cX0_init) (maxL := 8) (ret := none) (by decide) rfl ?_
  intro p e s m args below meth c s₁ B hml hv
  have hin : meth.name = "<init>" := (name_of_methodNamed B.named B.method).1
  obtain ⟨rfl, rfl, C, hw, hA, hr, hlocks⟩ := p_start B hml hv
  have hx := C.1
  have hb := C.2.1
  have hl := lv_entry ([.ref h, .int (nI t), .int (nI mm), .int w1, .int w2, .int w3, .int w4]) (n := 8) (Nat.le_of_ble_eq_true rfl)
  rw [lg_entry_eq]
  generalize (lg_sl ([.ref h, .int (nI t), .int (nI mm), .int w1, .int w2, .int w3, .int w4]) ++ List.replicate (8 - (lg_sl ([.ref h, .int (nI t), .int (nI mm), .int w1, .int w2, .int w3, .int w4])).length) Slot.unset).toArray = ls at hl ⊢
  have hl : lv_has ls 8 [(0, .ref h), (1, .int (nI t)), (2, .int (nI mm)), (3, .int w1), (4, .int w2), (5, .int w3), (6, .int w4)] := hl
  have hin_RX0 : ∀ w ∈ u_ws RX0 TX0 3, w ∈ wsX0_init := by decide +kernel
  refine lv_aload_n hx hb dX0_init_0 rfl (lv_at hl 0 rfl) ?_
  refine p_callv (va_runIN (As := []) (rest := []) C.fix (c_X8_init l D cy S s.heap.size h) ⟨va_cnB 0 C.2.2.2.2.1 gX0_init_X8_init_n3 rfl rfl rfl (show va_Nw (.methodLinkNest RX0 3 yX8_init "SoundingLine") s from C.2.2.2.2.2.2.1 10 (RX0, 3, yX8_init) rfl) (C.2.2.2.2.1 (.initialized RX8) (List.mem_of_getElem? (i := 6) rfl)) hdS_yX8_init ⟨Nat.le_of_ble_eq_true rfl, Nat.le_of_ble_eq_true rfl⟩, rfl, C.2.2.2.2.1 (.instanceMethod yX8_init) (List.mem_of_getElem? (i := 5) rfl)⟩ (p_preS C hw) rfl rfl hl.1 rfl (lv_room (Nat.le_of_ble_eq_true rfl)) dX0_init_1 ⟨Nat.le_of_ble_eq_true rfl, Nat.le_of_ble_eq_true rfl⟩) hw hA (fun S1 H locs hpost hw => ?_)
  subst hpost
  refine lv_aload_n hx hb dX0_init_4 rfl (lv_at hl 0 rfl) ?_
  refine lv_iload_n hx hb dX0_init_5 rfl (lv_at hl 1 rfl) ?_
  refine p_putF C hw (ci := 0) (Cn := RX0) (T := TX0) (N := 3) tyX0 tyX0_ok nmX0 hL_h hf_h rfl hin_RX0 0 (by decide) (List.mem_of_getElem? (i := 1) rfl) rfl rfl hin rfl rfl rfl rfl (by simp) dX0_init_6 rfl (fun H locs hw => ?_)
  obtain ⟨S3, hS3⟩ : ∃ z, z = pup S h (.inr (0, [.int (nI t), .int (nI m0), .null])) := ⟨_, rfl⟩
  replace hw : pW D (pA S s.heap.size) s.heap S3 H locs := by rw [hS3]; exact hw
  have hL4 : h ∈ S3.1 := by rw [hS3]; exact hL_h
  have hf5 : S3.2 h = .inr (0, [.int (nI t), .int (nI m0), .null]) := by rw [hS3]; exact pup_s
  refine lv_aload_n hx hb dX0_init_9 rfl (lv_at hl 0 rfl) ?_
  refine lv_iload_n hx hb dX0_init_10 rfl (lv_at hl 2 rfl) ?_
  refine p_putF C hw (ci := 0) (Cn := RX0) (T := TX0) (N := 3) tyX0 tyX0_ok nmX0 hL4 hf5 rfl hin_RX0 1 (by decide) (List.mem_of_getElem? (i := 2) rfl) rfl rfl hin rfl rfl rfl rfl (by simp) dX0_init_11 rfl (fun H locs hw => ?_)
  obtain ⟨S6, hS6⟩ : ∃ z, z = pup S3 h (.inr (0, [.int (nI t), .int (nI mm), .null])) := ⟨_, rfl⟩
  replace hw : pW D (pA S s.heap.size) s.heap S6 H locs := by rw [hS6]; exact hw
  have hL7 : h ∈ S6.1 := by rw [hS6]; exact hL4
  have hf8 : S6.2 h = .inr (0, [.int (nI t), .int (nI mm), .null]) := by rw [hS6]; exact pup_s
  refine lv_aload_n hx hb dX0_init_14 rfl (lv_at hl 0 rfl) ?_
  refine lv_bipush (v := nI 16) hx hb dX0_init_15 (by decide) ?_
  refine n_newa C hw hA (by decide +kernel) 0 rfl (n := 16) (by omega) (Nat.le_of_ble_eq_true rfl) (Nat.le_of_ble_eq_true rfl) dX0_init_17 (fun wd H hq_wd hw => ?_)
  have hq0 : wd ∉ S.1 := by rw [hS6, hS3] at hq_wd; exact hq_wd
  have hne0 : h ≠ wd := fun z => hq0 (z ▸ hL_h)
  obtain ⟨S9, hS9⟩ : ∃ z, z = pnew S6 wd (aN (cy 0) 16 (fun _ => 0)) := ⟨_, rfl⟩
  replace hw : pW D (pA S s.heap.size) s.heap S9 H locs := by rw [hS9]; exact hw
  have hL10 : h ∈ S9.1 := by rw [hS9]; exact List.mem_append_left _ hL7
  have hf11 : S9.2 h = .inr (0, [.int (nI t), .int (nI mm), .null]) := by rw [hS9]; exact (pnew_n (fun z : h = wd => hq_wd (by rw [← z]; exact hL7))).trans hf8
  have hL12 : wd ∈ S9.1 := by rw [hS9]; exact List.mem_append_right _ List.mem_cons_self
  have hf13 : S9.2 wd = aN (cy 0) 16 (fun _ => 0) := by rw [hS9]; exact pnew_s
  refine p_putF C hw (ci := 0) (Cn := RX0) (T := TX0) (N := 3) tyX0 tyX0_ok nmX0 hL10 hf11 rfl hin_RX0 2 (by decide) (List.mem_of_getElem? (i := 4) rfl) rfl rfl hin rfl rfl rfl rfl (by simp) dX0_init_19 rfl (fun H locs hw => ?_)
  obtain ⟨S14, hS14⟩ : ∃ z, z = pup S9 h (.inr (0, [.int (nI t), .int (nI mm), .ref wd])) := ⟨_, rfl⟩
  replace hw : pW D (pA S s.heap.size) s.heap S14 H locs := by rw [hS14]; exact hw
  have hL15 : wd ∈ S14.1 := by rw [hS14]; exact hL12
  have hf16 : S14.2 wd = aN (cy 0) 16 (fun _ => 0) := by rw [hS14]; exact (pup_n (ne_cells hf13 hf11 (by nofun))).trans hf13
  have hL17 : h ∈ S14.1 := by rw [hS14]; exact hL10
  have hf18 : S14.2 h = .inr (0, [.int (nI t), .int (nI mm), .ref wd]) := by rw [hS14]; exact pup_s
  refine lv_iconst (v := nI 0) hx hb dX0_init_22 (by decide) ?_
  refine lv_istore (lv' := [(7, .int (nI 0)), (0, .ref h), (1, .int (nI t)), (2, .int (nI mm)), (3, .int w1), (4, .int w2), (5, .int w3), (6, .int w4)]) hx hb dX0_init_23 hl (by decide) rfl (fun ls hl => ?_)
  have loop25 : ∀ (kf : Nat) (i : Nat), 16 - i < kf → ∀ (SA : pS), ∀ (H : Heap) (locs : List Loc) (ls : Array Slot), (h ∈ SA.1) → (SA.2 h = .inr (0, [.int (nI t), .int (nI mm), .ref wd])) → (wd ∈ SA.1) → (SA.2 wd = aN (cy 0) 16 (bwt t a1 a2 a3 a4 i)) → (i ≤ 16) → (SA = pup (pup (pnew S wd (aN (cy 0) 16 (fun _ => 0))) h (.inr (0, [.int (nI t), .int (nI mm), .ref wd]))) wd (aN (cy 0) 16 (bwt t a1 a2 a3 a4 i))) → pW D (pA S s.heap.size) s.heap SA H locs → lv_has ls 8 [(7, .int (nI i)), (0, .ref h), (1, .int (nI t)), (2, .int (nI mm)), (3, .int w1), (4, .int w2), (5, .int w3), (6, .int w4)] → W p l e (headSpec wsX0_init ({ frames := 2, cells := 1, slots := 16, locals := 32 } : Room)).room s m ([.ref h, .int (nI t), .int (nI mm), .int w1, .int w2, .int w3, .int w4]).toArray below meth c H locs 1 16 (MQ below (pQv D cy S s.heap.size (fun S' => ∃ q, q ∉ S.1 ∧ S' = pup (pnew S q (aN (cy 0) 16 (bwt t a1 a2 a3 a4 16))) h (.inr (0, [.int (nI t), .int (nI mm), .ref q])))) ([.ref h, .int (nI t), .int (nI mm), .int w1, .int w2, .int w3, .int w4]).toArray s 1 16 (pA S s.heap.size)) (F0 m 25 ls []) := by
    intro kf
    induction kf with
    | zero => intro i hm; exact absurd hm (Nat.not_lt_zero _)
    | succ kf ih25 =>
      intro i hm SA H locs ls hL19 hf20 hL21 hf22 hi hSA hw hl
      refine lv_iload hx hb dX0_init_25 (lv_at hl 0 rfl) ?_
      refine lv_aload_n hx hb dX0_init_27 rfl (lv_at hl 1 rfl) ?_
      refine p_get C hw (ci := 0) (Cn := RX0) (T := TX0) (N := 3) hL19 hf20 rfl hin_RX0 2 (by decide) (List.mem_of_getElem? (i := 4) rfl) rfl rfl dX0_init_28 ?_
      refine n_len C hw 0 rfl hL21 hf22 (n := 16) rfl dX0_init_31 ?_
      refine n_icmp_ge (tgt := 90) hx hb (by omega) (by omega) dX0_init_32 (by decide) (fun h_32 => ?_) (fun h_32 => ?_)
      · skip
        exact p_vret C hw ⟨wd, hq0, by rw [hSA, show i = 16 from by omega, pup_comm hne0, pup_pnew]⟩ hr hlocks dX0_init_90
      · skip
        refine lv_aload_n hx hb dX0_init_35 rfl (lv_at hl 1 rfl) ?_
        refine p_get C hw (ci := 0) (Cn := RX0) (T := TX0) (N := 3) hL19 hf20 rfl hin_RX0 2 (by decide) (List.mem_of_getElem? (i := 4) rfl) rfl rfl dX0_init_36 ?_
        refine lv_iload hx hb dX0_init_39 (lv_at hl 0 rfl) ?_
        refine lv_iload hx hb dX0_init_41 (lv_at hl 0 rfl) ?_
        refine lv_iload_n hx hb dX0_init_43 rfl (lv_at hl 2 rfl) ?_
        refine lv_iconst (v := nI 1) hx hb dX0_init_44 (by decide) ?_
        refine lv_isub hx hb dX0_init_45 ?_
        refine lv_iload_n hx hb dX0_init_46 rfl (lv_at hl 4 rfl) ?_
        refine p_calli (va_runS (As := [.int (nI i), .int ((nI t) - (nI 1)), .int w1]) (rest := [.int (nI i), .ref wd]) C.fix (c_X0_chosen l D cy SA H.size i t 1 a1 w1 (by omega) ht (by omega) hw1) (va_cwS 3 C.2.2.2.2.1 gX0_init_X0_chosen rfl rfl rfl hdS_yX0_chosen ⟨Nat.le_of_ble_eq_true rfl, Nat.le_of_ble_eq_true rfl⟩) (p_preS C hw) rfl rfl hl.1 rfl (lv_room (Nat.le_of_ble_eq_true rfl)) dX0_init_47 ⟨Nat.le_of_ble_eq_true rfl, Nat.le_of_ble_eq_true rfl⟩) hw hA (fun r24 S23 H locs hpost hw => ?_)
        obtain ⟨hr_, hS_⟩ := hpost
        subst hr_
        subst hS_
        refine lv_iload hx hb dX0_init_50 (lv_at hl 0 rfl) ?_
        refine lv_iload_n hx hb dX0_init_52 rfl (lv_at hl 2 rfl) ?_
        refine lv_iconst (v := nI 2) hx hb dX0_init_53 (by decide) ?_
        refine lv_isub hx hb dX0_init_54 ?_
        refine lv_iload hx hb dX0_init_55 (lv_at hl 5 rfl) ?_
        refine p_calli (va_runS (As := [.int (nI i), .int ((nI t) - (nI 2)), .int w2]) (rest := [.int (nI (chN i t 1 a1)), .int (nI i), .ref wd]) C.fix (c_X0_chosen l D cy SA H.size i t 2 a2 w2 (by omega) ht (by omega) hw2) (va_cwS 3 C.2.2.2.2.1 gX0_init_X0_chosen rfl rfl rfl hdS_yX0_chosen ⟨Nat.le_of_ble_eq_true rfl, Nat.le_of_ble_eq_true rfl⟩) (p_preS C hw) rfl rfl hl.1 rfl (lv_room (Nat.le_of_ble_eq_true rfl)) dX0_init_57 ⟨Nat.le_of_ble_eq_true rfl, Nat.le_of_ble_eq_true rfl⟩) hw hA (fun r26 S25 H locs hpost hw => ?_)
        obtain ⟨hr_, hS_⟩ := hpost
        subst hr_
        subst hS_
        refine n_ixor hx hb dX0_init_60 ?_
        refine lv_iload hx hb dX0_init_61 (lv_at hl 0 rfl) ?_
        refine lv_iload_n hx hb dX0_init_63 rfl (lv_at hl 2 rfl) ?_
        refine lv_iconst (v := nI 3) hx hb dX0_init_64 (by decide) ?_
        refine lv_isub hx hb dX0_init_65 ?_
        refine lv_iload hx hb dX0_init_66 (lv_at hl 6 rfl) ?_
        refine p_calli (va_runS (As := [.int (nI i), .int ((nI t) - (nI 3)), .int w3]) (rest := [.int (nI ((chN i t 1 a1) ^^^ (chN i t 2 a2))), .int (nI i), .ref wd]) C.fix (c_X0_chosen l D cy SA H.size i t 3 a3 w3 (by omega) ht (by omega) hw3) (va_cwS 3 C.2.2.2.2.1 gX0_init_X0_chosen rfl rfl rfl hdS_yX0_chosen ⟨Nat.le_of_ble_eq_true rfl, Nat.le_of_ble_eq_true rfl⟩) (p_preS C hw) rfl rfl hl.1 rfl (lv_room (Nat.le_of_ble_eq_true rfl)) dX0_init_68 ⟨Nat.le_of_ble_eq_true rfl, Nat.le_of_ble_eq_true rfl⟩) hw hA (fun r28 S27 H locs hpost hw => ?_)
        obtain ⟨hr_, hS_⟩ := hpost
        subst hr_
        subst hS_
        refine n_ixor hx hb dX0_init_71 ?_
        refine lv_iload hx hb dX0_init_72 (lv_at hl 0 rfl) ?_
        refine lv_iload_n hx hb dX0_init_74 rfl (lv_at hl 2 rfl) ?_
        refine lv_iconst (v := nI 4) hx hb dX0_init_75 (by decide) ?_
        refine lv_isub hx hb dX0_init_76 ?_
        refine lv_iload hx hb dX0_init_77 (lv_at hl 7 rfl) ?_
        refine p_calli (va_runS (As := [.int (nI i), .int ((nI t) - (nI 4)), .int w4]) (rest := [.int (nI (((chN i t 1 a1) ^^^ (chN i t 2 a2)) ^^^ (chN i t 3 a3))), .int (nI i), .ref wd]) C.fix (c_X0_chosen l D cy SA H.size i t 4 a4 w4 (by omega) ht (by omega) hw4) (va_cwS 3 C.2.2.2.2.1 gX0_init_X0_chosen rfl rfl rfl hdS_yX0_chosen ⟨Nat.le_of_ble_eq_true rfl, Nat.le_of_ble_eq_true rfl⟩) (p_preS C hw) rfl rfl hl.1 rfl (lv_room (Nat.le_of_ble_eq_true rfl)) dX0_init_79 ⟨Nat.le_of_ble_eq_true rfl, Nat.le_of_ble_eq_true rfl⟩) hw hA (fun r30 S29 H locs hpost hw => ?_)
        obtain ⟨hr_, hS_⟩ := hpost
        subst hr_
        subst hS_
        refine n_ixor hx hb dX0_init_82 ?_
        refine n_ast C hw 0 rfl hL21 hf22 (by omega) (by omega) dX0_init_83 (fun H locs hw => ?_)
        obtain ⟨S31, hS31⟩ : ∃ z, z = pup SA wd (aN (cy 0) 16 (nup (bwt t a1 a2 a3 a4 i) i ((((chN i t 1 a1) ^^^ (chN i t 2 a2)) ^^^ (chN i t 3 a3)) ^^^ (chN i t 4 a4)))) := ⟨_, rfl⟩
        replace hw : pW D (pA S s.heap.size) s.heap S31 H locs := by rw [hS31]; exact hw
        have hL32 : h ∈ S31.1 := by rw [hS31]; exact hL19
        have hf33 : S31.2 h = .inr (0, [.int (nI t), .int (nI mm), .ref wd]) := by rw [hS31]; exact (pup_n (ne_cells hf20 hf22 (by nofun))).trans hf20
        have hL34 : wd ∈ S31.1 := by rw [hS31]; exact hL21
        have hf35 : S31.2 wd = aN (cy 0) 16 (nup (bwt t a1 a2 a3 a4 i) i ((((chN i t 1 a1) ^^^ (chN i t 2 a2)) ^^^ (chN i t 3 a3)) ^^^ (chN i t 4 a4))) := by rw [hS31]; exact pup_s
        refine lv_iinc (v := (nI (i + 1))) (lv' := [(7, .int (nI (i + 1))), (0, .ref h), (1, .int (nI t)), (2, .int (nI mm)), (3, .int w1), (4, .int w2), (5, .int w3), (6, .int w4)]) hx hb dX0_init_84 hl (k := 0) rfl (by rw [show Int32.ofInt 1 = nI 1 from by decide, nI_add]) (by decide) rfl (fun ls hl => ?_)
        refine lv_goto (tgt := 25) hx hb dX0_init_87 (by decide) ?_
        exact ih25 (i + 1) (by omega) S31 H locs ls hL32 hf33 hL34 (by rw [hS31, bwt_s]; exact pup_s) (by omega) (by rw [hS31, hSA, pup_pup, bwt_s]) hw (lv_sub hl [0, 1, 2, 3, 4, 5, 6, 7] rfl)
  exact loop25 (16 - 0 + 1) 0 (by omega) S14 H locs ls hL17 hf18 hL15 (by rw [bwt_0]; assumption) (Nat.zero_le _) (by rw [hS14, hS9, hS6, hS3, pup_pup, pnew_pup hne0, pup_pup, bwt_0]; exact (pup_self ((pup_n hne0.symm).trans pnew_s)).symm) hw (lv_sub hl [0, 1, 2, 3, 4, 5, 6, 7] rfl)

set_option maxHeartbeats 4000000 in
set_option maxRecDepth 100000 in
/-- Block.wordsInAll -/
theorem c_X0_wordsInAll (l : Launch) (D : va_G) (cy : Nat → ClassId) (S : pS) (sz : Nat) (h t mm wd : Nat) (tab : Nat → Nat) (hL_h : h ∈ S.1) (hf_h : S.2 h = .inr (0, [.int (nI t), .int (nI mm), .ref wd])) (hL_wd : wd ∈ S.1) (hf_wd : S.2 wd = aN (cy 0) 16 tab) (ht : t ≤ 4) : Met l yX0_wordsInAll wsX0_wordsInAll ({ frames := 1, cells := 0, slots := 0, locals := 21 }) (pPc D cy S sz [.ref h]) (pQi D cy S sz (fun r S' => r = nI (2 ^ t) ∧ S = S')) 0 0 (pA S sz) := by
  refine Met.ofW (cc := cX0_wordsInAll) (maxL := 1) (ret := (some .int)) (by decide) rfl ?_
  intro p e s m args below meth c s₁ B hml hv
  obtain ⟨rfl, rfl, C, hw, hA, hr, hlocks⟩ := p_start B hml hv
  have hx := C.1
  have hb := C.2.1
  have hl := lv_entry ([.ref h]) (n := 1) (Nat.le_of_ble_eq_true rfl)
  rw [lg_entry_eq]
  generalize (lg_sl ([.ref h]) ++ List.replicate (1 - (lg_sl ([.ref h])).length) Slot.unset).toArray = ls at hl ⊢
  have hl : lv_has ls 1 [(0, .ref h)] := hl
  have hin_RX0 : ∀ w ∈ u_ws RX0 TX0 3, w ∈ wsX0_wordsInAll := by decide +kernel
  refine lv_aload_n hx hb dX0_wordsInAll_0 rfl (lv_at hl 0 rfl) ?_
  refine p_get C hw (ci := 0) (Cn := RX0) (T := TX0) (N := 3) hL_h hf_h rfl hin_RX0 2 (by decide) (List.mem_of_getElem? (i := 1) rfl) rfl rfl dX0_wordsInAll_1 ?_
  refine n_len C hw 0 rfl hL_wd hf_wd (n := 16) rfl dX0_wordsInAll_4 ?_
  refine lv_iconst (v := nI 1) hx hb dX0_wordsInAll_5 (by decide) ?_
  refine lv_aload_n hx hb dX0_wordsInAll_6 rfl (lv_at hl 0 rfl) ?_
  refine p_get C hw (ci := 0) (Cn := RX0) (T := TX0) (N := 3) hL_h hf_h rfl hin_RX0 0 (by decide) (List.mem_of_getElem? (i := 2) rfl) rfl rfl dX0_wordsInAll_7 ?_
  refine n_ishl hx hb (by omega) (by have := two_pow_4 ht; omega) dX0_wordsInAll_10 ?_
  have hp2 := two_pow_4 ht
  refine n_mmin C hl.1.symm (index := 26) (List.mem_of_getElem? (i := 3) rfl) (List.mem_of_getElem? (i := 4) rfl) (List.mem_of_getElem? (i := 5) rfl) (List.mem_of_getElem? (i := 6) rfl) (Nat.le_of_ble_eq_true rfl) (Nat.le_of_ble_eq_true rfl) (Nat.le_of_ble_eq_true rfl) (Nat.le_of_ble_eq_true rfl) (by omega) (by omega) dX0_wordsInAll_11 ?_
  refine n_ren (b := 2 ^ t) (by omega) ?_
  exact p_iret C hw ⟨rfl, rfl⟩ hr hlocks dX0_wordsInAll_14

set_option maxHeartbeats 4000000 in
set_option maxRecDepth 100000 in
/-- Block.kind -/
theorem c_X0_kind (l : Launch) (D : va_G) (cy : Nat → ClassId) (S : pS) (sz : Nat) (h : Nat)   : Met l yX0_kind wsX0_kind ({ frames := 0, cells := 0, slots := 0, locals := 0 }) (pPc D cy S sz [.ref h]) (pQi D cy S sz (fun r S' => r = nI 1 ∧ S = S')) 0 0 (pA S sz) := by
  refine Met.ofW (cc := cX0_kind) (maxL := 1) (ret := (some .int)) (by decide) rfl ?_
  intro p e s m args below meth c s₁ B hml hv
  obtain ⟨rfl, rfl, C, hw, hA, hr, hlocks⟩ := p_start B hml hv
  have hx := C.1
  have hb := C.2.1
  have hl := lv_entry ([.ref h]) (n := 1) (Nat.le_of_ble_eq_true rfl)
  rw [lg_entry_eq]
  generalize (lg_sl ([.ref h]) ++ List.replicate (1 - (lg_sl ([.ref h])).length) Slot.unset).toArray = ls at hl ⊢
  have hl : lv_has ls 1 [(0, .ref h)] := hl
  refine lv_iconst (v := nI 1) hx hb dX0_kind_0 (by decide) ?_
  exact p_iret C hw ⟨rfl, rfl⟩ hr hlocks dX0_kind_1

theorem hdS_yX11_blocksOf : yX11_blocksOf.cls ≠ "java/lang/invoke/MethodHandle" ∧ yX11_blocksOf.cls ≠ "java/lang/invoke/VarHandle" ∧ (parseMethodDescriptor yX11_blocksOf.desc).map (fun d => d.parameters.length) = some 2 := by decide +kernel
set_option maxHeartbeats 4000000 in
set_option maxRecDepth 100000 in
/-- Block.sizeOf -/
theorem c_X0_sizeOf (l : Launch) (D : va_G) (cy : Nat → ClassId) (S : pS) (sz : Nat) (h t mm wd n : Nat) (hL_h : h ∈ S.1) (hf_h : S.2 h = .inr (0, [.int (nI t), .int (nI mm), .ref wd])) (hn : n < 2 ^ 29) (ht : t ≤ 4) : Met l yX0_sizeOf wsX0_sizeOf ({ frames := 1, cells := 0, slots := 0, locals := 21 }) (pPc D cy S sz [.ref h, .int (nI n)]) (pQi D cy S sz (fun r S' => r = nI (blk n t * mm) ∧ S = S')) 0 0 (pA S sz) := by
  refine Met.ofW (cc := cX0_sizeOf) (maxL := 2) (ret := (some .int)) (by decide) rfl ?_
  intro p e s m args below meth c s₁ B hml hv
  obtain ⟨rfl, rfl, C, hw, hA, hr, hlocks⟩ := p_start B hml hv
  have hx := C.1
  have hb := C.2.1
  have hl := lv_entry ([.ref h, .int (nI n)]) (n := 2) (Nat.le_of_ble_eq_true rfl)
  rw [lg_entry_eq]
  generalize (lg_sl ([.ref h, .int (nI n)]) ++ List.replicate (2 - (lg_sl ([.ref h, .int (nI n)])).length) Slot.unset).toArray = ls at hl ⊢
  have hl : lv_has ls 2 [(0, .ref h), (1, .int (nI n))] := hl
  have hin_RX0 : ∀ w ∈ u_ws RX0 TX0 3, w ∈ wsX0_sizeOf := by decide +kernel
  refine lv_iload_n hx hb dX0_sizeOf_0 rfl (lv_at hl 1 rfl) ?_
  refine lv_aload_n hx hb dX0_sizeOf_1 rfl (lv_at hl 0 rfl) ?_
  refine p_get C hw (ci := 0) (Cn := RX0) (T := TX0) (N := 3) hL_h hf_h rfl hin_RX0 0 (by decide) (List.mem_of_getElem? (i := 1) rfl) rfl rfl dX0_sizeOf_2 ?_
  refine p_calli (va_runSN (As := [.int (nI n), .int (nI t)]) (rest := []) C.fix (c_X11_blocksOf l D cy S s.heap.size n t (by omega) (by omega)) ⟨va_cnB 2 C.2.2.2.2.1 gX0_sizeOf_X11_blocksOf_n32 rfl rfl rfl (show va_Nw (.methodLinkNest RX0 32 yX11_blocksOf "SoundingLine") s from C.2.2.2.2.2.2.1 3 (RX0, 32, yX11_blocksOf) rfl) (C.2.2.2.2.1 (.initialized RX11) (List.mem_of_getElem? (i := 4) rfl)) hdS_yX11_blocksOf ⟨Nat.le_of_ble_eq_true rfl, Nat.le_of_ble_eq_true rfl⟩, C.2.2.2.2.1 (.static yX11_blocksOf) (List.mem_of_getElem? (i := 3) rfl), trivial⟩ (p_preS C hw) rfl rfl hl.1 rfl (lv_room (Nat.le_of_ble_eq_true rfl)) dX0_sizeOf_5 ⟨Nat.le_of_ble_eq_true rfl, Nat.le_of_ble_eq_true rfl⟩) hw hA (fun r2 S1 H locs hpost hw => ?_)
  obtain ⟨hr_, hS_⟩ := hpost
  subst hr_
  subst hS_
  refine lv_aload_n hx hb dX0_sizeOf_8 rfl (lv_at hl 0 rfl) ?_
  refine p_get C hw (ci := 0) (Cn := RX0) (T := TX0) (N := 3) hL_h hf_h rfl hin_RX0 1 (by decide) (List.mem_of_getElem? (i := 2) rfl) rfl rfl dX0_sizeOf_9 ?_
  refine n_imul hx hb dX0_sizeOf_12 ?_
  exact p_iret C hw ⟨rfl, rfl⟩ hr hlocks dX0_sizeOf_13

theorem hdV_yX0_wordsInAll_RX0 : yX0_wordsInAll.cls = RX0 ∧ yX0_wordsInAll.cls ≠ "java/lang/invoke/MethodHandle" ∧ yX0_wordsInAll.cls ≠ "java/lang/invoke/VarHandle" ∧ (parseMethodDescriptor yX0_wordsInAll.desc).map (fun d => d.parameters.length) = some 0 := by decide +kernel
set_option maxHeartbeats 4000000 in
set_option maxRecDepth 100000 in
/-- Block.apart -/
theorem c_X0_apart (l : Launch) (D : va_G) (cy : Nat → ClassId) (S : pS) (sz : Nat) (h t mm wd : Nat) (tab : Nat → Nat) (hL_h : h ∈ S.1) (hf_h : S.2 h = .inr (0, [.int (nI t), .int (nI mm), .ref wd])) (hL_wd : wd ∈ S.1) (hf_wd : S.2 wd = aN (cy 0) 16 tab) (ht : t ≤ 4) (hmm : mm ≤ 10) (htab : ∀ q, tab q < 1024) : Met l yX0_apart wsX0_apart ({ frames := 2, cells := 0, slots := 0, locals := 41 }) (pPc D cy S sz [.ref h]) (pQi D cy S sz (fun r S' => r = nI (leaN tab mm (2 ^ t)) ∧ S = S')) 0 0 (pA S sz) := by
  refine Met.ofW (cc := cX0_apart) (maxL := 3) (ret := (some .int)) (by decide) rfl ?_
  intro p e s m args below meth c s₁ B hml hv
  obtain ⟨rfl, rfl, C, hw, hA, hr, hlocks⟩ := p_start B hml hv
  have hx := C.1
  have hb := C.2.1
  have hl := lv_entry ([.ref h]) (n := 3) (Nat.le_of_ble_eq_true rfl)
  rw [lg_entry_eq]
  generalize (lg_sl ([.ref h]) ++ List.replicate (3 - (lg_sl ([.ref h])).length) Slot.unset).toArray = ls at hl ⊢
  have hl : lv_has ls 3 [(0, .ref h)] := hl
  have hin_RX0 : ∀ w ∈ u_ws RX0 TX0 3, w ∈ wsX0_apart := by decide +kernel
  have hp2 := two_pow_4 ht
  have hp1 : 1 ≤ 2 ^ t := Nat.one_le_two_pow
  refine lv_aload_n hx hb dX0_apart_0 rfl (lv_at hl 0 rfl) ?_
  refine p_get C hw (ci := 0) (Cn := RX0) (T := TX0) (N := 3) hL_h hf_h rfl hin_RX0 1 (by decide) (List.mem_of_getElem? (i := 1) rfl) rfl rfl dX0_apart_1 ?_
  refine lv_istore_n (lv' := [(1, .int (nI mm)), (0, .ref h)]) hx hb dX0_apart_4 rfl hl (by decide) rfl (fun ls hl => ?_)
  refine lv_iconst (v := nI 1) hx hb dX0_apart_5 (by decide) ?_
  refine lv_istore_n (lv' := [(2, .int (nI 1)), (1, .int (nI mm)), (0, .ref h)]) hx hb dX0_apart_6 rfl hl (by decide) rfl (fun ls hl => ?_)
  have loop7 : ∀ (kf : Nat) (v : Nat), (2 ^ t) - v < kf → ∀ (H : Heap) (locs : List Loc) (ls : Array Slot),  (v ≤ 2 ^ t) → (1 ≤ v) → pW D (pA S s.heap.size) s.heap S H locs → lv_has ls 3 [(2, .int (nI v)), (1, .int (nI (leaN tab mm v))), (0, .ref h)] → W p l e (headSpec wsX0_apart ({ frames := 2, cells := 0, slots := 0, locals := 41 } : Room)).room s m ([.ref h]).toArray below meth c H locs 0 0 (MQ below (pQi D cy S s.heap.size (fun r S' => r = nI (leaN tab mm (2 ^ t)) ∧ S = S')) ([.ref h]).toArray s 0 0 (pA S s.heap.size)) (F0 m 7 ls []) := by
    intro kf
    induction kf with
    | zero => intro v hm; exact absurd hm (Nat.not_lt_zero _)
    | succ kf ih7 =>
      intro v hm  H locs ls  hv hv1 hw hl
      have hle := leaN_le (tab := tab) (m0 := mm) v
      refine lv_iload_n hx hb dX0_apart_7 rfl (lv_at hl 0 rfl) ?_
      refine lv_aload_n hx hb dX0_apart_8 rfl (lv_at hl 2 rfl) ?_
      refine p_calli (va_runV (As := []) (rest := [.int (nI v)]) C.fix (c_X0_wordsInAll l D cy S H.size h t mm wd tab hL_h hf_h hL_wd hf_wd ht) (cwV 0 C.2.2.2.2.1 gX0_apart_X0_wordsInAll rfl rfl rfl hdV_yX0_wordsInAll_RX0 ⟨Nat.le_of_ble_eq_true rfl, Nat.le_of_ble_eq_true rfl⟩) (p_preV C hw hL_h hf_h rfl) rfl rfl hl.1 rfl (lv_room (Nat.le_of_ble_eq_true rfl)) dX0_apart_9 ⟨Nat.le_of_ble_eq_true rfl, Nat.le_of_ble_eq_true rfl⟩) hw hA (fun r2 S1 H locs hpost hw => ?_)
      obtain ⟨hr_, hS_⟩ := hpost
      subst hr_
      subst hS_
      refine n_icmp_ge (tgt := 37) hx hb (by omega) (by omega) dX0_apart_12 (by decide) (fun h_12 => ?_) (fun h_12 => ?_)
      · skip
        refine lv_iload_n hx hb dX0_apart_37 rfl (lv_at hl 1 rfl) ?_
        exact p_iret C hw ⟨by rw [show 2 ^ t = v from by omega], rfl⟩ hr hlocks dX0_apart_38
      · skip
        refine lv_iload_n hx hb dX0_apart_15 rfl (lv_at hl 1 rfl) ?_
        refine lv_aload_n hx hb dX0_apart_16 rfl (lv_at hl 2 rfl) ?_
        refine p_get C hw (ci := 0) (Cn := RX0) (T := TX0) (N := 3) hL_h hf_h rfl hin_RX0 2 (by decide) (List.mem_of_getElem? (i := 2) rfl) rfl rfl dX0_apart_17 ?_
        refine lv_iload_n hx hb dX0_apart_20 rfl (lv_at hl 0 rfl) ?_
        refine p_calli (va_runSN (As := [.ref wd, .int (nI v)]) (rest := [.int (nI (leaN tab mm v))]) C.fix (c_X11_at l D cy S H.size wd 16 v tab hL_wd hf_wd (by omega) (by omega)) ⟨va_cnB 2 C.2.2.2.2.1 gX0_apart_X11_at_n39 rfl rfl rfl (show va_Nw (.methodLinkNest RX0 39 yX11_at "SoundingLine") s from C.2.2.2.2.2.2.1 6 (RX0, 39, yX11_at) rfl) (C.2.2.2.2.1 (.initialized RX11) (List.mem_of_getElem? (i := 14) rfl)) hdS_yX11_at ⟨Nat.le_of_ble_eq_true rfl, Nat.le_of_ble_eq_true rfl⟩, C.2.2.2.2.1 (.static yX11_at) (List.mem_of_getElem? (i := 13) rfl), trivial⟩ (p_preS C hw) rfl rfl hl.1 rfl (lv_room (Nat.le_of_ble_eq_true rfl)) dX0_apart_21 ⟨Nat.le_of_ble_eq_true rfl, Nat.le_of_ble_eq_true rfl⟩) hw hA (fun r4 S3 H locs hpost hw => ?_)
        obtain ⟨hr_, hS_⟩ := hpost
        subst hr_
        subst hS_
        have hrb := rg_lt (n := 16) (j := v) htab
        refine p_calli (va_runS (As := [.int (nI (rg tab 16 v))]) (rest := [.int (nI (leaN tab mm v))]) C.fix (c_J6_bitCount_0f7a4 l D cy S H.size (rg tab 16 v) (by omega)) (va_cwS 1 C.2.2.2.2.1 gX0_apart_J6_bitCount_0f7a4 rfl rfl rfl hdS_yJ6_bitCount_0f7a4 ⟨Nat.le_of_ble_eq_true rfl, Nat.le_of_ble_eq_true rfl⟩) (p_preS C hw) rfl rfl hl.1 rfl (lv_room (Nat.le_of_ble_eq_true rfl)) dX0_apart_24 ⟨Nat.le_of_ble_eq_true rfl, Nat.le_of_ble_eq_true rfl⟩) hw hA (fun r6 S5 H locs hpost hw => ?_)
        obtain ⟨hr_, hS_⟩ := hpost
        subst hr_
        subst hS_
        have hb12 := bc_le12 (rg tab 16 v)
        refine n_mmin C hl.1.symm (index := 26) (List.mem_of_getElem? (i := 3) rfl) (List.mem_of_getElem? (i := 4) rfl) (List.mem_of_getElem? (i := 5) rfl) (List.mem_of_getElem? (i := 6) rfl) (Nat.le_of_ble_eq_true rfl) (Nat.le_of_ble_eq_true rfl) (Nat.le_of_ble_eq_true rfl) (Nat.le_of_ble_eq_true rfl) (by omega) (by omega) dX0_apart_27 ?_
        refine n_ren (b := leaN tab mm (v + 1)) (leaN_s (by omega)) ?_
        refine lv_istore_n (lv' := [(1, .int (nI (leaN tab mm (v + 1)))), (2, .int (nI v)), (0, .ref h)]) hx hb dX0_apart_30 rfl hl (by decide) rfl (fun ls hl => ?_)
        refine lv_iinc (v := (nI (v + 1))) (lv' := [(2, .int (nI (v + 1))), (1, .int (nI (leaN tab mm (v + 1)))), (0, .ref h)]) hx hb dX0_apart_31 hl (k := 1) rfl (by rw [show Int32.ofInt 1 = nI 1 from by decide, nI_add]) (by decide) rfl (fun ls hl => ?_)
        refine lv_goto (tgt := 7) hx hb dX0_apart_34 (by decide) ?_
        exact ih7 (v + 1) (by omega)  H locs ls  (by omega) (by omega) hw (lv_sub hl [0, 1, 2] rfl)
  exact loop7 ((2 ^ t) - 1 + 1) 1 (by omega)  s.heap [] ls  (by exact hp1) (Nat.le_refl _) hw (lv_sub hl [0, 1, 2] rfl)

set_option maxHeartbeats 4000000 in
set_option maxRecDepth 100000 in
/-- Block.wordsWith -/
theorem c_X0_wordsWith (l : Launch) (D : va_G) (cy : Nat → ClassId) (S : pS) (sz : Nat) (h t mm wd ones : Nat) (tab : Nat → Nat) (hL_h : h ∈ S.1) (hf_h : S.2 h = .inr (0, [.int (nI t), .int (nI mm), .ref wd])) (hL_wd : wd ∈ S.1) (hf_wd : S.2 wd = aN (cy 0) 16 tab) (ht : t ≤ 4) (ho : ones < 2 ^ 31) (htab : ∀ q, tab q < 1024) : Met l yX0_wordsWith wsX0_wordsWith ({ frames := 2, cells := 0, slots := 0, locals := 41 }) (pPc D cy S sz [.ref h, .int (nI ones)]) (pQi D cy S sz (fun r S' => r = nI (cnt (hasOnes tab ones) (2 ^ t)) ∧ S = S')) 0 0 (pA S sz) := by
  refine Met.ofW (cc := cX0_wordsWith) (maxL := 4) (ret := (some .int)) (by decide) rfl ?_
  intro p e s m args below meth c s₁ B hml hv
  obtain ⟨rfl, rfl, C, hw, hA, hr, hlocks⟩ := p_start B hml hv
  have hx := C.1
  have hb := C.2.1
  have hl := lv_entry ([.ref h, .int (nI ones)]) (n := 4) (Nat.le_of_ble_eq_true rfl)
  rw [lg_entry_eq]
  generalize (lg_sl ([.ref h, .int (nI ones)]) ++ List.replicate (4 - (lg_sl ([.ref h, .int (nI ones)])).length) Slot.unset).toArray = ls at hl ⊢
  have hl : lv_has ls 4 [(0, .ref h), (1, .int (nI ones))] := hl
  have hin_RX0 : ∀ w ∈ u_ws RX0 TX0 3, w ∈ wsX0_wordsWith := by decide +kernel
  have hp2 := two_pow_4 ht
  refine lv_iconst (v := nI 0) hx hb dX0_wordsWith_0 (by decide) ?_
  refine lv_istore_n (lv' := [(2, .int (nI 0)), (0, .ref h), (1, .int (nI ones))]) hx hb dX0_wordsWith_1 rfl hl (by decide) rfl (fun ls hl => ?_)
  refine lv_iconst (v := nI 0) hx hb dX0_wordsWith_2 (by decide) ?_
  refine lv_istore_n (lv' := [(3, .int (nI 0)), (2, .int (nI 0)), (0, .ref h), (1, .int (nI ones))]) hx hb dX0_wordsWith_3 rfl hl (by decide) rfl (fun ls hl => ?_)
  have loop4 : ∀ (kf : Nat) (v : Nat), (2 ^ t) - v < kf → ∀ (H : Heap) (locs : List Loc) (ls : Array Slot),  (v ≤ 2 ^ t) → pW D (pA S s.heap.size) s.heap S H locs → lv_has ls 4 [(3, .int (nI v)), (2, .int (nI (cnt (hasOnes tab ones) v))), (0, .ref h), (1, .int (nI ones))] → W p l e (headSpec wsX0_wordsWith ({ frames := 2, cells := 0, slots := 0, locals := 41 } : Room)).room s m ([.ref h, .int (nI ones)]).toArray below meth c H locs 0 0 (MQ below (pQi D cy S s.heap.size (fun r S' => r = nI (cnt (hasOnes tab ones) (2 ^ t)) ∧ S = S')) ([.ref h, .int (nI ones)]).toArray s 0 0 (pA S s.heap.size)) (F0 m 4 ls []) := by
    intro kf
    induction kf with
    | zero => intro v hm; exact absurd hm (Nat.not_lt_zero _)
    | succ kf ih4 =>
      intro v hm  H locs ls  hv hw hl
      refine lv_iload_n hx hb dX0_wordsWith_4 rfl (lv_at hl 0 rfl) ?_
      refine lv_aload_n hx hb dX0_wordsWith_5 rfl (lv_at hl 2 rfl) ?_
      refine p_calli (va_runV (As := []) (rest := [.int (nI v)]) C.fix (c_X0_wordsInAll l D cy S H.size h t mm wd tab hL_h hf_h hL_wd hf_wd ht) (cwV 0 C.2.2.2.2.1 gX0_wordsWith_X0_wordsInAll rfl rfl rfl hdV_yX0_wordsInAll_RX0 ⟨Nat.le_of_ble_eq_true rfl, Nat.le_of_ble_eq_true rfl⟩) (p_preV C hw hL_h hf_h rfl) rfl rfl hl.1 rfl (lv_room (Nat.le_of_ble_eq_true rfl)) dX0_wordsWith_6 ⟨Nat.le_of_ble_eq_true rfl, Nat.le_of_ble_eq_true rfl⟩) hw hA (fun r2 S1 H locs hpost hw => ?_)
      obtain ⟨hr_, hS_⟩ := hpost
      subst hr_
      subst hS_
      refine n_icmp_ge (tgt := 36) hx hb (by omega) (by omega) dX0_wordsWith_9 (by decide) (fun h_9 => ?_) (fun h_9 => ?_)
      · skip
        refine lv_iload_n hx hb dX0_wordsWith_36 rfl (lv_at hl 1 rfl) ?_
        exact p_iret C hw ⟨by rw [show 2 ^ t = v from by omega], rfl⟩ hr hlocks dX0_wordsWith_37
      · skip
        refine lv_aload_n hx hb dX0_wordsWith_12 rfl (lv_at hl 2 rfl) ?_
        refine p_get C hw (ci := 0) (Cn := RX0) (T := TX0) (N := 3) hL_h hf_h rfl hin_RX0 2 (by decide) (List.mem_of_getElem? (i := 1) rfl) rfl rfl dX0_wordsWith_13 ?_
        refine lv_iload_n hx hb dX0_wordsWith_16 rfl (lv_at hl 0 rfl) ?_
        refine p_calli (va_runSN (As := [.ref wd, .int (nI v)]) (rest := []) C.fix (c_X11_at l D cy S H.size wd 16 v tab hL_wd hf_wd (by omega) (by omega)) ⟨va_cnB 2 C.2.2.2.2.1 gX0_wordsWith_X11_at_n39 rfl rfl rfl (show va_Nw (.methodLinkNest RX0 39 yX11_at "SoundingLine") s from C.2.2.2.2.2.2.1 6 (RX0, 39, yX11_at) rfl) (C.2.2.2.2.1 (.initialized RX11) (List.mem_of_getElem? (i := 13) rfl)) hdS_yX11_at ⟨Nat.le_of_ble_eq_true rfl, Nat.le_of_ble_eq_true rfl⟩, C.2.2.2.2.1 (.static yX11_at) (List.mem_of_getElem? (i := 12) rfl), trivial⟩ (p_preS C hw) rfl rfl hl.1 rfl (lv_room (Nat.le_of_ble_eq_true rfl)) dX0_wordsWith_17 ⟨Nat.le_of_ble_eq_true rfl, Nat.le_of_ble_eq_true rfl⟩) hw hA (fun r4 S3 H locs hpost hw => ?_)
        obtain ⟨hr_, hS_⟩ := hpost
        subst hr_
        subst hS_
        have hrb := rg_lt (n := 16) (j := v) htab
        refine p_calli (va_runS (As := [.int (nI (rg tab 16 v))]) (rest := []) C.fix (c_J6_bitCount_0f7a4 l D cy S H.size (rg tab 16 v) (by omega)) (va_cwS 1 C.2.2.2.2.1 gX0_wordsWith_J6_bitCount_0f7a4 rfl rfl rfl hdS_yJ6_bitCount_0f7a4 ⟨Nat.le_of_ble_eq_true rfl, Nat.le_of_ble_eq_true rfl⟩) (p_preS C hw) rfl rfl hl.1 rfl (lv_room (Nat.le_of_ble_eq_true rfl)) dX0_wordsWith_20 ⟨Nat.le_of_ble_eq_true rfl, Nat.le_of_ble_eq_true rfl⟩) hw hA (fun r6 S5 H locs hpost hw => ?_)
        obtain ⟨hr_, hS_⟩ := hpost
        subst hr_
        subst hS_
        have hb12 := bc_le12 (rg tab 16 v)
        refine lv_iload_n hx hb dX0_wordsWith_23 rfl (lv_at hl 3 rfl) ?_
        refine n_icmp_ne (tgt := 30) hx hb (by omega) (by omega) dX0_wordsWith_24 (by decide) (fun h_24 => ?_) (fun h_24 => ?_)
        · skip
          rw [← cnt_f (f := hasOnes tab ones) (k := v) (by simp [hasOnes, h_24])] at hl
          refine lv_iinc (v := (nI (v + 1))) (lv' := [(3, .int (nI (v + 1))), (2, .int (nI (cnt (hasOnes tab ones) (v + 1)))), (0, .ref h), (1, .int (nI ones))]) hx hb dX0_wordsWith_30 hl (k := 0) rfl (by rw [show Int32.ofInt 1 = nI 1 from by decide, nI_add]) (by decide) rfl (fun ls hl => ?_)
          refine lv_goto (tgt := 4) hx hb dX0_wordsWith_33 (by decide) ?_
          exact ih4 (v + 1) (by omega)  H locs ls  (by omega) hw (lv_sub hl [0, 1, 2, 3] rfl)
        · skip
          refine lv_iinc (v := (nI (cnt (hasOnes tab ones) (v + 1)))) (lv' := [(2, .int (nI (cnt (hasOnes tab ones) (v + 1)))), (3, .int (nI v)), (0, .ref h), (1, .int (nI ones))]) hx hb dX0_wordsWith_27 hl (k := 1) rfl (by rw [show Int32.ofInt 1 = nI 1 from by decide, nI_add, ← cnt_t (f := hasOnes tab ones) (k := v) (by simp [hasOnes, h_24])]) (by decide) rfl (fun ls hl => ?_)
          refine lv_iinc (v := (nI (v + 1))) (lv' := [(3, .int (nI (v + 1))), (2, .int (nI (cnt (hasOnes tab ones) (v + 1)))), (0, .ref h), (1, .int (nI ones))]) hx hb dX0_wordsWith_30 hl (k := 1) rfl (by rw [show Int32.ofInt 1 = nI 1 from by decide, nI_add]) (by decide) rfl (fun ls hl => ?_)
          refine lv_goto (tgt := 4) hx hb dX0_wordsWith_33 (by decide) ?_
          exact ih4 (v + 1) (by omega)  H locs ls  (by omega) hw (lv_sub hl [0, 1, 2, 3] rfl)
  exact loop4 ((2 ^ t) - 0 + 1) 0 (by omega)  s.heap [] ls  (Nat.zero_le _) hw (lv_sub hl [0, 1, 2, 3] rfl)

set_option maxHeartbeats 4000000 in
set_option maxRecDepth 100000 in
/-- Block.nearest -/
theorem c_X0_nearest (l : Launch) (D : va_G) (cy : Nat → ClassId) (S : pS) (sz : Nat) (h t mm wd bits known : Nat) (tab : Nat → Nat) (hL_h : h ∈ S.1) (hf_h : S.2 h = .inr (0, [.int (nI t), .int (nI mm), .ref wd])) (hL_wd : wd ∈ S.1) (hf_wd : S.2 wd = aN (cy 0) 16 tab) (ht : t ≤ 4) (hbi : bits < 4096) (hkn : known < 4096) (htab : ∀ q, tab q < 1024) : Met l yX0_nearest wsX0_nearest ({ frames := 2, cells := 0, slots := 0, locals := 41 }) (pPc D cy S sz [.ref h, .int (nI bits), .int (nI known)]) (pQi D cy S sz (fun r S' => r = nI (near tab bits known (2 ^ t)).2 ∧ S = S')) 0 0 (pA S sz) := by
  refine Met.ofW (cc := cX0_nearest) (maxL := 7) (ret := (some .int)) (by decide) rfl ?_
  intro p e s m args below meth c s₁ B hml hv
  obtain ⟨rfl, rfl, C, hw, hA, hr, hlocks⟩ := p_start B hml hv
  have hx := C.1
  have hb := C.2.1
  have hl := lv_entry ([.ref h, .int (nI bits), .int (nI known)]) (n := 7) (Nat.le_of_ble_eq_true rfl)
  rw [lg_entry_eq]
  generalize (lg_sl ([.ref h, .int (nI bits), .int (nI known)]) ++ List.replicate (7 - (lg_sl ([.ref h, .int (nI bits), .int (nI known)])).length) Slot.unset).toArray = ls at hl ⊢
  have hl : lv_has ls 7 [(0, .ref h), (1, .int (nI bits)), (2, .int (nI known))] := hl
  have hin_RX0 : ∀ w ∈ u_ws RX0 TX0 3, w ∈ wsX0_nearest := by decide +kernel
  have hp2 := two_pow_4 ht
  refine lv_iconst (v := nI 0) hx hb dX0_nearest_0 (by decide) ?_
  refine lv_istore_n (lv' := [(3, .int (nI 0)), (0, .ref h), (1, .int (nI bits)), (2, .int (nI known))]) hx hb dX0_nearest_1 rfl hl (by decide) rfl (fun ls hl => ?_)
  refine lv_ldc (v := nI 1000000) hx hb C.2.2.2.1 (C.2.2.2.2.1 (.constant RX0 67 (1000000)) (List.mem_of_getElem? (i := 1) rfl)) dX0_nearest_2 ?_
  refine lv_istore (lv' := [(4, .int (nI 1000000)), (3, .int (nI 0)), (0, .ref h), (1, .int (nI bits)), (2, .int (nI known))]) hx hb dX0_nearest_4 hl (by decide) rfl (fun ls hl => ?_)
  refine lv_iconst (v := nI 0) hx hb dX0_nearest_6 (by decide) ?_
  refine lv_istore (lv' := [(5, .int (nI 0)), (4, .int (nI 1000000)), (3, .int (nI 0)), (0, .ref h), (1, .int (nI bits)), (2, .int (nI known))]) hx hb dX0_nearest_7 hl (by decide) rfl (fun ls hl => ?_)
  have loop9 : ∀ (kf : Nat) (v : Nat), (2 ^ t) - v < kf → ∀ (H : Heap) (locs : List Loc) (ls : Array Slot),  (v ≤ 2 ^ t) → pW D (pA S s.heap.size) s.heap S H locs → lv_has ls 7 [(5, .int (nI v)), (4, .int (nI ((near tab bits known v).1))), (3, .int (nI ((near tab bits known v).2))), (0, .ref h), (1, .int (nI bits)), (2, .int (nI known))] → W p l e (headSpec wsX0_nearest ({ frames := 2, cells := 0, slots := 0, locals := 41 } : Room)).room s m ([.ref h, .int (nI bits), .int (nI known)]).toArray below meth c H locs 0 0 (MQ below (pQi D cy S s.heap.size (fun r S' => r = nI (near tab bits known (2 ^ t)).2 ∧ S = S')) ([.ref h, .int (nI bits), .int (nI known)]).toArray s 0 0 (pA S s.heap.size)) (F0 m 9 ls []) := by
    intro kf
    induction kf with
    | zero => intro v hm; exact absurd hm (Nat.not_lt_zero _)
    | succ kf ih9 =>
      intro v hm  H locs ls  hv hw hl
      have hl1 := near_le (tab := tab) (bits := bits) (known := known) v
      have hl2 := near_lt (tab := tab) (bits := bits) (known := known) v
      refine lv_iload hx hb dX0_nearest_9 (lv_at hl 0 rfl) ?_
      refine lv_aload_n hx hb dX0_nearest_11 rfl (lv_at hl 3 rfl) ?_
      refine p_calli (va_runV (As := []) (rest := [.int (nI v)]) C.fix (c_X0_wordsInAll l D cy S H.size h t mm wd tab hL_h hf_h hL_wd hf_wd ht) (cwV 0 C.2.2.2.2.1 gX0_nearest_X0_wordsInAll rfl rfl rfl hdV_yX0_wordsInAll_RX0 ⟨Nat.le_of_ble_eq_true rfl, Nat.le_of_ble_eq_true rfl⟩) (p_preV C hw hL_h hf_h rfl) rfl rfl hl.1 rfl (lv_room (Nat.le_of_ble_eq_true rfl)) dX0_nearest_12 ⟨Nat.le_of_ble_eq_true rfl, Nat.le_of_ble_eq_true rfl⟩) hw hA (fun r2 S1 H locs hpost hw => ?_)
      obtain ⟨hr_, hS_⟩ := hpost
      subst hr_
      subst hS_
      refine n_icmp_ge (tgt := 56) hx hb (by omega) (by omega) dX0_nearest_15 (by decide) (fun h_15 => ?_) (fun h_15 => ?_)
      · skip
        refine lv_iload_n hx hb dX0_nearest_56 rfl (lv_at hl 2 rfl) ?_
        exact p_iret C hw ⟨by rw [show 2 ^ t = v from by omega], rfl⟩ hr hlocks dX0_nearest_57
      · skip
        refine lv_aload_n hx hb dX0_nearest_18 rfl (lv_at hl 3 rfl) ?_
        refine p_get C hw (ci := 0) (Cn := RX0) (T := TX0) (N := 3) hL_h hf_h rfl hin_RX0 2 (by decide) (List.mem_of_getElem? (i := 2) rfl) rfl rfl dX0_nearest_19 ?_
        refine lv_iload hx hb dX0_nearest_22 (lv_at hl 0 rfl) ?_
        refine p_calli (va_runSN (As := [.ref wd, .int (nI v)]) (rest := []) C.fix (c_X11_at l D cy S H.size wd 16 v tab hL_wd hf_wd (by omega) (by omega)) ⟨va_cnB 2 C.2.2.2.2.1 gX0_nearest_X11_at_n39 rfl rfl rfl (show va_Nw (.methodLinkNest RX0 39 yX11_at "SoundingLine") s from C.2.2.2.2.2.2.1 6 (RX0, 39, yX11_at) rfl) (C.2.2.2.2.1 (.initialized RX11) (List.mem_of_getElem? (i := 14) rfl)) hdS_yX11_at ⟨Nat.le_of_ble_eq_true rfl, Nat.le_of_ble_eq_true rfl⟩, C.2.2.2.2.1 (.static yX11_at) (List.mem_of_getElem? (i := 13) rfl), trivial⟩ (p_preS C hw) rfl rfl hl.1 rfl (lv_room (Nat.le_of_ble_eq_true rfl)) dX0_nearest_24 ⟨Nat.le_of_ble_eq_true rfl, Nat.le_of_ble_eq_true rfl⟩) hw hA (fun r4 S3 H locs hpost hw => ?_)
        obtain ⟨hr_, hS_⟩ := hpost
        subst hr_
        subst hS_
        have hrb := rg_lt (n := 16) (j := v) htab
        refine lv_iload_n hx hb dX0_nearest_27 rfl (lv_at hl 4 rfl) ?_
        refine n_ixor hx hb dX0_nearest_28 ?_
        refine lv_iload_n hx hb dX0_nearest_29 rfl (lv_at hl 5 rfl) ?_
        refine n_iand hx hb dX0_nearest_30 ?_
        have hand : (rg tab 16 v ^^^ bits) &&& known ≤ known := Nat.and_le_right
        refine p_calli (va_runS (As := [.int (nI (((rg tab 16 v) ^^^ bits) &&& known))]) (rest := []) C.fix (c_J6_bitCount_0f7a4 l D cy S H.size (((rg tab 16 v) ^^^ bits) &&& known) (by omega)) (va_cwS 1 C.2.2.2.2.1 gX0_nearest_J6_bitCount_0f7a4 rfl rfl rfl hdS_yJ6_bitCount_0f7a4 ⟨Nat.le_of_ble_eq_true rfl, Nat.le_of_ble_eq_true rfl⟩) (p_preS C hw) rfl rfl hl.1 rfl (lv_room (Nat.le_of_ble_eq_true rfl)) dX0_nearest_31 ⟨Nat.le_of_ble_eq_true rfl, Nat.le_of_ble_eq_true rfl⟩) hw hA (fun r6 S5 H locs hpost hw => ?_)
        obtain ⟨hr_, hS_⟩ := hpost
        subst hr_
        subst hS_
        have hb12 : farN tab bits known v ≤ 12 := bc_le12 _
        refine n_ren (b := farN tab bits known v) rfl ?_
        refine lv_istore (lv' := [(6, .int (nI (farN tab bits known v))), (5, .int (nI v)), (4, .int (nI ((near tab bits known v).1))), (3, .int (nI ((near tab bits known v).2))), (0, .ref h), (1, .int (nI bits)), (2, .int (nI known))]) hx hb dX0_nearest_34 hl (by decide) rfl (fun ls hl => ?_)
        refine lv_iload hx hb dX0_nearest_36 (lv_at hl 0 rfl) ?_
        refine lv_iload hx hb dX0_nearest_38 (lv_at hl 2 rfl) ?_
        refine n_icmp_ge (tgt := 50) hx hb (by omega) (by omega) dX0_nearest_40 (by decide) (fun h_40 => ?_) (fun h_40 => ?_)
        · skip
          rw [← near_f h_40] at hl
          refine lv_iinc (v := (nI (v + 1))) (lv' := [(5, .int (nI (v + 1))), (6, .int (nI (farN tab bits known v))), (4, .int (nI ((near tab bits known (v + 1)).1))), (3, .int (nI ((near tab bits known (v + 1)).2))), (0, .ref h), (1, .int (nI bits)), (2, .int (nI known))]) hx hb dX0_nearest_50 hl (k := 1) rfl (by rw [show Int32.ofInt 1 = nI 1 from by decide, nI_add]) (by decide) rfl (fun ls hl => ?_)
          refine lv_goto (tgt := 9) hx hb dX0_nearest_53 (by decide) ?_
          exact ih9 (v + 1) (by omega)  H locs ls  (by omega) hw (lv_sub hl [0, 2, 3, 4, 5, 6] rfl)
        · skip
          refine lv_iload hx hb dX0_nearest_43 (lv_at hl 0 rfl) ?_
          refine lv_istore (lv' := [(4, .int (nI (farN tab bits known v))), (6, .int (nI (farN tab bits known v))), (5, .int (nI v)), (3, .int (nI ((near tab bits known v).2))), (0, .ref h), (1, .int (nI bits)), (2, .int (nI known))]) hx hb dX0_nearest_45 hl (by decide) rfl (fun ls hl => ?_)
          refine lv_iload hx hb dX0_nearest_47 (lv_at hl 2 rfl) ?_
          refine lv_istore_n (lv' := [(3, .int (nI v)), (4, .int (nI (farN tab bits known v))), (6, .int (nI (farN tab bits known v))), (5, .int (nI v)), (0, .ref h), (1, .int (nI bits)), (2, .int (nI known))]) hx hb dX0_nearest_49 rfl hl (by decide) rfl (fun ls hl => ?_)
          replace hl : lv_has ls 7 [(3, .int (nI ((near tab bits known (v + 1)).2))), (4, .int (nI ((near tab bits known (v + 1)).1))), (6, .int (nI (farN tab bits known v))), (5, .int (nI v)), (0, .ref h), (1, .int (nI bits)), (2, .int (nI known))] := (by rw [near_t h_40]; exact hl)
          refine lv_iinc (v := (nI (v + 1))) (lv' := [(5, .int (nI (v + 1))), (3, .int (nI ((near tab bits known (v + 1)).2))), (4, .int (nI ((near tab bits known (v + 1)).1))), (6, .int (nI (farN tab bits known v))), (0, .ref h), (1, .int (nI bits)), (2, .int (nI known))]) hx hb dX0_nearest_50 hl (k := 3) rfl (by rw [show Int32.ofInt 1 = nI 1 from by decide, nI_add]) (by decide) rfl (fun ls hl => ?_)
          refine lv_goto (tgt := 9) hx hb dX0_nearest_53 (by decide) ?_
          exact ih9 (v + 1) (by omega)  H locs ls  (by omega) hw (lv_sub hl [0, 2, 1, 4, 5, 6] rfl)
  exact loop9 ((2 ^ t) - 0 + 1) 0 (by omega)  s.heap [] ls  (Nat.zero_le _) hw (lv_sub hl [0, 1, 2, 3, 4, 5] rfl)

theorem hdV_yX7_putNumber_RX7 : yX7_putNumber.cls = RX7 ∧ yX7_putNumber.cls ≠ "java/lang/invoke/MethodHandle" ∧ yX7_putNumber.cls ≠ "java/lang/invoke/VarHandle" ∧ (parseMethodDescriptor yX7_putNumber.desc).map (fun d => d.parameters.length) = some 3 := by decide +kernel
set_option maxHeartbeats 4000000 in
set_option maxRecDepth 100000 in
/-- Block.code -/
theorem c_X0_code (l : Launch) (D : va_G) (cy : Nat → ClassId) (S : pS) (sz : Nat) (h t mm wd : Nat) (tab : Nat → Nat) (a a1 Na na b b1 Nb nb : Nat) (ga gb : Nat → Nat) (hL_h : h ∈ S.1) (hf_h : S.2 h = .inr (0, [.int (nI t), .int (nI mm), .ref wd])) (hL_wd : wd ∈ S.1) (hf_wd : S.2 wd = aN (cy 0) 16 tab) (hL_a : a ∈ S.1) (hf_a : S.2 a = .inr (7, [.ref a1, .int (nI na)])) (hL_a1 : a1 ∈ S.1) (hf_a1 : S.2 a1 = aN (cy 0) Na ga) (hL_b : b ∈ S.1) (hf_b : S.2 b = .inr (7, [.ref b1, .int (nI nb)])) (hL_b1 : b1 ∈ S.1) (hf_b1 : S.2 b1 = aN (cy 0) Nb gb) (ht0 : 1 ≤ t) (ht : t ≤ 4) (hm0 : 1 ≤ mm) (hmm : mm ≤ 10) (htab : ∀ q, tab q < 1024) (hn4 : na ≤ 400) (hwb : wd ≠ b1) (hNa : Na < 2 ^ 27) (hna : na ≤ Na) (hga : ∀ q, ga q ≤ 2) (hNb : Nb < 2 ^ 27) (hnb : nb ≤ Nb) (hgb : ∀ q, gb q ≤ 2) (hne : a1 ≠ b1) : Met l yX0_code wsX0_code ({ frames := 2, cells := 0, slots := 0, locals := 46 }) (pPc D cy S sz [.ref h, .ref a, .ref b]) (pQv D cy S sz (fun S' => S' = pup S b1 (aN (cy 0) Nb (rblk gb nb tab ga na t mm (blk na t))))) 0 0 (pA S sz) := by
  refine Met.ofW (cc := cX0_code) (maxL := 6) (ret := none) (by decide) rfl ?_
  intro p e s m args below meth c s₁ B hml hv
  obtain ⟨rfl, rfl, C, hw, hA, hr, hlocks⟩ := p_start B hml hv
  have hx := C.1
  have hb := C.2.1
  have hl := lv_entry ([.ref h, .ref a, .ref b]) (n := 6) (Nat.le_of_ble_eq_true rfl)
  rw [lg_entry_eq]
  generalize (lg_sl ([.ref h, .ref a, .ref b]) ++ List.replicate (6 - (lg_sl ([.ref h, .ref a, .ref b])).length) Slot.unset).toArray = ls at hl ⊢
  have hl : lv_has ls 6 [(0, .ref h), (1, .ref a), (2, .ref b)] := hl
  have hin_RX0 : ∀ w ∈ u_ws RX0 TX0 3, w ∈ wsX0_code := by decide +kernel
  refine lv_aload_n hx hb dX0_code_0 rfl (lv_at hl 1 rfl) ?_
  refine p_calli (va_runV (As := []) (rest := []) C.fix (c_X7_size l D cy S s.heap.size a a1 na hL_a hf_a) (cwV 0 C.2.2.2.2.1 gX0_code_X7_size rfl rfl rfl hdV_yX7_size_RX7 ⟨Nat.le_of_ble_eq_true rfl, Nat.le_of_ble_eq_true rfl⟩) (p_preV C hw hL_a hf_a rfl) rfl rfl hl.1 rfl (lv_room (Nat.le_of_ble_eq_true rfl)) dX0_code_1 ⟨Nat.le_of_ble_eq_true rfl, Nat.le_of_ble_eq_true rfl⟩) hw hA (fun r2 S1 H locs hpost hw => ?_)
  obtain ⟨hr_, hS_⟩ := hpost
  subst hr_
  subst hS_
  refine lv_aload_n hx hb dX0_code_4 rfl (lv_at hl 0 rfl) ?_
  refine p_get C hw (ci := 0) (Cn := RX0) (T := TX0) (N := 3) hL_h hf_h rfl hin_RX0 0 (by decide) (List.mem_of_getElem? (i := 1) rfl) rfl rfl dX0_code_5 ?_
  refine p_calli (va_runSN (As := [.int (nI na), .int (nI t)]) (rest := []) C.fix (c_X11_blocksOf l D cy S H.size na t (by omega) (by omega)) ⟨va_cnB 2 C.2.2.2.2.1 gX0_code_X11_blocksOf_n32 rfl rfl rfl (show va_Nw (.methodLinkNest RX0 32 yX11_blocksOf "SoundingLine") s from C.2.2.2.2.2.2.1 3 (RX0, 32, yX11_blocksOf) rfl) (C.2.2.2.2.1 (.initialized RX11) (List.mem_of_getElem? (i := 11) rfl)) hdS_yX11_blocksOf ⟨Nat.le_of_ble_eq_true rfl, Nat.le_of_ble_eq_true rfl⟩, C.2.2.2.2.1 (.static yX11_blocksOf) (List.mem_of_getElem? (i := 10) rfl), trivial⟩ (p_preS C hw) rfl rfl hl.1 rfl (lv_room (Nat.le_of_ble_eq_true rfl)) dX0_code_8 ⟨Nat.le_of_ble_eq_true rfl, Nat.le_of_ble_eq_true rfl⟩) hw hA (fun r4 S3 H locs hpost hw => ?_)
  obtain ⟨hr_, hS_⟩ := hpost
  subst hr_
  subst hS_
  have hbk : blk na t ≤ 404 := Nat.le_trans (Nat.le_mul_of_pos_right _ ht0) (Nat.le_trans (blk_mul_le ht0) (by omega))
  refine lv_istore_n (lv' := [(3, .int (nI (blk na t))), (0, .ref h), (1, .ref a), (2, .ref b)]) hx hb dX0_code_11 rfl hl (by decide) rfl (fun ls hl => ?_)
  refine lv_iconst (v := nI 0) hx hb dX0_code_12 (by decide) ?_
  refine lv_istore (lv' := [(4, .int (nI 0)), (3, .int (nI (blk na t))), (0, .ref h), (1, .ref a), (2, .ref b)]) hx hb dX0_code_13 hl (by decide) rfl (fun ls hl => ?_)
  have loop15 : ∀ (kf : Nat) (k2 : Nat), (blk na t) - k2 < kf → ∀ (SA : pS), ∀ (H : Heap) (locs : List Loc) (ls : Array Slot), (h ∈ SA.1) → (SA.2 h = .inr (0, [.int (nI t), .int (nI mm), .ref wd])) → (wd ∈ SA.1) → (SA.2 wd = aN (cy 0) 16 tab) → (a ∈ SA.1) → (SA.2 a = .inr (7, [.ref a1, .int (nI na)])) → (a1 ∈ SA.1) → (SA.2 a1 = aN (cy 0) Na ga) → (b ∈ SA.1) → (SA.2 b = .inr (7, [.ref b1, .int (nI nb)])) → (b1 ∈ SA.1) → (SA.2 b1 = aN (cy 0) Nb (rblk gb nb tab ga na t mm k2)) → (k2 ≤ blk na t) → (SA = pup S b1 (aN (cy 0) Nb (rblk gb nb tab ga na t mm k2))) → pW D (pA S s.heap.size) s.heap SA H locs → lv_has ls 6 [(4, .int (nI k2)), (3, .int (nI (blk na t))), (0, .ref h), (1, .ref a), (2, .ref b)] → W p l e (headSpec wsX0_code ({ frames := 2, cells := 0, slots := 0, locals := 46 } : Room)).room s m ([.ref h, .ref a, .ref b]).toArray below meth c H locs 0 0 (MQ below (pQv D cy S s.heap.size (fun S' => S' = pup S b1 (aN (cy 0) Nb (rblk gb nb tab ga na t mm (blk na t))))) ([.ref h, .ref a, .ref b]).toArray s 0 0 (pA S s.heap.size)) (F0 m 15 ls []) := by
    intro kf
    induction kf with
    | zero => intro k2 hm; exact absurd hm (Nat.not_lt_zero _)
    | succ kf ih15 =>
      intro k2 hm SA H locs ls hL5 hf6 hL7 hf8 hL9 hf10 hL11 hf12 hL13 hf14 hL15 hf16 hk hSA hw hl
      refine lv_iload hx hb dX0_code_15 (lv_at hl 0 rfl) ?_
      refine lv_iload_n hx hb dX0_code_17 rfl (lv_at hl 1 rfl) ?_
      refine n_icmp_ge (tgt := 68) hx hb (by omega) (by omega) dX0_code_18 (by decide) (fun h_18 => ?_) (fun h_18 => ?_)
      · skip
        exact p_vret C hw (by rw [hSA, show blk na t = k2 from by omega]) hr hlocks dX0_code_68
      · skip
        have hk1 := lt_blk h_18
        have hk2 : k2 * mm ≤ 404 * 10 := Nat.mul_le_mul (by omega) (by omega)
        refine lv_aload_n hx hb dX0_code_21 rfl (lv_at hl 3 rfl) ?_
        refine lv_iload hx hb dX0_code_22 (lv_at hl 0 rfl) ?_
        refine lv_aload_n hx hb dX0_code_24 rfl (lv_at hl 2 rfl) ?_
        refine p_get C hw (ci := 0) (Cn := RX0) (T := TX0) (N := 3) hL5 hf6 rfl hin_RX0 0 (by decide) (List.mem_of_getElem? (i := 1) rfl) rfl rfl dX0_code_25 ?_
        refine n_imul hx hb dX0_code_28 ?_
        refine lv_aload_n hx hb dX0_code_29 rfl (lv_at hl 2 rfl) ?_
        refine p_get C hw (ci := 0) (Cn := RX0) (T := TX0) (N := 3) hL5 hf6 rfl hin_RX0 0 (by decide) (List.mem_of_getElem? (i := 1) rfl) rfl rfl dX0_code_30 ?_
        refine p_calli (va_runV (As := [.int (nI (k2 * t)), .int (nI t)]) (rest := []) C.fix (c_X7_numberAt l D cy SA H.size a a1 Na na (k2 * t) t ga hL9 hf10 hL11 hf12 hNa hna (by omega) (by omega) hga) (cwV 2 C.2.2.2.2.1 gX0_code_X7_numberAt rfl rfl rfl hdV_yX7_numberAt_RX7 ⟨Nat.le_of_ble_eq_true rfl, Nat.le_of_ble_eq_true rfl⟩) (p_preV C hw hL9 hf10 rfl) rfl rfl hl.1 rfl (lv_room (Nat.le_of_ble_eq_true rfl)) dX0_code_33 ⟨Nat.le_of_ble_eq_true rfl, Nat.le_of_ble_eq_true rfl⟩) hw hA (fun r18 S17 H locs hpost hw => ?_)
        obtain ⟨hr_, hS_⟩ := hpost
        subst hr_
        subst hS_
        have hnbb := numAt_b (g := ga) (n := na) (j := k2 * t) (k := t) (by omega)
        refine lv_istore (lv' := [(5, .int (nI (numAt ga na (k2 * t) t))), (4, .int (nI k2)), (3, .int (nI (blk na t))), (0, .ref h), (1, .ref a), (2, .ref b)]) hx hb dX0_code_36 hl (by decide) rfl (fun ls hl => ?_)
        refine lv_aload_n hx hb dX0_code_38 rfl (lv_at hl 5 rfl) ?_
        refine lv_iload hx hb dX0_code_39 (lv_at hl 1 rfl) ?_
        refine lv_aload_n hx hb dX0_code_41 rfl (lv_at hl 3 rfl) ?_
        refine p_get C hw (ci := 0) (Cn := RX0) (T := TX0) (N := 3) hL5 hf6 rfl hin_RX0 1 (by decide) (List.mem_of_getElem? (i := 2) rfl) rfl rfl dX0_code_42 ?_
        refine n_imul hx hb dX0_code_45 ?_
        refine lv_aload_n hx hb dX0_code_46 rfl (lv_at hl 3 rfl) ?_
        refine p_get C hw (ci := 0) (Cn := RX0) (T := TX0) (N := 3) hL5 hf6 rfl hin_RX0 2 (by decide) (List.mem_of_getElem? (i := 3) rfl) rfl rfl dX0_code_47 ?_
        refine lv_iload hx hb dX0_code_50 (lv_at hl 0 rfl) ?_
        refine p_calli (va_runSN (As := [.ref wd, .int (nI (numAt ga na (k2 * t) t))]) (rest := [.int (nI (k2 * mm)), .ref b]) C.fix (c_X11_at l D cy SA H.size wd 16 (numAt ga na (k2 * t) t) tab hL7 hf8 (by omega) (by omega)) ⟨va_cnB 2 C.2.2.2.2.1 gX0_code_X11_at_n39 rfl rfl rfl (show va_Nw (.methodLinkNest RX0 39 yX11_at "SoundingLine") s from C.2.2.2.2.2.2.1 6 (RX0, 39, yX11_at) rfl) (C.2.2.2.2.1 (.initialized RX11) (List.mem_of_getElem? (i := 11) rfl)) hdS_yX11_at ⟨Nat.le_of_ble_eq_true rfl, Nat.le_of_ble_eq_true rfl⟩, C.2.2.2.2.1 (.static yX11_at) (List.mem_of_getElem? (i := 22) rfl), trivial⟩ (p_preS C hw) rfl rfl hl.1 rfl (lv_room (Nat.le_of_ble_eq_true rfl)) dX0_code_52 ⟨Nat.le_of_ble_eq_true rfl, Nat.le_of_ble_eq_true rfl⟩) hw hA (fun r20 S19 H locs hpost hw => ?_)
        obtain ⟨hr_, hS_⟩ := hpost
        subst hr_
        subst hS_
        have hrb := rg_lt (n := 16) (j := numAt ga na (k2 * t) t) htab
        refine lv_aload_n hx hb dX0_code_55 rfl (lv_at hl 3 rfl) ?_
        refine p_get C hw (ci := 0) (Cn := RX0) (T := TX0) (N := 3) hL5 hf6 rfl hin_RX0 1 (by decide) (List.mem_of_getElem? (i := 2) rfl) rfl rfl dX0_code_56 ?_
        refine p_callv (va_runV (As := [.int (nI (k2 * mm)), .int (nI (rg tab 16 (numAt ga na (k2 * t) t))), .int (nI mm)]) (rest := []) C.fix (c_X7_putNumber l D cy SA H.size b b1 Nb nb (k2 * mm) (rg tab 16 (numAt ga na (k2 * t) t)) mm (rblk gb nb tab ga na t mm k2) hL13 hf14 hL15 hf16 hNb hnb (by omega) (by omega) (by omega)) (cwV 3 C.2.2.2.2.1 gX0_code_X7_putNumber rfl rfl rfl hdV_yX7_putNumber_RX7 ⟨Nat.le_of_ble_eq_true rfl, Nat.le_of_ble_eq_true rfl⟩) (p_preV C hw hL13 hf14 rfl) rfl rfl hl.1 rfl (lv_room (Nat.le_of_ble_eq_true rfl)) dX0_code_59 ⟨Nat.le_of_ble_eq_true rfl, Nat.le_of_ble_eq_true rfl⟩) hw hA (fun S21 H locs hpost hw => ?_)
        have hL23 : h ∈ S21.1 := by rw [hpost]; exact hL5
        have hf24 : S21.2 h = .inr (0, [.int (nI t), .int (nI mm), .ref wd]) := by rw [hpost]; exact (pup_n (ne_cells hf6 hf16 (by nofun))).trans hf6
        have hL25 : wd ∈ S21.1 := by rw [hpost]; exact hL7
        have hf26 : S21.2 wd = aN (cy 0) 16 tab := by rw [hpost]; exact (pup_n (by first | assumption | exact Ne.symm (by assumption))).trans hf8
        have hL27 : a ∈ S21.1 := by rw [hpost]; exact hL9
        have hf28 : S21.2 a = .inr (7, [.ref a1, .int (nI na)]) := by rw [hpost]; exact (pup_n (ne_cells hf10 hf16 (by nofun))).trans hf10
        have hL29 : a1 ∈ S21.1 := by rw [hpost]; exact hL11
        have hf30 : S21.2 a1 = aN (cy 0) Na ga := by rw [hpost]; exact (pup_n (by first | assumption | exact Ne.symm (by assumption))).trans hf12
        have hL31 : b ∈ S21.1 := by rw [hpost]; exact hL13
        have hf32 : S21.2 b = .inr (7, [.ref b1, .int (nI nb)]) := by rw [hpost]; exact (pup_n (ne_cells hf14 hf16 (by nofun))).trans hf14
        have hL33 : b1 ∈ S21.1 := by rw [hpost]; exact hL15
        have hf34 : S21.2 b1 = aN (cy 0) Nb (rnum (rblk gb nb tab ga na t mm k2) nb (k2 * mm) (rg tab 16 (numAt ga na (k2 * t) t)) mm mm) := by rw [hpost]; exact pup_s
        refine lv_iinc (v := (nI (k2 + 1))) (lv' := [(4, .int (nI (k2 + 1))), (5, .int (nI (numAt ga na (k2 * t) t))), (3, .int (nI (blk na t))), (0, .ref h), (1, .ref a), (2, .ref b)]) hx hb dX0_code_62 hl (k := 1) rfl (by rw [show Int32.ofInt 1 = nI 1 from by decide, nI_add]) (by decide) rfl (fun ls hl => ?_)
        refine lv_goto (tgt := 15) hx hb dX0_code_65 (by decide) ?_
        exact ih15 (k2 + 1) (by omega) S21 H locs ls hL23 hf24 hL25 hf26 hL27 hf28 hL29 hf30 hL31 hf32 hL33 (by rw [hpost, rblk_s]; exact pup_s) (by omega) (by rw [hpost, hSA, pup_pup, rblk_s]) hw (lv_sub hl [0, 2, 3, 4, 5] rfl)
  exact loop15 ((blk na t) - 0 + 1) 0 (by omega) S H locs ls hL_h hf_h hL_wd hf_wd hL_a hf_a hL_a1 hf_a1 hL_b hf_b hL_b1 (by rw [rblk_0]; exact hf_b1) (Nat.zero_le _) (by rw [rblk_0]; exact (pup_self hf_b1).symm) hw (lv_sub hl [0, 1, 2, 3, 4] rfl)

theorem hdV_yX0_nearest_RX0 : yX0_nearest.cls = RX0 ∧ yX0_nearest.cls ≠ "java/lang/invoke/MethodHandle" ∧ yX0_nearest.cls ≠ "java/lang/invoke/VarHandle" ∧ (parseMethodDescriptor yX0_nearest.desc).map (fun d => d.parameters.length) = some 2 := by decide +kernel
set_option maxHeartbeats 4000000 in
set_option maxRecDepth 100000 in
/-- Block.decode -/
theorem c_X0_decode (l : Launch) (D : va_G) (cy : Nat → ClassId) (S : pS) (sz : Nat) (h t mm wd : Nat) (tab : Nat → Nat) (a a1 Na na b b1 Nb nb : Nat) (ga gb : Nat → Nat) (hL_h : h ∈ S.1) (hf_h : S.2 h = .inr (0, [.int (nI t), .int (nI mm), .ref wd])) (hL_wd : wd ∈ S.1) (hf_wd : S.2 wd = aN (cy 0) 16 tab) (hL_a : a ∈ S.1) (hf_a : S.2 a = .inr (7, [.ref a1, .int (nI na)])) (hL_a1 : a1 ∈ S.1) (hf_a1 : S.2 a1 = aN (cy 0) Na ga) (hL_b : b ∈ S.1) (hf_b : S.2 b = .inr (7, [.ref b1, .int (nI nb)])) (hL_b1 : b1 ∈ S.1) (hf_b1 : S.2 b1 = aN (cy 0) Nb gb) (ht0 : 1 ≤ t) (ht : t ≤ 4) (hm0 : 1 ≤ mm) (hmm : mm ≤ 10) (htab : ∀ q, tab q < 1024) (hn4 : nb ≤ 400) (hwb : wd ≠ b1) (hNa : Na < 2 ^ 27) (hna : na ≤ Na) (hga : ∀ q, ga q ≤ 2) (hNb : Nb < 2 ^ 27) (hnb : nb ≤ Nb) (hgb : ∀ q, gb q ≤ 2) (hne : a1 ≠ b1) : Met l yX0_decode wsX0_decode ({ frames := 3, cells := 0, slots := 0, locals := 67 }) (pPc D cy S sz [.ref h, .ref a, .ref b]) (pQv D cy S sz (fun S' => S' = pup S b1 (aN (cy 0) Nb (rnea gb nb tab ga na t mm (blk nb t))))) 0 0 (pA S sz) := by
  refine Met.ofW (cc := cX0_decode) (maxL := 7) (ret := none) (by decide) rfl ?_
  intro p e s m args below meth c s₁ B hml hv
  obtain ⟨rfl, rfl, C, hw, hA, hr, hlocks⟩ := p_start B hml hv
  have hx := C.1
  have hb := C.2.1
  have hl := lv_entry ([.ref h, .ref a, .ref b]) (n := 7) (Nat.le_of_ble_eq_true rfl)
  rw [lg_entry_eq]
  generalize (lg_sl ([.ref h, .ref a, .ref b]) ++ List.replicate (7 - (lg_sl ([.ref h, .ref a, .ref b])).length) Slot.unset).toArray = ls at hl ⊢
  have hl : lv_has ls 7 [(0, .ref h), (1, .ref a), (2, .ref b)] := hl
  have hin_RX0 : ∀ w ∈ u_ws RX0 TX0 3, w ∈ wsX0_decode := by decide +kernel
  refine lv_aload_n hx hb dX0_decode_0 rfl (lv_at hl 2 rfl) ?_
  refine p_calli (va_runV (As := []) (rest := []) C.fix (c_X7_size l D cy S s.heap.size b b1 nb hL_b hf_b) (cwV 0 C.2.2.2.2.1 gX0_decode_X7_size rfl rfl rfl hdV_yX7_size_RX7 ⟨Nat.le_of_ble_eq_true rfl, Nat.le_of_ble_eq_true rfl⟩) (p_preV C hw hL_b hf_b rfl) rfl rfl hl.1 rfl (lv_room (Nat.le_of_ble_eq_true rfl)) dX0_decode_1 ⟨Nat.le_of_ble_eq_true rfl, Nat.le_of_ble_eq_true rfl⟩) hw hA (fun r2 S1 H locs hpost hw => ?_)
  obtain ⟨hr_, hS_⟩ := hpost
  subst hr_
  subst hS_
  refine lv_aload_n hx hb dX0_decode_4 rfl (lv_at hl 0 rfl) ?_
  refine p_get C hw (ci := 0) (Cn := RX0) (T := TX0) (N := 3) hL_h hf_h rfl hin_RX0 0 (by decide) (List.mem_of_getElem? (i := 1) rfl) rfl rfl dX0_decode_5 ?_
  refine p_calli (va_runSN (As := [.int (nI nb), .int (nI t)]) (rest := []) C.fix (c_X11_blocksOf l D cy S H.size nb t (by omega) (by omega)) ⟨va_cnB 2 C.2.2.2.2.1 gX0_decode_X11_blocksOf_n32 rfl rfl rfl (show va_Nw (.methodLinkNest RX0 32 yX11_blocksOf "SoundingLine") s from C.2.2.2.2.2.2.1 3 (RX0, 32, yX11_blocksOf) rfl) (C.2.2.2.2.1 (.initialized RX11) (List.mem_of_getElem? (i := 10) rfl)) hdS_yX11_blocksOf ⟨Nat.le_of_ble_eq_true rfl, Nat.le_of_ble_eq_true rfl⟩, C.2.2.2.2.1 (.static yX11_blocksOf) (List.mem_of_getElem? (i := 9) rfl), trivial⟩ (p_preS C hw) rfl rfl hl.1 rfl (lv_room (Nat.le_of_ble_eq_true rfl)) dX0_decode_8 ⟨Nat.le_of_ble_eq_true rfl, Nat.le_of_ble_eq_true rfl⟩) hw hA (fun r4 S3 H locs hpost hw => ?_)
  obtain ⟨hr_, hS_⟩ := hpost
  subst hr_
  subst hS_
  have hbk : blk nb t ≤ 404 := Nat.le_trans (Nat.le_mul_of_pos_right _ ht0) (Nat.le_trans (blk_mul_le ht0) (by omega))
  refine lv_istore_n (lv' := [(3, .int (nI (blk nb t))), (0, .ref h), (1, .ref a), (2, .ref b)]) hx hb dX0_decode_11 rfl hl (by decide) rfl (fun ls hl => ?_)
  refine lv_iconst (v := nI 0) hx hb dX0_decode_12 (by decide) ?_
  refine lv_istore (lv' := [(4, .int (nI 0)), (3, .int (nI (blk nb t))), (0, .ref h), (1, .ref a), (2, .ref b)]) hx hb dX0_decode_13 hl (by decide) rfl (fun ls hl => ?_)
  have loop15 : ∀ (kf : Nat) (k2 : Nat), (blk nb t) - k2 < kf → ∀ (SA : pS), ∀ (H : Heap) (locs : List Loc) (ls : Array Slot), (h ∈ SA.1) → (SA.2 h = .inr (0, [.int (nI t), .int (nI mm), .ref wd])) → (wd ∈ SA.1) → (SA.2 wd = aN (cy 0) 16 tab) → (a ∈ SA.1) → (SA.2 a = .inr (7, [.ref a1, .int (nI na)])) → (a1 ∈ SA.1) → (SA.2 a1 = aN (cy 0) Na ga) → (b ∈ SA.1) → (SA.2 b = .inr (7, [.ref b1, .int (nI nb)])) → (b1 ∈ SA.1) → (SA.2 b1 = aN (cy 0) Nb (rnea gb nb tab ga na t mm k2)) → (k2 ≤ blk nb t) → (SA = pup S b1 (aN (cy 0) Nb (rnea gb nb tab ga na t mm k2))) → pW D (pA S s.heap.size) s.heap SA H locs → lv_has ls 7 [(4, .int (nI k2)), (3, .int (nI (blk nb t))), (0, .ref h), (1, .ref a), (2, .ref b)] → W p l e (headSpec wsX0_decode ({ frames := 3, cells := 0, slots := 0, locals := 67 } : Room)).room s m ([.ref h, .ref a, .ref b]).toArray below meth c H locs 0 0 (MQ below (pQv D cy S s.heap.size (fun S' => S' = pup S b1 (aN (cy 0) Nb (rnea gb nb tab ga na t mm (blk nb t))))) ([.ref h, .ref a, .ref b]).toArray s 0 0 (pA S s.heap.size)) (F0 m 15 ls []) := by
    intro kf
    induction kf with
    | zero => intro k2 hm; exact absurd hm (Nat.not_lt_zero _)
    | succ kf ih15 =>
      intro k2 hm SA H locs ls hL5 hf6 hL7 hf8 hL9 hf10 hL11 hf12 hL13 hf14 hL15 hf16 hk hSA hw hl
      refine lv_iload hx hb dX0_decode_15 (lv_at hl 0 rfl) ?_
      refine lv_iload_n hx hb dX0_decode_17 rfl (lv_at hl 1 rfl) ?_
      refine n_icmp_ge (tgt := 84) hx hb (by omega) (by omega) dX0_decode_18 (by decide) (fun h_18 => ?_) (fun h_18 => ?_)
      · skip
        exact p_vret C hw (by rw [hSA, show blk nb t = k2 from by omega]) hr hlocks dX0_decode_84
      · skip
        have hk1 := lt_blk h_18
        have hk2 : k2 * mm ≤ 404 * 10 := Nat.mul_le_mul (by omega) (by omega)
        refine lv_aload_n hx hb dX0_decode_21 rfl (lv_at hl 3 rfl) ?_
        refine lv_iload hx hb dX0_decode_22 (lv_at hl 0 rfl) ?_
        refine lv_aload_n hx hb dX0_decode_24 rfl (lv_at hl 2 rfl) ?_
        refine p_get C hw (ci := 0) (Cn := RX0) (T := TX0) (N := 3) hL5 hf6 rfl hin_RX0 1 (by decide) (List.mem_of_getElem? (i := 2) rfl) rfl rfl dX0_decode_25 ?_
        refine n_imul hx hb dX0_decode_28 ?_
        refine lv_aload_n hx hb dX0_decode_29 rfl (lv_at hl 2 rfl) ?_
        refine p_get C hw (ci := 0) (Cn := RX0) (T := TX0) (N := 3) hL5 hf6 rfl hin_RX0 1 (by decide) (List.mem_of_getElem? (i := 2) rfl) rfl rfl dX0_decode_30 ?_
        refine p_calli (va_runV (As := [.int (nI (k2 * mm)), .int (nI mm)]) (rest := []) C.fix (c_X7_numberAt l D cy SA H.size a a1 Na na (k2 * mm) mm ga hL9 hf10 hL11 hf12 hNa hna (by omega) (by omega) hga) (cwV 2 C.2.2.2.2.1 gX0_decode_X7_numberAt rfl rfl rfl hdV_yX7_numberAt_RX7 ⟨Nat.le_of_ble_eq_true rfl, Nat.le_of_ble_eq_true rfl⟩) (p_preV C hw hL9 hf10 rfl) rfl rfl hl.1 rfl (lv_room (Nat.le_of_ble_eq_true rfl)) dX0_decode_33 ⟨Nat.le_of_ble_eq_true rfl, Nat.le_of_ble_eq_true rfl⟩) hw hA (fun r18 S17 H locs hpost hw => ?_)
        obtain ⟨hr_, hS_⟩ := hpost
        subst hr_
        subst hS_
        have hnb1 := numAt_b (g := ga) (n := na) (j := k2 * mm) (k := mm) (by omega)
        refine lv_istore (lv' := [(5, .int (nI (numAt ga na (k2 * mm) mm))), (4, .int (nI k2)), (3, .int (nI (blk nb t))), (0, .ref h), (1, .ref a), (2, .ref b)]) hx hb dX0_decode_36 hl (by decide) rfl (fun ls hl => ?_)
        refine lv_aload_n hx hb dX0_decode_38 rfl (lv_at hl 4 rfl) ?_
        refine lv_iload hx hb dX0_decode_39 (lv_at hl 1 rfl) ?_
        refine lv_aload_n hx hb dX0_decode_41 rfl (lv_at hl 3 rfl) ?_
        refine p_get C hw (ci := 0) (Cn := RX0) (T := TX0) (N := 3) hL5 hf6 rfl hin_RX0 1 (by decide) (List.mem_of_getElem? (i := 2) rfl) rfl rfl dX0_decode_42 ?_
        refine n_imul hx hb dX0_decode_45 ?_
        refine lv_aload_n hx hb dX0_decode_46 rfl (lv_at hl 3 rfl) ?_
        refine p_get C hw (ci := 0) (Cn := RX0) (T := TX0) (N := 3) hL5 hf6 rfl hin_RX0 1 (by decide) (List.mem_of_getElem? (i := 2) rfl) rfl rfl dX0_decode_47 ?_
        refine p_calli (va_runV (As := [.int (nI (k2 * mm)), .int (nI mm)]) (rest := []) C.fix (c_X7_knownAt l D cy SA H.size a a1 Na na (k2 * mm) mm ga hL9 hf10 hL11 hf12 hNa hna (by omega) (by omega) hga) (cwV 2 C.2.2.2.2.1 gX0_decode_X7_knownAt rfl rfl rfl hdV_yX7_knownAt_RX7 ⟨Nat.le_of_ble_eq_true rfl, Nat.le_of_ble_eq_true rfl⟩) (p_preV C hw hL9 hf10 rfl) rfl rfl hl.1 rfl (lv_room (Nat.le_of_ble_eq_true rfl)) dX0_decode_50 ⟨Nat.le_of_ble_eq_true rfl, Nat.le_of_ble_eq_true rfl⟩) hw hA (fun r20 S19 H locs hpost hw => ?_)
        obtain ⟨hr_, hS_⟩ := hpost
        subst hr_
        subst hS_
        have hnb2 := knoAt_b (g := ga) (n := na) (j := k2 * mm) (k := mm) (by omega)
        refine lv_istore (lv' := [(6, .int (nI (knoAt ga na (k2 * mm) mm))), (5, .int (nI (numAt ga na (k2 * mm) mm))), (4, .int (nI k2)), (3, .int (nI (blk nb t))), (0, .ref h), (1, .ref a), (2, .ref b)]) hx hb dX0_decode_53 hl (by decide) rfl (fun ls hl => ?_)
        refine lv_aload_n hx hb dX0_decode_55 rfl (lv_at hl 6 rfl) ?_
        refine lv_iload hx hb dX0_decode_56 (lv_at hl 2 rfl) ?_
        refine lv_aload_n hx hb dX0_decode_58 rfl (lv_at hl 4 rfl) ?_
        refine p_get C hw (ci := 0) (Cn := RX0) (T := TX0) (N := 3) hL5 hf6 rfl hin_RX0 0 (by decide) (List.mem_of_getElem? (i := 1) rfl) rfl rfl dX0_decode_59 ?_
        refine n_imul hx hb dX0_decode_62 ?_
        refine lv_aload_n hx hb dX0_decode_63 rfl (lv_at hl 4 rfl) ?_
        refine lv_iload hx hb dX0_decode_64 (lv_at hl 1 rfl) ?_
        refine lv_iload hx hb dX0_decode_66 (lv_at hl 0 rfl) ?_
        refine p_calli (va_runV (As := [.int (nI (numAt ga na (k2 * mm) mm)), .int (nI (knoAt ga na (k2 * mm) mm))]) (rest := [.int (nI (k2 * t)), .ref b]) C.fix (c_X0_nearest l D cy SA H.size h t mm wd (numAt ga na (k2 * mm) mm) (knoAt ga na (k2 * mm) mm) tab hL5 hf6 hL7 hf8 ht (by omega) (by omega) htab) (cwV 2 C.2.2.2.2.1 gX0_decode_X0_nearest rfl rfl rfl hdV_yX0_nearest_RX0 ⟨Nat.le_of_ble_eq_true rfl, Nat.le_of_ble_eq_true rfl⟩) (p_preV C hw hL5 hf6 rfl) rfl rfl hl.1 rfl (lv_room (Nat.le_of_ble_eq_true rfl)) dX0_decode_68 ⟨Nat.le_of_ble_eq_true rfl, Nat.le_of_ble_eq_true rfl⟩) hw hA (fun r22 S21 H locs hpost hw => ?_)
        obtain ⟨hr_, hS_⟩ := hpost
        subst hr_
        subst hS_
        have hn16 := nearB_lt (tab := tab) (ga := ga) (na := na) (m := mm) (k := k2) ht
        refine lv_aload_n hx hb dX0_decode_71 rfl (lv_at hl 4 rfl) ?_
        refine p_get C hw (ci := 0) (Cn := RX0) (T := TX0) (N := 3) hL5 hf6 rfl hin_RX0 0 (by decide) (List.mem_of_getElem? (i := 1) rfl) rfl rfl dX0_decode_72 ?_
        refine p_callv (va_runV (As := [.int (nI (k2 * t)), .int (nI (nearB tab ga na t mm k2)), .int (nI t)]) (rest := []) C.fix (c_X7_putNumber l D cy SA H.size b b1 Nb nb (k2 * t) (nearB tab ga na t mm k2) t (rnea gb nb tab ga na t mm k2) hL13 hf14 hL15 hf16 hNb hnb (by omega) (by omega) (by omega)) (cwV 3 C.2.2.2.2.1 gX0_decode_X7_putNumber rfl rfl rfl hdV_yX7_putNumber_RX7 ⟨Nat.le_of_ble_eq_true rfl, Nat.le_of_ble_eq_true rfl⟩) (p_preV C hw hL13 hf14 rfl) rfl rfl hl.1 rfl (lv_room (Nat.le_of_ble_eq_true rfl)) dX0_decode_75 ⟨Nat.le_of_ble_eq_true rfl, Nat.le_of_ble_eq_true rfl⟩) hw hA (fun S23 H locs hpost hw => ?_)
        have hL25 : h ∈ S23.1 := by rw [hpost]; exact hL5
        have hf26 : S23.2 h = .inr (0, [.int (nI t), .int (nI mm), .ref wd]) := by rw [hpost]; exact (pup_n (ne_cells hf6 hf16 (by nofun))).trans hf6
        have hL27 : wd ∈ S23.1 := by rw [hpost]; exact hL7
        have hf28 : S23.2 wd = aN (cy 0) 16 tab := by rw [hpost]; exact (pup_n (by first | assumption | exact Ne.symm (by assumption))).trans hf8
        have hL29 : a ∈ S23.1 := by rw [hpost]; exact hL9
        have hf30 : S23.2 a = .inr (7, [.ref a1, .int (nI na)]) := by rw [hpost]; exact (pup_n (ne_cells hf10 hf16 (by nofun))).trans hf10
        have hL31 : a1 ∈ S23.1 := by rw [hpost]; exact hL11
        have hf32 : S23.2 a1 = aN (cy 0) Na ga := by rw [hpost]; exact (pup_n (by first | assumption | exact Ne.symm (by assumption))).trans hf12
        have hL33 : b ∈ S23.1 := by rw [hpost]; exact hL13
        have hf34 : S23.2 b = .inr (7, [.ref b1, .int (nI nb)]) := by rw [hpost]; exact (pup_n (ne_cells hf14 hf16 (by nofun))).trans hf14
        have hL35 : b1 ∈ S23.1 := by rw [hpost]; exact hL15
        have hf36 : S23.2 b1 = aN (cy 0) Nb (rnum (rnea gb nb tab ga na t mm k2) nb (k2 * t) (nearB tab ga na t mm k2) t t) := by rw [hpost]; exact pup_s
        refine lv_iinc (v := (nI (k2 + 1))) (lv' := [(4, .int (nI (k2 + 1))), (6, .int (nI (knoAt ga na (k2 * mm) mm))), (5, .int (nI (numAt ga na (k2 * mm) mm))), (3, .int (nI (blk nb t))), (0, .ref h), (1, .ref a), (2, .ref b)]) hx hb dX0_decode_78 hl (k := 2) rfl (by rw [show Int32.ofInt 1 = nI 1 from by decide, nI_add]) (by decide) rfl (fun ls hl => ?_)
        refine lv_goto (tgt := 15) hx hb dX0_decode_81 (by decide) ?_
        exact ih15 (k2 + 1) (by omega) S23 H locs ls hL25 hf26 hL27 hf28 hL29 hf30 hL31 hf32 hL33 hf34 hL35 (by rw [hpost, rnea_s]; exact pup_s) (by omega) (by rw [hpost, hSA, pup_pup, rnea_s]) hw (lv_sub hl [0, 3, 4, 5, 6] rfl)
  exact loop15 ((blk nb t) - 0 + 1) 0 (by omega) S H locs ls hL_h hf_h hL_wd hf_wd hL_a hf_a hL_a1 hf_a1 hL_b hf_b hL_b1 (by rw [rnea_0]; exact hf_b1) (Nat.zero_le _) (by rw [rnea_0]; exact (pup_self hf_b1).symm) hw (lv_sub hl [0, 1, 2, 3, 4] rfl)
