-- X0_readNext
theorem in_X0_readNext_X0 : ∀ w ∈ u_ws RX0 TX0 9, w ∈ wsX0_readNext := by decide +kernel
theorem fl_X0_readNext_12 : Cond.fieldLink RX0 12 "NextDoor$RoadReader" "draft" "LNextDoor$Street;" ∈ wsX0_readNext := by decide +kernel
theorem in_X0_readNext_X2 : ∀ w ∈ u_ws RX2 TX2 16, w ∈ wsX0_readNext := by decide +kernel
theorem fl_X0_readNext_61 : Cond.fieldLink RX0 61 "NextDoor$Street" "shops" "I" ∈ wsX0_readNext := by decide +kernel
theorem fl_X0_readNext_99 : Cond.fieldLink RX0 99 "NextDoor$RoadReader" "start" "I" ∈ wsX0_readNext := by decide +kernel
theorem fl_X0_readNext_18 : Cond.fieldLink RX0 18 "NextDoor$RoadReader" "fault" "I" ∈ wsX0_readNext := by decide +kernel
abbrev rmX0_readNext : Room := { frames := 3, cells := 0, slots := 0, locals := 63 }
set_option maxHeartbeats 4000000 in
set_option maxRecDepth 100000 in
theorem k_X0_readNext_69 {p : Program} {l : Launch} {e : Env} {s : State} {m : MethodId} {args : Array Value} {below : List Frame} {meth : Method} {c : Code} {D : va_G} {t : Nat → ClassId} {a : Nat → Nat} {X : State → Prop} {N : Nat} {S' : ST} (hX : XOk (aW 56 a) X) {kd vd : Nat → Nat} (hN : ∀ U : State, X U → xR kd vd a U) (E : EN p s m args meth c cX0_readNext RX0 wsX0_readNext none 4) {S : ST} {x1 : Int32} {x3 : Int32} {H : Heap} {locs : List Loc} {ls : Array Slot} (w : Wd D (cC t a) (aW 56 a) (tyC t) X S s H locs) (hl : lv_has ls 4 [(0, .ref (a 49)), (1, .int x1), (3, .int x3)]) (hf : b_X0_readNext_69 N S x1 x3 = some S') : W p l e rmX0_readNext s m args below meth c H locs 0 0 (MQ below (Qv D (cC t a) (aW 56 a) (tyC t) S') args s 0 0 (aW 56 a)) (F0 m 69 ls []) := by
  obtain ⟨⟨hx, hb, hml, hown, hts⟩, hr, hlk⟩ := id E
  unfold b_X0_readNext_69 at hf
  refine lv_aload_n hx hb dX0_readNext_69 rfl (lv_at hl 0 rfl) ?_
  obtain ⟨r18, S17, h16, hf⟩ := bd2_o hf
  refine w_callVi (As := []) (rest := []) hX E w (c_X0_takeStop l hX h16) (cwV 0 hts gX0_readNext_X0_takeStop rfl rfl rfl hd_X0_takeStop ⟨Nat.le_of_ble_eq_true rfl, Nat.le_of_ble_eq_true rfl⟩) (ci := 0) rfl (cC_at_49 t a S) rfl hl.1 rfl (Nat.le_of_ble_eq_true rfl) dX0_readNext_70 ⟨Nat.le_refl _, Nat.le_refl _⟩ (fun H locs w => ?_)
  refine lv_if_eq (tgt := 86) hx hb dX0_readNext_73 (by decide) (fun h19 => ?_) (fun h19 => ?_)
  · replace hf := it_t h19 hf
    exact w_retv E w hf dX0_readNext_86
  · replace hf := it_f h19 hf
    refine lv_aload_n hx hb dX0_readNext_76 rfl (lv_at hl 0 rfl) ?_
    refine w_get E w in_X0_readNext_X0 49 (cC_at_49 t a S17) rfl 0 (by decide) fl_X0_readNext_12 rfl rfl dX0_readNext_77 ?_
    refine lv_iload_n hx hb dX0_readNext_80 rfl (lv_at hl 1 rfl) ?_
    refine lv_iload_n hx hb dX0_readNext_81 rfl (lv_at hl 2 rfl) ?_
    refine lv_iconst (v := 1) hx hb dX0_readNext_82 (by decide) ?_
    obtain ⟨S21, h20, hf⟩ := bd1_o hf
    refine w_callVv (As := [.int x1, .int x3, .int 1]) (rest := []) hX E w (c_X2_setNear_10 l hX h20) (cwV 3 hts gX0_readNext_X2_setNear rfl rfl rfl hd_X2_setNear ⟨Nat.le_of_ble_eq_true rfl, Nat.le_of_ble_eq_true rfl⟩) (ci := 2) rfl (cC_at_10 t a S17) rfl hl.1 rfl (Nat.le_of_ble_eq_true rfl) dX0_readNext_83 ⟨Nat.le_refl _, Nat.le_refl _⟩ (fun H locs w => ?_)
    exact w_retv E w hf dX0_readNext_86
set_option maxHeartbeats 4000000 in
set_option maxRecDepth 100000 in
theorem k_X0_readNext_64 {p : Program} {l : Launch} {e : Env} {s : State} {m : MethodId} {args : Array Value} {below : List Frame} {meth : Method} {c : Code} {D : va_G} {t : Nat → ClassId} {a : Nat → Nat} {X : State → Prop} {N : Nat} {S' : ST} (hX : XOk (aW 56 a) X) {kd vd : Nat → Nat} (hN : ∀ U : State, X U → xR kd vd a U) (E : EN p s m args meth c cX0_readNext RX0 wsX0_readNext none 4) {S : ST} {x1 : Int32} {x2 : Int32} {x3 : Int32} {H : Heap} {locs : List Loc} {ls : Array Slot} (w : Wd D (cC t a) (aW 56 a) (tyC t) X S s H locs) (hl : lv_has ls 4 [(0, .ref (a 49)), (1, .int x1), (2, .int x2), (3, .int x3)]) (hf : b_X0_readNext_64 N S x1 x2 x3 = some S') : W p l e rmX0_readNext s m args below meth c H locs 0 0 (MQ below (Qv D (cC t a) (aW 56 a) (tyC t) S') args s 0 0 (aW 56 a)) (F0 m 64 ls []) := by
  obtain ⟨⟨hx, hb, hml, hown, hts⟩, hr, hlk⟩ := id E
  unfold b_X0_readNext_64 at hf
  refine lv_aload_n hx hb dX0_readNext_64 rfl (lv_at hl 0 rfl) ?_
  refine lv_iload_n hx hb dX0_readNext_65 rfl (lv_at hl 2 rfl) ?_
  obtain ⟨S15, eS15, hf⟩ := nm_o hf
  refine w_put (S1 := S15) E w in_X0_readNext_X0 tyX0 tyX0_ok nmX0 49 (cC_at_49 t a S) rfl 1 (by decide) fl_X0_readNext_18 rfl rfl rfl rfl rfl (Nat.le_of_ble_eq_true rfl) ((cC_set_49_1 t a S x2).trans (congrArg (cC t a) eS15.symm)) dX0_readNext_66 (fun H locs w => ?_)
  exact k_X0_readNext_69 hX hN E w (lv_sub hl [0, 1, 3] rfl) hf
set_option maxHeartbeats 4000000 in
set_option maxRecDepth 100000 in
theorem k_X0_readNext_E {p : Program} {l : Launch} {e : Env} {s : State} {m : MethodId} {args : Array Value} {below : List Frame} {meth : Method} {c : Code} {D : va_G} {t : Nat → ClassId} {a : Nat → Nat} {X : State → Prop} {N : Nat} {S' : ST} (hX : XOk (aW 56 a) X) {kd vd : Nat → Nat} (hN : ∀ U : State, X U → xR kd vd a U) (E : EN p s m args meth c cX0_readNext RX0 wsX0_readNext none 4) {S : ST} {H : Heap} {locs : List Loc} {ls : Array Slot} (w : Wd D (cC t a) (aW 56 a) (tyC t) X S s H locs) (hl : lv_has ls 4 [(0, .ref (a 49))]) (hf : f_X0_readNext N S = some S') : W p l e rmX0_readNext s m args below meth c H locs 0 0 (MQ below (Qv D (cC t a) (aW 56 a) (tyC t) S') args s 0 0 (aW 56 a)) (F0 m 0 ls []) := by
  obtain ⟨⟨hx, hb, hml, hown, hts⟩, hr, hlk⟩ := id E
  unfold f_X0_readNext at hf
  refine lv_aload_n hx hb dX0_readNext_0 rfl (lv_at hl 0 rfl) ?_
  obtain ⟨S2, h1, hf⟩ := bd1_o hf
  refine w_callVv (As := []) (rest := []) hX E w (c_X0_goToToken l hX h1) (cwV 0 hts gX0_readNext_X0_goToToken rfl rfl rfl hd_X0_goToToken ⟨Nat.le_of_ble_eq_true rfl, Nat.le_of_ble_eq_true rfl⟩) (ci := 0) rfl (cC_at_49 t a S) rfl hl.1 rfl (Nat.le_of_ble_eq_true rfl) dX0_readNext_1 ⟨Nat.le_refl _, Nat.le_refl _⟩ (fun H locs w => ?_)
  refine lv_aload_n hx hb dX0_readNext_4 rfl (lv_at hl 0 rfl) ?_
  refine lv_iconst (v := 0) hx hb dX0_readNext_5 (by decide) ?_
  refine lv_aload_n hx hb dX0_readNext_6 rfl (lv_at hl 0 rfl) ?_
  refine w_get E w in_X0_readNext_X0 49 (cC_at_49 t a S2) rfl 0 (by decide) fl_X0_readNext_12 rfl rfl dX0_readNext_7 ?_
  refine w_get E w in_X0_readNext_X2 10 (cC_at_10 t a S2) rfl 0 (by decide) fl_X0_readNext_61 rfl rfl dX0_readNext_10 ?_
  refine lv_iconst (v := 1) hx hb dX0_readNext_13 (by decide) ?_
  refine lv_isub hx hb dX0_readNext_14 ?_
  obtain ⟨r5, S4, h3, hf⟩ := bd2_o hf
  refine w_callVi (As := [.int 0, .int ((S2 10 0) - 1)]) (rest := []) hX E w (c_X0_takeNumber l hX hN h3) (cwV 2 hts gX0_readNext_X0_takeNumber rfl rfl rfl hd_X0_takeNumber ⟨Nat.le_of_ble_eq_true rfl, Nat.le_of_ble_eq_true rfl⟩) (ci := 0) rfl (cC_at_49 t a S2) rfl hl.1 rfl (Nat.le_of_ble_eq_true rfl) dX0_readNext_15 ⟨Nat.le_refl _, Nat.le_refl _⟩ (fun H locs w => ?_)
  refine lv_istore_n (lv' := [(1, .int r5), (0, .ref (a 49))]) hx hb dX0_readNext_18 rfl hl (by decide) rfl (fun ls hl => ?_)
  refine lv_aload_n hx hb dX0_readNext_19 rfl (lv_at hl 1 rfl) ?_
  refine w_get E w in_X0_readNext_X0 49 (cC_at_49 t a S4) rfl 7 (by decide) fl_X0_readNext_99 rfl rfl dX0_readNext_20 ?_
  refine lv_istore_n (lv' := [(2, .int (S4 49 7)), (1, .int r5), (0, .ref (a 49))]) hx hb dX0_readNext_23 rfl hl (by decide) rfl (fun ls hl => ?_)
  refine lv_aload_n hx hb dX0_readNext_24 rfl (lv_at hl 2 rfl) ?_
  refine lv_iconst (v := 0) hx hb dX0_readNext_25 (by decide) ?_
  refine lv_aload_n hx hb dX0_readNext_26 rfl (lv_at hl 2 rfl) ?_
  refine w_get E w in_X0_readNext_X0 49 (cC_at_49 t a S4) rfl 0 (by decide) fl_X0_readNext_12 rfl rfl dX0_readNext_27 ?_
  refine w_get E w in_X0_readNext_X2 10 (cC_at_10 t a S4) rfl 0 (by decide) fl_X0_readNext_61 rfl rfl dX0_readNext_30 ?_
  refine lv_iconst (v := 1) hx hb dX0_readNext_33 (by decide) ?_
  refine lv_isub hx hb dX0_readNext_34 ?_
  obtain ⟨r8, S7, h6, hf⟩ := bd2_o hf
  refine w_callVi (As := [.int 0, .int ((S4 10 0) - 1)]) (rest := []) hX E w (c_X0_takeNumber l hX hN h6) (cwV 2 hts gX0_readNext_X0_takeNumber rfl rfl rfl hd_X0_takeNumber ⟨Nat.le_of_ble_eq_true rfl, Nat.le_of_ble_eq_true rfl⟩) (ci := 0) rfl (cC_at_49 t a S4) rfl hl.1 rfl (Nat.le_of_ble_eq_true rfl) dX0_readNext_35 ⟨Nat.le_refl _, Nat.le_refl _⟩ (fun H locs w => ?_)
  refine lv_istore_n (lv' := [(3, .int r8), (2, .int (S4 49 7)), (1, .int r5), (0, .ref (a 49))]) hx hb dX0_readNext_38 rfl hl (by decide) rfl (fun ls hl => ?_)
  refine lv_aload_n hx hb dX0_readNext_39 rfl (lv_at hl 3 rfl) ?_
  refine w_get E w in_X0_readNext_X0 49 (cC_at_49 t a S7) rfl 1 (by decide) fl_X0_readNext_18 rfl rfl dX0_readNext_40 ?_
  refine lv_iconst (v := (-1)) hx hb dX0_readNext_43 (by decide) ?_
  refine lv_icmp_ne (tgt := 69) hx hb dX0_readNext_44 (by decide) (fun h9 => ?_) (fun h9 => ?_)
  · replace hf := it_f h9 hf
    exact k_X0_readNext_69 hX hN E w (lv_sub hl [3, 2, 0] rfl) hf
  · replace hf := it_t h9 hf
    refine lv_iload_n hx hb dX0_readNext_47 rfl (lv_at hl 2 rfl) ?_
    refine lv_iload_n hx hb dX0_readNext_48 rfl (lv_at hl 0 rfl) ?_
    refine lv_icmp_eq (tgt := 64) hx hb dX0_readNext_49 (by decide) (fun h10 => ?_) (fun h10 => ?_)
    · replace hf := it_t h10 hf
      exact k_X0_readNext_64 hX hN E w (lv_sub hl [3, 2, 1, 0] rfl) hf
    · replace hf := it_f h10 hf
      refine lv_aload_n hx hb dX0_readNext_52 rfl (lv_at hl 3 rfl) ?_
      refine w_get E w in_X0_readNext_X0 49 (cC_at_49 t a S7) rfl 0 (by decide) fl_X0_readNext_12 rfl rfl dX0_readNext_53 ?_
      refine lv_iload_n hx hb dX0_readNext_56 rfl (lv_at hl 2 rfl) ?_
      refine lv_iload_n hx hb dX0_readNext_57 rfl (lv_at hl 0 rfl) ?_
      obtain ⟨r13, S12, h11, hf⟩ := bd2_o hf
      refine w_callVi (As := [.int r5, .int r8]) (rest := []) hX E w (c_X2_areNear_10 l hX h11) (cwV 2 hts gX0_readNext_X2_areNear rfl rfl rfl hd_X2_areNear ⟨Nat.le_of_ble_eq_true rfl, Nat.le_of_ble_eq_true rfl⟩) (ci := 2) rfl (cC_at_10 t a S7) rfl hl.1 rfl (Nat.le_of_ble_eq_true rfl) dX0_readNext_58 ⟨Nat.le_refl _, Nat.le_refl _⟩ (fun H locs w => ?_)
      refine lv_if_eq (tgt := 69) hx hb dX0_readNext_61 (by decide) (fun h14 => ?_) (fun h14 => ?_)
      · replace hf := it_t h14 hf
        exact k_X0_readNext_69 hX hN E w (lv_sub hl [3, 2, 0] rfl) hf
      · replace hf := it_f h14 hf
        exact k_X0_readNext_64 hX hN E w (lv_sub hl [3, 2, 1, 0] rfl) hf
theorem c_X0_readNext (l : Launch) {D : va_G} {t : Nat → ClassId} {a : Nat → Nat} {X : State → Prop} (hX : XOk (aW 56 a) X) {kd vd : Nat → Nat} (hN : ∀ U : State, X U → xR kd vd a U) {N : Nat} {S : ST} {S' : ST} (hf : f_X0_readNext N S = some S') : Co l yX0_readNext wsX0_readNext rmX0_readNext D (cC t a) (aW 56 a) (tyC t) X [.ref (a 49)] S (Qv D (cC t a) (aW 56 a) (tyC t) S') :=
  co_of (cc := cX0_readNext) (maxL := 4) (ret := none) (lv := [(0, .ref (a 49))]) (by decide) rfl rfl (Nat.le_of_ble_eq_true rfl) rfl rfl (fun p e s m below meth c ls E hl w => k_X0_readNext_E hX hN E w hl hf)
-- X0_readItem
theorem hd_X0_isWord : yX0_isWord.cls = RX0 ∧ yX0_isWord.cls ≠ "java/lang/invoke/MethodHandle" ∧ yX0_isWord.cls ≠ "java/lang/invoke/VarHandle" ∧ (parseMethodDescriptor yX0_isWord.desc).map (fun d => d.parameters.length) = some 1 := by decide +kernel
theorem in_X0_readItem_X0 : ∀ w ∈ u_ws RX0 TX0 9, w ∈ wsX0_readItem := by decide +kernel
theorem fl_X0_readItem_12 : Cond.fieldLink RX0 12 "NextDoor$RoadReader" "draft" "LNextDoor$Street;" ∈ wsX0_readItem := by decide +kernel
theorem in_X0_readItem_X2 : ∀ w ∈ u_ws RX2 TX2 16, w ∈ wsX0_readItem := by decide +kernel
theorem fl_X0_readItem_61 : Cond.fieldLink RX0 61 "NextDoor$Street" "shops" "I" ∈ wsX0_readItem := by decide +kernel
theorem hd_X0_readShop : yX0_readShop.cls = RX0 ∧ yX0_readShop.cls ≠ "java/lang/invoke/MethodHandle" ∧ yX0_readShop.cls ≠ "java/lang/invoke/VarHandle" ∧ (parseMethodDescriptor yX0_readShop.desc).map (fun d => d.parameters.length) = some 0 := by decide +kernel
theorem fl_X0_readItem_79 : Cond.fieldLink RX0 79 "NextDoor$Street" "bought" "I" ∈ wsX0_readItem := by decide +kernel
theorem hd_X0_readBuy : yX0_readBuy.cls = RX0 ∧ yX0_readBuy.cls ≠ "java/lang/invoke/MethodHandle" ∧ yX0_readBuy.cls ≠ "java/lang/invoke/VarHandle" ∧ (parseMethodDescriptor yX0_readBuy.desc).map (fun d => d.parameters.length) = some 0 := by decide +kernel
theorem hd_X0_readFree : yX0_readFree.cls = RX0 ∧ yX0_readFree.cls ≠ "java/lang/invoke/MethodHandle" ∧ yX0_readFree.cls ≠ "java/lang/invoke/VarHandle" ∧ (parseMethodDescriptor yX0_readFree.desc).map (fun d => d.parameters.length) = some 0 := by decide +kernel
theorem hd_X0_readNext : yX0_readNext.cls = RX0 ∧ yX0_readNext.cls ≠ "java/lang/invoke/MethodHandle" ∧ yX0_readNext.cls ≠ "java/lang/invoke/VarHandle" ∧ (parseMethodDescriptor yX0_readNext.desc).map (fun d => d.parameters.length) = some 0 := by decide +kernel
abbrev rmX0_readItem : Room := { frames := 5, cells := 0, slots := 0, locals := 152 }
set_option maxHeartbeats 4000000 in
set_option maxRecDepth 100000 in
theorem k_X0_readItem_88 {p : Program} {l : Launch} {e : Env} {s : State} {m : MethodId} {args : Array Value} {below : List Frame} {meth : Method} {c : Code} {D : va_G} {t : Nat → ClassId} {a : Nat → Nat} {X : State → Prop} {N : Nat} {S' : ST} (hX : XOk (aW 56 a) X) {kd vd : Nat → Nat} (hN : ∀ U : State, X U → xR kd vd a U) (E : EN p s m args meth c cX0_readItem RX0 wsX0_readItem none 1) {S : ST} {H : Heap} {locs : List Loc} {ls : Array Slot} (w : Wd D (cC t a) (aW 56 a) (tyC t) X S s H locs) (hl : lv_has ls 1 [(0, .ref (a 49))]) (hf : b_X0_readItem_88 N S = some S') : W p l e rmX0_readItem s m args below meth c H locs 0 0 (MQ below (Qv D (cC t a) (aW 56 a) (tyC t) S') args s 0 0 (aW 56 a)) (F0 m 88 ls []) := by
  obtain ⟨⟨hx, hb, hml, hown, hts⟩, hr, hlk⟩ := id E
  unfold b_X0_readItem_88 at hf
  refine lv_aload_n hx hb dX0_readItem_88 rfl (lv_at hl 0 rfl) ?_
  obtain ⟨S28, h27, hf⟩ := bd1_o hf
  refine w_callVv (As := []) (rest := []) hX E w (c_X0_fail l hX h27) (cwV 0 hts gX0_readItem_X0_fail rfl rfl rfl hd_X0_fail ⟨Nat.le_of_ble_eq_true rfl, Nat.le_of_ble_eq_true rfl⟩) (ci := 0) rfl (cC_at_49 t a S) rfl hl.1 rfl (Nat.le_of_ble_eq_true rfl) dX0_readItem_89 ⟨Nat.le_refl _, Nat.le_refl _⟩ (fun H locs w => ?_)
  exact w_retv E w hf dX0_readItem_92
set_option maxHeartbeats 4000000 in
set_option maxRecDepth 100000 in
theorem k_X0_readItem_28 {p : Program} {l : Launch} {e : Env} {s : State} {m : MethodId} {args : Array Value} {below : List Frame} {meth : Method} {c : Code} {D : va_G} {t : Nat → ClassId} {a : Nat → Nat} {X : State → Prop} {N : Nat} {S' : ST} (hX : XOk (aW 56 a) X) {kd vd : Nat → Nat} (hN : ∀ U : State, X U → xR kd vd a U) (E : EN p s m args meth c cX0_readItem RX0 wsX0_readItem none 1) {S : ST} {H : Heap} {locs : List Loc} {ls : Array Slot} (w : Wd D (cC t a) (aW 56 a) (tyC t) X S s H locs) (hl : lv_has ls 1 [(0, .ref (a 49))]) (hf : b_X0_readItem_28 N S = some S') : W p l e rmX0_readItem s m args below meth c H locs 0 0 (MQ below (Qv D (cC t a) (aW 56 a) (tyC t) S') args s 0 0 (aW 56 a)) (F0 m 28 ls []) := by
  obtain ⟨⟨hx, hb, hml, hown, hts⟩, hr, hlk⟩ := id E
  unfold b_X0_readItem_28 at hf
  refine lv_aload_n hx hb dX0_readItem_28 rfl (lv_at hl 0 rfl) ?_
  refine va_ldcS hx hb hown (hN s w.2.2.2.2).2.2.2.2.2.1 dX0_readItem_29 ?_
  obtain ⟨r10, S9, h8, hf⟩ := bd2_o hf
  refine w_callVi (As := [.ref (kd 1)]) (rest := []) hX E w (c_X0_isWord l hX hN (by decide : 1 < 4) h8) (cwV 1 hts gX0_readItem_X0_isWord rfl rfl rfl hd_X0_isWord ⟨Nat.le_of_ble_eq_true rfl, Nat.le_of_ble_eq_true rfl⟩) (ci := 0) rfl (cC_at_49 t a S) rfl hl.1 rfl (Nat.le_of_ble_eq_true rfl) dX0_readItem_31 ⟨Nat.le_refl _, Nat.le_refl _⟩ (fun H locs w => ?_)
  refine lv_if_eq (tgt := 44) hx hb dX0_readItem_34 (by decide) (fun h11 => ?_) (fun h11 => ?_)
  · replace hf := it_t h11 hf
    refine lv_aload_n hx hb dX0_readItem_44 rfl (lv_at hl 0 rfl) ?_
    refine va_ldcS hx hb hown (hN s w.2.2.2.2).2.2.2.2.2.2.1 dX0_readItem_45 ?_
    obtain ⟨r14, S13, h12, hf⟩ := bd2_o hf
    refine w_callVi (As := [.ref (kd 2)]) (rest := []) hX E w (c_X0_isWord l hX hN (by decide : 2 < 4) h12) (cwV 1 hts gX0_readItem_X0_isWord rfl rfl rfl hd_X0_isWord ⟨Nat.le_of_ble_eq_true rfl, Nat.le_of_ble_eq_true rfl⟩) (ci := 0) rfl (cC_at_49 t a S9) rfl hl.1 rfl (Nat.le_of_ble_eq_true rfl) dX0_readItem_47 ⟨Nat.le_refl _, Nat.le_refl _⟩ (fun H locs w => ?_)
    refine lv_if_eq (tgt := 60) hx hb dX0_readItem_50 (by decide) (fun h15 => ?_) (fun h15 => ?_)
    · replace hf := it_t h15 hf
      refine lv_aload_n hx hb dX0_readItem_60 rfl (lv_at hl 0 rfl) ?_
      refine va_ldcS hx hb hown (hN s w.2.2.2.2).2.2.2.2.2.2.2 dX0_readItem_61 ?_
      obtain ⟨r18, S17, h16, hf⟩ := bd2_o hf
      refine w_callVi (As := [.ref (kd 3)]) (rest := []) hX E w (c_X0_isWord l hX hN (by decide : 3 < 4) h16) (cwV 1 hts gX0_readItem_X0_isWord rfl rfl rfl hd_X0_isWord ⟨Nat.le_of_ble_eq_true rfl, Nat.le_of_ble_eq_true rfl⟩) (ci := 0) rfl (cC_at_49 t a S13) rfl hl.1 rfl (Nat.le_of_ble_eq_true rfl) dX0_readItem_63 ⟨Nat.le_refl _, Nat.le_refl _⟩ (fun H locs w => ?_)
      refine lv_if_eq (tgt := 88) hx hb dX0_readItem_66 (by decide) (fun h19 => ?_) (fun h19 => ?_)
      · replace hf := it_t h19 hf
        exact k_X0_readItem_88 hX hN E w (lv_sub hl [0] rfl) hf
      · replace hf := it_f h19 hf
        refine lv_aload_n hx hb dX0_readItem_69 rfl (lv_at hl 0 rfl) ?_
        refine w_get E w in_X0_readItem_X0 49 (cC_at_49 t a S17) rfl 0 (by decide) fl_X0_readItem_12 rfl rfl dX0_readItem_70 ?_
        refine w_get E w in_X0_readItem_X2 10 (cC_at_10 t a S17) rfl 9 (by decide) fl_X0_readItem_79 rfl rfl dX0_readItem_73 ?_
        refine lv_bipush (v := 12) hx hb dX0_readItem_76 (by decide) ?_
        refine lv_icmp_ge (tgt := 88) hx hb dX0_readItem_78 (by decide) (fun h20 => ?_) (fun h20 => ?_)
        · replace hf := it_t h20 hf
          exact k_X0_readItem_88 hX hN E w (lv_sub hl [0] rfl) hf
        · replace hf := it_f h20 hf
          refine lv_aload_n hx hb dX0_readItem_81 rfl (lv_at hl 0 rfl) ?_
          obtain ⟨S22, h21, hf⟩ := bd1_o hf
          refine w_callVv (As := []) (rest := []) hX E w (c_X0_readBuy l hX hN h21) (cwV 0 hts gX0_readItem_X0_readBuy rfl rfl rfl hd_X0_readBuy ⟨Nat.le_of_ble_eq_true rfl, Nat.le_of_ble_eq_true rfl⟩) (ci := 0) rfl (cC_at_49 t a S17) rfl hl.1 rfl (Nat.le_of_ble_eq_true rfl) dX0_readItem_82 ⟨Nat.le_refl _, Nat.le_refl _⟩ (fun H locs w => ?_)
          refine lv_goto (tgt := 92) hx hb dX0_readItem_85 (by decide) ?_
          exact w_retv E w hf dX0_readItem_92
    · replace hf := it_f h15 hf
      refine lv_aload_n hx hb dX0_readItem_53 rfl (lv_at hl 0 rfl) ?_
      obtain ⟨S24, h23, hf⟩ := bd1_o hf
      refine w_callVv (As := []) (rest := []) hX E w (c_X0_readFree l hX hN h23) (cwV 0 hts gX0_readItem_X0_readFree rfl rfl rfl hd_X0_readFree ⟨Nat.le_of_ble_eq_true rfl, Nat.le_of_ble_eq_true rfl⟩) (ci := 0) rfl (cC_at_49 t a S13) rfl hl.1 rfl (Nat.le_of_ble_eq_true rfl) dX0_readItem_54 ⟨Nat.le_refl _, Nat.le_refl _⟩ (fun H locs w => ?_)
      refine lv_goto (tgt := 92) hx hb dX0_readItem_57 (by decide) ?_
      exact w_retv E w hf dX0_readItem_92
  · replace hf := it_f h11 hf
    refine lv_aload_n hx hb dX0_readItem_37 rfl (lv_at hl 0 rfl) ?_
    obtain ⟨S26, h25, hf⟩ := bd1_o hf
    refine w_callVv (As := []) (rest := []) hX E w (c_X0_readNext l hX hN h25) (cwV 0 hts gX0_readItem_X0_readNext rfl rfl rfl hd_X0_readNext ⟨Nat.le_of_ble_eq_true rfl, Nat.le_of_ble_eq_true rfl⟩) (ci := 0) rfl (cC_at_49 t a S9) rfl hl.1 rfl (Nat.le_of_ble_eq_true rfl) dX0_readItem_38 ⟨Nat.le_refl _, Nat.le_refl _⟩ (fun H locs w => ?_)
    refine lv_goto (tgt := 92) hx hb dX0_readItem_41 (by decide) ?_
    exact w_retv E w hf dX0_readItem_92
set_option maxHeartbeats 4000000 in
set_option maxRecDepth 100000 in
theorem k_X0_readItem_E {p : Program} {l : Launch} {e : Env} {s : State} {m : MethodId} {args : Array Value} {below : List Frame} {meth : Method} {c : Code} {D : va_G} {t : Nat → ClassId} {a : Nat → Nat} {X : State → Prop} {N : Nat} {S' : ST} (hX : XOk (aW 56 a) X) {kd vd : Nat → Nat} (hN : ∀ U : State, X U → xR kd vd a U) (E : EN p s m args meth c cX0_readItem RX0 wsX0_readItem none 1) {S : ST} {H : Heap} {locs : List Loc} {ls : Array Slot} (w : Wd D (cC t a) (aW 56 a) (tyC t) X S s H locs) (hl : lv_has ls 1 [(0, .ref (a 49))]) (hf : f_X0_readItem N S = some S') : W p l e rmX0_readItem s m args below meth c H locs 0 0 (MQ below (Qv D (cC t a) (aW 56 a) (tyC t) S') args s 0 0 (aW 56 a)) (F0 m 0 ls []) := by
  obtain ⟨⟨hx, hb, hml, hown, hts⟩, hr, hlk⟩ := id E
  unfold f_X0_readItem at hf
  refine lv_aload_n hx hb dX0_readItem_0 rfl (lv_at hl 0 rfl) ?_
  refine va_ldcS hx hb hown (hN s w.2.2.2.2).2.2.2.2.1 dX0_readItem_1 ?_
  obtain ⟨r3, S2, h1, hf⟩ := bd2_o hf
  refine w_callVi (As := [.ref (kd 0)]) (rest := []) hX E w (c_X0_isWord l hX hN (by decide : 0 < 4) h1) (cwV 1 hts gX0_readItem_X0_isWord rfl rfl rfl hd_X0_isWord ⟨Nat.le_of_ble_eq_true rfl, Nat.le_of_ble_eq_true rfl⟩) (ci := 0) rfl (cC_at_49 t a S) rfl hl.1 rfl (Nat.le_of_ble_eq_true rfl) dX0_readItem_3 ⟨Nat.le_refl _, Nat.le_refl _⟩ (fun H locs w => ?_)
  refine lv_if_eq (tgt := 28) hx hb dX0_readItem_6 (by decide) (fun h4 => ?_) (fun h4 => ?_)
  · replace hf := it_t h4 hf
    exact k_X0_readItem_28 hX hN E w (lv_sub hl [0] rfl) hf
  · replace hf := it_f h4 hf
    refine lv_aload_n hx hb dX0_readItem_9 rfl (lv_at hl 0 rfl) ?_
    refine w_get E w in_X0_readItem_X0 49 (cC_at_49 t a S2) rfl 0 (by decide) fl_X0_readItem_12 rfl rfl dX0_readItem_10 ?_
    refine w_get E w in_X0_readItem_X2 10 (cC_at_10 t a S2) rfl 0 (by decide) fl_X0_readItem_61 rfl rfl dX0_readItem_13 ?_
    refine lv_bipush (v := 6) hx hb dX0_readItem_16 (by decide) ?_
    refine lv_icmp_ge (tgt := 28) hx hb dX0_readItem_18 (by decide) (fun h5 => ?_) (fun h5 => ?_)
    · replace hf := it_t h5 hf
      exact k_X0_readItem_28 hX hN E w (lv_sub hl [0] rfl) hf
    · replace hf := it_f h5 hf
      refine lv_aload_n hx hb dX0_readItem_21 rfl (lv_at hl 0 rfl) ?_
      obtain ⟨S7, h6, hf⟩ := bd1_o hf
      refine w_callVv (As := []) (rest := []) hX E w (c_X0_readShop l hX hN h6) (cwV 0 hts gX0_readItem_X0_readShop rfl rfl rfl hd_X0_readShop ⟨Nat.le_of_ble_eq_true rfl, Nat.le_of_ble_eq_true rfl⟩) (ci := 0) rfl (cC_at_49 t a S2) rfl hl.1 rfl (Nat.le_of_ble_eq_true rfl) dX0_readItem_22 ⟨Nat.le_refl _, Nat.le_refl _⟩ (fun H locs w => ?_)
      refine lv_goto (tgt := 92) hx hb dX0_readItem_25 (by decide) ?_
      exact w_retv E w hf dX0_readItem_92
theorem c_X0_readItem (l : Launch) {D : va_G} {t : Nat → ClassId} {a : Nat → Nat} {X : State → Prop} (hX : XOk (aW 56 a) X) {kd vd : Nat → Nat} (hN : ∀ U : State, X U → xR kd vd a U) {N : Nat} {S : ST} {S' : ST} (hf : f_X0_readItem N S = some S') : Co l yX0_readItem wsX0_readItem rmX0_readItem D (cC t a) (aW 56 a) (tyC t) X [.ref (a 49)] S (Qv D (cC t a) (aW 56 a) (tyC t) S') :=
  co_of (cc := cX0_readItem) (maxL := 1) (ret := none) (lv := [(0, .ref (a 49))]) (by decide) rfl rfl (Nat.le_of_ble_eq_true rfl) rfl rfl (fun p e s m below meth c ls E hl w => k_X0_readItem_E hX hN E w hl hf)
-- X0_readRoad
theorem in_X0_readRoad_X0 : ∀ w ∈ u_ws RX0 TX0 9, w ∈ wsX0_readRoad := by decide +kernel
theorem fl_X0_readRoad_22 : Cond.fieldLink RX0 22 "NextDoor$RoadReader" "road" "LNextDoor$Street;" ∈ wsX0_readRoad := by decide +kernel
theorem in_X0_readRoad_X2 : ∀ w ∈ u_ws RX2 TX2 16, w ∈ wsX0_readRoad := by decide +kernel
theorem fl_X0_readRoad_30 : Cond.fieldLink RX0 30 "NextDoor$Street" "length" "I" ∈ wsX0_readRoad := by decide +kernel
theorem mi1_X0_readRoad : Cond.methodLink RX0 33 Lib.Math.min.name ∈ wsX0_readRoad := by decide +kernel
theorem mi2_X0_readRoad : Cond.static Lib.Math.min.name ∈ wsX0_readRoad := by decide +kernel
theorem mi3_X0_readRoad : Cond.initialized "java/lang/Math" ∈ wsX0_readRoad := by decide +kernel
theorem mi4_X0_readRoad : Cond.code Lib.Math.min.name Lib.Math.min.code 2 (some .int) ∈ wsX0_readRoad := by decide +kernel
theorem fl_X0_readRoad_39 : Cond.fieldLink RX0 39 "NextDoor$RoadReader" "length" "I" ∈ wsX0_readRoad := by decide +kernel
theorem fl_X0_readRoad_40 : Cond.fieldLink RX0 40 "NextDoor$RoadReader" "at" "I" ∈ wsX0_readRoad := by decide +kernel
theorem fl_X0_readRoad_18 : Cond.fieldLink RX0 18 "NextDoor$RoadReader" "fault" "I" ∈ wsX0_readRoad := by decide +kernel
theorem fl_X0_readRoad_12 : Cond.fieldLink RX0 12 "NextDoor$RoadReader" "draft" "LNextDoor$Street;" ∈ wsX0_readRoad := by decide +kernel
theorem hd_X2_forgetShops : yX2_forgetShops.cls = RX2 ∧ yX2_forgetShops.cls ≠ "java/lang/invoke/MethodHandle" ∧ yX2_forgetShops.cls ≠ "java/lang/invoke/VarHandle" ∧ (parseMethodDescriptor yX2_forgetShops.desc).map (fun d => d.parameters.length) = some 0 := by decide +kernel
theorem fl_X0_readRoad_49 : Cond.fieldLink RX0 49 "NextDoor$RoadReader" "token" "I" ∈ wsX0_readRoad := by decide +kernel
theorem hd_X0_readItem : yX0_readItem.cls = RX0 ∧ yX0_readItem.cls ≠ "java/lang/invoke/MethodHandle" ∧ yX0_readItem.cls ≠ "java/lang/invoke/VarHandle" ∧ (parseMethodDescriptor yX0_readItem.desc).map (fun d => d.parameters.length) = some 0 := by decide +kernel
abbrev rmX0_readRoad : Room := { frames := 6, cells := 0, slots := 0, locals := 172 }
set_option maxHeartbeats 4000000 in
set_option maxRecDepth 100000 in
theorem k_X0_readRoad_40 {p : Program} {l : Launch} {e : Env} {s : State} {m : MethodId} {args : Array Value} {below : List Frame} {meth : Method} {c : Code} {D : va_G} {t : Nat → ClassId} {a : Nat → Nat} {X : State → Prop} {N : Nat} {r : Int32} {S' : ST} (hX : XOk (aW 56 a) X) {kd vd : Nat → Nat} (hN : ∀ U : State, X U → xR kd vd a U) (E : EN p s m args meth c cX0_readRoad RX0 wsX0_readRoad (some .int) 2) : ∀ (n : Nat) {S : ST} {x1 : Int32} {H : Heap} {locs : List Loc} {ls : Array Slot}, Wd D (cC t a) (aW 56 a) (tyC t) X S s H locs → lv_has ls 2 [(0, .ref (a 49)), (1, .int x1)] → b_X0_readRoad_40 N n S x1 = some (r, S') → W p l e rmX0_readRoad s m args below meth c H locs 0 0 (MQ below (Qi D (cC t a) (aW 56 a) (tyC t) r S') args s 0 0 (aW 56 a)) (F0 m 40 ls []) := by
  obtain ⟨⟨hx, hb, hml, hown, hts⟩, hr, hlk⟩ := id E
  intro n
  induction n with
  | zero => intro S x1 H locs ls w hl hf; cases hf
  | succ n ih =>
    intro S x1 H locs ls w hl hf
    unfold b_X0_readRoad_40 at hf
    refine lv_aload_n hx hb dX0_readRoad_40 rfl (lv_at hl 0 rfl) ?_
    refine w_get E w in_X0_readRoad_X0 49 (cC_at_49 t a S) rfl 6 (by decide) fl_X0_readRoad_49 rfl rfl dX0_readRoad_41 ?_
    refine lv_if_eq (tgt := 72) hx hb dX0_readRoad_44 (by decide) (fun h8 => ?_) (fun h8 => ?_)
    · replace hf := it_t h8 hf
      refine lv_iload_n hx hb dX0_readRoad_72 rfl (lv_at hl 1 rfl) ?_
      exact w_reti E w hf dX0_readRoad_73
    · replace hf := it_f h8 hf
      refine lv_aload_n hx hb dX0_readRoad_47 rfl (lv_at hl 0 rfl) ?_
      refine w_get E w in_X0_readRoad_X0 49 (cC_at_49 t a S) rfl 1 (by decide) fl_X0_readRoad_18 rfl rfl dX0_readRoad_48 ?_
      refine lv_iconst (v := (-1)) hx hb dX0_readRoad_51 (by decide) ?_
      refine lv_icmp_ne (tgt := 72) hx hb dX0_readRoad_52 (by decide) (fun h9 => ?_) (fun h9 => ?_)
      · replace hf := it_f h9 hf
        refine lv_iload_n hx hb dX0_readRoad_72 rfl (lv_at hl 1 rfl) ?_
        exact w_reti E w hf dX0_readRoad_73
      · replace hf := it_t h9 hf
        refine lv_iload_n hx hb dX0_readRoad_55 rfl (lv_at hl 1 rfl) ?_
        refine lv_sipush (v := 200) hx hb dX0_readRoad_56 (by decide) ?_
        refine lv_icmp_ge (tgt := 72) hx hb dX0_readRoad_59 (by decide) (fun h10 => ?_) (fun h10 => ?_)
        · replace hf := it_t h10 hf
          refine lv_iload_n hx hb dX0_readRoad_72 rfl (lv_at hl 1 rfl) ?_
          exact w_reti E w hf dX0_readRoad_73
        · replace hf := it_f h10 hf
          refine lv_aload_n hx hb dX0_readRoad_62 rfl (lv_at hl 0 rfl) ?_
          obtain ⟨S12, h11, hf⟩ := bd1_o hf
          refine w_callVv (As := []) (rest := []) hX E w (c_X0_readItem l hX hN h11) (cwV 0 hts gX0_readRoad_X0_readItem rfl rfl rfl hd_X0_readItem ⟨Nat.le_of_ble_eq_true rfl, Nat.le_of_ble_eq_true rfl⟩) (ci := 0) rfl (cC_at_49 t a S) rfl hl.1 rfl (Nat.le_of_ble_eq_true rfl) dX0_readRoad_63 ⟨Nat.le_refl _, Nat.le_refl _⟩ (fun H locs w => ?_)
          refine lv_iinc (v := x1 + 1) (lv' := [(1, .int (x1 + 1)), (0, .ref (a 49))]) hx hb dX0_readRoad_66 hl (k := 1) rfl rfl (by decide) rfl (fun ls hl => ?_)
          refine lv_goto (tgt := 40) hx hb dX0_readRoad_69 (by decide) ?_
          exact ih w (lv_sub hl [1, 0] rfl) hf
set_option maxHeartbeats 4000000 in
set_option maxRecDepth 100000 in
theorem k_X0_readRoad_E {p : Program} {l : Launch} {e : Env} {s : State} {m : MethodId} {args : Array Value} {below : List Frame} {meth : Method} {c : Code} {D : va_G} {t : Nat → ClassId} {a : Nat → Nat} {X : State → Prop} {N : Nat} {r : Int32} {S' : ST} (hX : XOk (aW 56 a) X) {kd vd : Nat → Nat} (hN : ∀ U : State, X U → xR kd vd a U) (E : EN p s m args meth c cX0_readRoad RX0 wsX0_readRoad (some .int) 2) {S : ST} {H : Heap} {locs : List Loc} {ls : Array Slot} (w : Wd D (cC t a) (aW 56 a) (tyC t) X S s H locs) (hl : lv_has ls 2 [(0, .ref (a 49))]) (hf : f_X0_readRoad N S = some (r, S')) : W p l e rmX0_readRoad s m args below meth c H locs 0 0 (MQ below (Qi D (cC t a) (aW 56 a) (tyC t) r S') args s 0 0 (aW 56 a)) (F0 m 0 ls []) := by
  obtain ⟨⟨hx, hb, hml, hown, hts⟩, hr, hlk⟩ := id E
  unfold f_X0_readRoad at hf
  refine lv_aload_n hx hb dX0_readRoad_0 rfl (lv_at hl 0 rfl) ?_
  refine lv_aload_n hx hb dX0_readRoad_1 rfl (lv_at hl 0 rfl) ?_
  refine w_get E w in_X0_readRoad_X0 49 (cC_at_49 t a S) rfl 2 (by decide) fl_X0_readRoad_22 rfl rfl dX0_readRoad_2 ?_
  refine w_get E w in_X0_readRoad_X2 0 (cC_at_0 t a S) rfl 11 (by decide) fl_X0_readRoad_30 rfl rfl dX0_readRoad_5 ?_
  refine lv_sipush (v := 200) hx hb dX0_readRoad_8 (by decide) ?_
  refine w_min E mi1_X0_readRoad mi2_X0_readRoad mi3_X0_readRoad mi4_X0_readRoad hl.1 (Nat.le_of_ble_eq_true rfl) (Nat.le_of_ble_eq_true rfl) (Nat.le_refl _) (Nat.le_refl _) dX0_readRoad_11 ?_
  obtain ⟨S1, eS1, hf⟩ := nm_o hf
  refine w_put (S1 := S1) E w in_X0_readRoad_X0 tyX0 tyX0_ok nmX0 49 (cC_at_49 t a S) rfl 4 (by decide) fl_X0_readRoad_39 rfl rfl rfl rfl rfl (Nat.le_of_ble_eq_true rfl) ((cC_set_49_4 t a S (if 200 < (S 0 11) then 200 else (S 0 11))).trans (congrArg (cC t a) eS1.symm)) dX0_readRoad_14 (fun H locs w => ?_)
  refine lv_aload_n hx hb dX0_readRoad_17 rfl (lv_at hl 0 rfl) ?_
  refine lv_iconst (v := 0) hx hb dX0_readRoad_18 (by decide) ?_
  obtain ⟨S2, eS2, hf⟩ := nm_o hf
  refine w_put (S1 := S2) E w in_X0_readRoad_X0 tyX0 tyX0_ok nmX0 49 (cC_at_49 t a S1) rfl 5 (by decide) fl_X0_readRoad_40 rfl rfl rfl rfl rfl (Nat.le_of_ble_eq_true rfl) ((cC_set_49_5 t a S1 0).trans (congrArg (cC t a) eS2.symm)) dX0_readRoad_19 (fun H locs w => ?_)
  refine lv_aload_n hx hb dX0_readRoad_22 rfl (lv_at hl 0 rfl) ?_
  refine lv_iconst (v := (-1)) hx hb dX0_readRoad_23 (by decide) ?_
  obtain ⟨S3, eS3, hf⟩ := nm_o hf
  refine w_put (S1 := S3) E w in_X0_readRoad_X0 tyX0 tyX0_ok nmX0 49 (cC_at_49 t a S2) rfl 1 (by decide) fl_X0_readRoad_18 rfl rfl rfl rfl rfl (Nat.le_of_ble_eq_true rfl) ((cC_set_49_1 t a S2 (-1)).trans (congrArg (cC t a) eS3.symm)) dX0_readRoad_24 (fun H locs w => ?_)
  refine lv_aload_n hx hb dX0_readRoad_27 rfl (lv_at hl 0 rfl) ?_
  refine w_get E w in_X0_readRoad_X0 49 (cC_at_49 t a S3) rfl 0 (by decide) fl_X0_readRoad_12 rfl rfl dX0_readRoad_28 ?_
  obtain ⟨S5, h4, hf⟩ := bd1_o hf
  refine w_callVv (As := []) (rest := []) hX E w (c_X2_forgetShops_10 l hX h4) (cwV 0 hts gX0_readRoad_X2_forgetShops rfl rfl rfl hd_X2_forgetShops ⟨Nat.le_of_ble_eq_true rfl, Nat.le_of_ble_eq_true rfl⟩) (ci := 2) rfl (cC_at_10 t a S3) rfl hl.1 rfl (Nat.le_of_ble_eq_true rfl) dX0_readRoad_31 ⟨Nat.le_refl _, Nat.le_refl _⟩ (fun H locs w => ?_)
  refine lv_aload_n hx hb dX0_readRoad_34 rfl (lv_at hl 0 rfl) ?_
  obtain ⟨S7, h6, hf⟩ := bd1_o hf
  refine w_callVv (As := []) (rest := []) hX E w (c_X0_goToToken l hX h6) (cwV 0 hts gX0_readRoad_X0_goToToken rfl rfl rfl hd_X0_goToToken ⟨Nat.le_of_ble_eq_true rfl, Nat.le_of_ble_eq_true rfl⟩) (ci := 0) rfl (cC_at_49 t a S5) rfl hl.1 rfl (Nat.le_of_ble_eq_true rfl) dX0_readRoad_35 ⟨Nat.le_refl _, Nat.le_refl _⟩ (fun H locs w => ?_)
  refine lv_iconst (v := 0) hx hb dX0_readRoad_38 (by decide) ?_
  refine lv_istore_n (lv' := [(1, .int 0), (0, .ref (a 49))]) hx hb dX0_readRoad_39 rfl hl (by decide) rfl (fun ls hl => ?_)
  exact k_X0_readRoad_40 hX hN E N w (lv_sub hl [1, 0] rfl) hf
theorem c_X0_readRoad (l : Launch) {D : va_G} {t : Nat → ClassId} {a : Nat → Nat} {X : State → Prop} (hX : XOk (aW 56 a) X) {kd vd : Nat → Nat} (hN : ∀ U : State, X U → xR kd vd a U) {N : Nat} {S : ST} {r : Int32} {S' : ST} (hf : f_X0_readRoad N S = some (r, S')) : Co l yX0_readRoad wsX0_readRoad rmX0_readRoad D (cC t a) (aW 56 a) (tyC t) X [.ref (a 49)] S (Qi D (cC t a) (aW 56 a) (tyC t) r S') :=
  co_of (cc := cX0_readRoad) (maxL := 2) (ret := (some .int)) (lv := [(0, .ref (a 49))]) (by decide) rfl rfl (Nat.le_of_ble_eq_true rfl) rfl rfl (fun p e s m below meth c ls E hl w => k_X0_readRoad_E hX hN E w hl hf)
-- X2_takeShopsOf_0_10
theorem cp_11_1_6 (t : Nat → ClassId) (a : Nat → Nat) (S : ST) : (cC t a S).set 1 (a 1, .inl (t 0, 6, .inl (va_cpy (S 11) (S 1) 0 0 6))) = cC t a (cpS S 11 1 0 0 6) := rfl
theorem cp_12_2_6 (t : Nat → ClassId) (a : Nat → Nat) (S : ST) : (cC t a S).set 2 (a 2, .inl (t 0, 6, .inl (va_cpy (S 12) (S 2) 0 0 6))) = cC t a (cpS S 12 2 0 0 6) := rfl
theorem cp_13_3_6 (t : Nat → ClassId) (a : Nat → Nat) (S : ST) : (cC t a S).set 3 (a 3, .inl (t 0, 6, .inl (va_cpy (S 13) (S 3) 0 0 6))) = cC t a (cpS S 13 3 0 0 6) := rfl
theorem cp_14_4_6 (t : Nat → ClassId) (a : Nat → Nat) (S : ST) : (cC t a S).set 4 (a 4, .inl (t 0, 6, .inl (va_cpy (S 14) (S 4) 0 0 6))) = cC t a (cpS S 14 4 0 0 6) := rfl
theorem cp_15_5_6 (t : Nat → ClassId) (a : Nat → Nat) (S : ST) : (cC t a S).set 5 (a 5, .inl (t 0, 6, .inl (va_cpy (S 15) (S 5) 0 0 6))) = cC t a (cpS S 15 5 0 0 6) := rfl
theorem cp_16_6_12 (t : Nat → ClassId) (a : Nat → Nat) (S : ST) : (cC t a S).set 6 (a 6, .inl (t 0, 12, .inl (va_cpy (S 16) (S 6) 0 0 12))) = cC t a (cpS S 16 6 0 0 12) := rfl
abbrev rmX2_takeShopsOf_0_10 : Room := { frames := 1, cells := 0, slots := 0, locals := 80 }
set_option maxHeartbeats 4000000 in
set_option maxRecDepth 100000 in
theorem k_X2_takeShopsOf_0_10_E {p : Program} {l : Launch} {e : Env} {s : State} {m : MethodId} {args : Array Value} {below : List Frame} {meth : Method} {c : Code} {D : va_G} {t : Nat → ClassId} {a : Nat → Nat} {X : State → Prop} {N : Nat} {S' : ST} (hX : XOk (aW 56 a) X) (E : EN p s m args meth c cX2_takeShopsOf RX2 wsX2_takeShopsOf none 2) {S : ST} {H : Heap} {locs : List Loc} {ls : Array Slot} (w : Wd D (cC t a) (aW 56 a) (tyC t) X S s H locs) (hl : lv_has ls 2 [(0, .ref (a 0)), (1, .ref (a 10))]) (hf : f_X2_takeShopsOf_0_10 N S = some S') : W p l e rmX2_takeShopsOf_0_10 s m args below meth c H locs 0 0 (MQ below (Qv D (cC t a) (aW 56 a) (tyC t) S') args s 0 0 (aW 56 a)) (F0 m 0 ls []) := by
  obtain ⟨⟨hx, hb, hml, hown, hts⟩, hr, hlk⟩ := id E
  unfold f_X2_takeShopsOf_0_10 at hf
  refine lv_aload_n hx hb dX2_takeShopsOf_0 rfl (lv_at hl 0 rfl) ?_
  refine lv_aload_n hx hb dX2_takeShopsOf_1 rfl (lv_at hl 1 rfl) ?_
  refine w_get E w in_X2_takeShopsOf_X2 10 (cC_at_10 t a S) rfl 0 (by decide) fl_X2_takeShopsOf_46 rfl rfl dX2_takeShopsOf_2 ?_
  obtain ⟨S1, eS1, hf⟩ := nm_o hf
  refine w_put (S1 := S1) E w in_X2_takeShopsOf_X2 tyX2 tyX2_ok nmX2 0 (cC_at_0 t a S) rfl 0 (by decide) fl_X2_takeShopsOf_46 rfl rfl rfl rfl rfl (Nat.le_of_ble_eq_true rfl) ((cC_set_0_0 t a S (S 10 0)).trans (congrArg (cC t a) eS1.symm)) dX2_takeShopsOf_5 (fun H locs w => ?_)
  refine lv_aload_n hx hb dX2_takeShopsOf_8 rfl (lv_at hl 1 rfl) ?_
  refine w_get E w in_X2_takeShopsOf_X2 10 (cC_at_10 t a S1) rfl 1 (by decide) fl_X2_takeShopsOf_9 rfl rfl dX2_takeShopsOf_9 ?_
  refine lv_iconst (v := 0) hx hb dX2_takeShopsOf_12 (by decide) ?_
  refine lv_aload_n hx hb dX2_takeShopsOf_13 rfl (lv_at hl 0 rfl) ?_
  refine w_get E w in_X2_takeShopsOf_X2 0 (cC_at_0 t a S1) rfl 1 (by decide) fl_X2_takeShopsOf_9 rfl rfl dX2_takeShopsOf_14 ?_
  refine lv_iconst (v := 0) hx hb dX2_takeShopsOf_17 (by decide) ?_
  refine lv_bipush (v := 6) hx hb dX2_takeShopsOf_18 (by decide) ?_
  obtain ⟨S2, eS2, hf⟩ := nm_o hf
  refine w_copy (S1 := S2) E w ac1_X2_takeShopsOf_61 ac2_X2_takeShopsOf ac3_X2_takeShopsOf ac4_X2_takeShopsOf hl.1 11 1 0 (cC_at_11 t a S1) (cC_at_1 t a S1) rfl 6 ix_6 (by decide) (by decide) (by decide) ((cp_11_1_6 t a S1).trans (congrArg (cC t a) eS2.symm)) (Nat.le_of_ble_eq_true rfl) (by decide) dX2_takeShopsOf_20 (fun H locs w => ?_)
  refine lv_aload_n hx hb dX2_takeShopsOf_23 rfl (lv_at hl 1 rfl) ?_
  refine w_get E w in_X2_takeShopsOf_X2 10 (cC_at_10 t a S2) rfl 2 (by decide) fl_X2_takeShopsOf_15 rfl rfl dX2_takeShopsOf_24 ?_
  refine lv_iconst (v := 0) hx hb dX2_takeShopsOf_27 (by decide) ?_
  refine lv_aload_n hx hb dX2_takeShopsOf_28 rfl (lv_at hl 0 rfl) ?_
  refine w_get E w in_X2_takeShopsOf_X2 0 (cC_at_0 t a S2) rfl 2 (by decide) fl_X2_takeShopsOf_15 rfl rfl dX2_takeShopsOf_29 ?_
  refine lv_iconst (v := 0) hx hb dX2_takeShopsOf_32 (by decide) ?_
  refine lv_bipush (v := 6) hx hb dX2_takeShopsOf_33 (by decide) ?_
  obtain ⟨S3, eS3, hf⟩ := nm_o hf
  refine w_copy (S1 := S3) E w ac1_X2_takeShopsOf_61 ac2_X2_takeShopsOf ac3_X2_takeShopsOf ac4_X2_takeShopsOf hl.1 12 2 0 (cC_at_12 t a S2) (cC_at_2 t a S2) rfl 6 ix_6 (by decide) (by decide) (by decide) ((cp_12_2_6 t a S2).trans (congrArg (cC t a) eS3.symm)) (Nat.le_of_ble_eq_true rfl) (by decide) dX2_takeShopsOf_35 (fun H locs w => ?_)
  refine lv_aload_n hx hb dX2_takeShopsOf_38 rfl (lv_at hl 1 rfl) ?_
  refine w_get E w in_X2_takeShopsOf_X2 10 (cC_at_10 t a S3) rfl 3 (by decide) fl_X2_takeShopsOf_18 rfl rfl dX2_takeShopsOf_39 ?_
  refine lv_iconst (v := 0) hx hb dX2_takeShopsOf_42 (by decide) ?_
  refine lv_aload_n hx hb dX2_takeShopsOf_43 rfl (lv_at hl 0 rfl) ?_
  refine w_get E w in_X2_takeShopsOf_X2 0 (cC_at_0 t a S3) rfl 3 (by decide) fl_X2_takeShopsOf_18 rfl rfl dX2_takeShopsOf_44 ?_
  refine lv_iconst (v := 0) hx hb dX2_takeShopsOf_47 (by decide) ?_
  refine lv_bipush (v := 6) hx hb dX2_takeShopsOf_48 (by decide) ?_
  obtain ⟨S4, eS4, hf⟩ := nm_o hf
  refine w_copy (S1 := S4) E w ac1_X2_takeShopsOf_61 ac2_X2_takeShopsOf ac3_X2_takeShopsOf ac4_X2_takeShopsOf hl.1 13 3 0 (cC_at_13 t a S3) (cC_at_3 t a S3) rfl 6 ix_6 (by decide) (by decide) (by decide) ((cp_13_3_6 t a S3).trans (congrArg (cC t a) eS4.symm)) (Nat.le_of_ble_eq_true rfl) (by decide) dX2_takeShopsOf_50 (fun H locs w => ?_)
  refine lv_aload_n hx hb dX2_takeShopsOf_53 rfl (lv_at hl 1 rfl) ?_
  refine w_get E w in_X2_takeShopsOf_X2 10 (cC_at_10 t a S4) rfl 4 (by decide) fl_X2_takeShopsOf_21 rfl rfl dX2_takeShopsOf_54 ?_
  refine lv_iconst (v := 0) hx hb dX2_takeShopsOf_57 (by decide) ?_
  refine lv_aload_n hx hb dX2_takeShopsOf_58 rfl (lv_at hl 0 rfl) ?_
  refine w_get E w in_X2_takeShopsOf_X2 0 (cC_at_0 t a S4) rfl 4 (by decide) fl_X2_takeShopsOf_21 rfl rfl dX2_takeShopsOf_59 ?_
  refine lv_iconst (v := 0) hx hb dX2_takeShopsOf_62 (by decide) ?_
  refine lv_bipush (v := 6) hx hb dX2_takeShopsOf_63 (by decide) ?_
  obtain ⟨S5, eS5, hf⟩ := nm_o hf
  refine w_copy (S1 := S5) E w ac1_X2_takeShopsOf_61 ac2_X2_takeShopsOf ac3_X2_takeShopsOf ac4_X2_takeShopsOf hl.1 14 4 0 (cC_at_14 t a S4) (cC_at_4 t a S4) rfl 6 ix_6 (by decide) (by decide) (by decide) ((cp_14_4_6 t a S4).trans (congrArg (cC t a) eS5.symm)) (Nat.le_of_ble_eq_true rfl) (by decide) dX2_takeShopsOf_65 (fun H locs w => ?_)
  refine lv_aload_n hx hb dX2_takeShopsOf_68 rfl (lv_at hl 1 rfl) ?_
  refine w_get E w in_X2_takeShopsOf_X2 10 (cC_at_10 t a S5) rfl 5 (by decide) fl_X2_takeShopsOf_24 rfl rfl dX2_takeShopsOf_69 ?_
  refine lv_iconst (v := 0) hx hb dX2_takeShopsOf_72 (by decide) ?_
  refine lv_aload_n hx hb dX2_takeShopsOf_73 rfl (lv_at hl 0 rfl) ?_
  refine w_get E w in_X2_takeShopsOf_X2 0 (cC_at_0 t a S5) rfl 5 (by decide) fl_X2_takeShopsOf_24 rfl rfl dX2_takeShopsOf_74 ?_
  refine lv_iconst (v := 0) hx hb dX2_takeShopsOf_77 (by decide) ?_
  refine lv_bipush (v := 6) hx hb dX2_takeShopsOf_78 (by decide) ?_
  obtain ⟨S6, eS6, hf⟩ := nm_o hf
  refine w_copy (S1 := S6) E w ac1_X2_takeShopsOf_61 ac2_X2_takeShopsOf ac3_X2_takeShopsOf ac4_X2_takeShopsOf hl.1 15 5 0 (cC_at_15 t a S5) (cC_at_5 t a S5) rfl 6 ix_6 (by decide) (by decide) (by decide) ((cp_15_5_6 t a S5).trans (congrArg (cC t a) eS6.symm)) (Nat.le_of_ble_eq_true rfl) (by decide) dX2_takeShopsOf_80 (fun H locs w => ?_)
  refine lv_aload_n hx hb dX2_takeShopsOf_83 rfl (lv_at hl 0 rfl) ?_
  refine lv_aload_n hx hb dX2_takeShopsOf_84 rfl (lv_at hl 1 rfl) ?_
  refine w_get E w in_X2_takeShopsOf_X2 10 (cC_at_10 t a S6) rfl 6 (by decide) fl_X2_takeShopsOf_49 rfl rfl dX2_takeShopsOf_85 ?_
  obtain ⟨S7, eS7, hf⟩ := nm_o hf
  refine w_put (S1 := S7) E w in_X2_takeShopsOf_X2 tyX2 tyX2_ok nmX2 0 (cC_at_0 t a S6) rfl 6 (by decide) fl_X2_takeShopsOf_49 rfl rfl rfl rfl rfl (Nat.le_of_ble_eq_true rfl) ((cC_set_0_6 t a S6 (S6 10 6)).trans (congrArg (cC t a) eS7.symm)) dX2_takeShopsOf_88 (fun H locs w => ?_)
  refine lv_aload_n hx hb dX2_takeShopsOf_91 rfl (lv_at hl 0 rfl) ?_
  refine lv_aload_n hx hb dX2_takeShopsOf_92 rfl (lv_at hl 1 rfl) ?_
  refine w_get E w in_X2_takeShopsOf_X2 10 (cC_at_10 t a S7) rfl 9 (by decide) fl_X2_takeShopsOf_52 rfl rfl dX2_takeShopsOf_93 ?_
  obtain ⟨S8, eS8, hf⟩ := nm_o hf
  refine w_put (S1 := S8) E w in_X2_takeShopsOf_X2 tyX2 tyX2_ok nmX2 0 (cC_at_0 t a S7) rfl 9 (by decide) fl_X2_takeShopsOf_52 rfl rfl rfl rfl rfl (Nat.le_of_ble_eq_true rfl) ((cC_set_0_9 t a S7 (S7 10 9)).trans (congrArg (cC t a) eS8.symm)) dX2_takeShopsOf_96 (fun H locs w => ?_)
  refine lv_aload_n hx hb dX2_takeShopsOf_99 rfl (lv_at hl 1 rfl) ?_
  refine w_get E w in_X2_takeShopsOf_X2 10 (cC_at_10 t a S8) rfl 10 (by decide) fl_X2_takeShopsOf_34 rfl rfl dX2_takeShopsOf_100 ?_
  refine lv_iconst (v := 0) hx hb dX2_takeShopsOf_103 (by decide) ?_
  refine lv_aload_n hx hb dX2_takeShopsOf_104 rfl (lv_at hl 0 rfl) ?_
  refine w_get E w in_X2_takeShopsOf_X2 0 (cC_at_0 t a S8) rfl 10 (by decide) fl_X2_takeShopsOf_34 rfl rfl dX2_takeShopsOf_105 ?_
  refine lv_iconst (v := 0) hx hb dX2_takeShopsOf_108 (by decide) ?_
  refine lv_bipush (v := 12) hx hb dX2_takeShopsOf_109 (by decide) ?_
  obtain ⟨S9, eS9, hf⟩ := nm_o hf
  refine w_copy (S1 := S9) E w ac1_X2_takeShopsOf_61 ac2_X2_takeShopsOf ac3_X2_takeShopsOf ac4_X2_takeShopsOf hl.1 16 6 0 (cC_at_16 t a S8) (cC_at_6 t a S8) rfl 12 ix_12 (by decide) (by decide) (by decide) ((cp_16_6_12 t a S8).trans (congrArg (cC t a) eS9.symm)) (Nat.le_of_ble_eq_true rfl) (by decide) dX2_takeShopsOf_111 (fun H locs w => ?_)
  exact w_retv E w hf dX2_takeShopsOf_114
theorem c_X2_takeShopsOf_0_10 (l : Launch) {D : va_G} {t : Nat → ClassId} {a : Nat → Nat} {X : State → Prop} (hX : XOk (aW 56 a) X) {N : Nat} {S : ST} {S' : ST} (hf : f_X2_takeShopsOf_0_10 N S = some S') : Co l yX2_takeShopsOf wsX2_takeShopsOf rmX2_takeShopsOf_0_10 D (cC t a) (aW 56 a) (tyC t) X [.ref (a 0), .ref (a 10)] S (Qv D (cC t a) (aW 56 a) (tyC t) S') :=
  co_of (cc := cX2_takeShopsOf) (maxL := 2) (ret := none) (lv := [(0, .ref (a 0)), (1, .ref (a 10))]) (by decide) rfl rfl (Nat.le_of_ble_eq_true rfl) rfl rfl (fun p e s m below meth c ls E hl w => k_X2_takeShopsOf_0_10_E hX E w hl hf)
-- X4_read
theorem in_X4_read_X4 : ∀ w ∈ u_ws RX4 TX4 9, w ∈ wsX4_read := by decide +kernel
theorem fl_X4_read_45 : Cond.fieldLink RX4 45 "NextDoor" "reader" "LNextDoor$RoadReader;" ∈ wsX4_read := by decide +kernel
theorem hd_X0_readRoad : yX0_readRoad.cls = RX0 ∧ yX0_readRoad.cls ≠ "java/lang/invoke/MethodHandle" ∧ yX0_readRoad.cls ≠ "java/lang/invoke/VarHandle" ∧ (parseMethodDescriptor yX0_readRoad.desc).map (fun d => d.parameters.length) = some 0 := by decide +kernel
theorem in_X4_read_X0 : ∀ w ∈ u_ws RX0 TX0 9, w ∈ wsX4_read := by decide +kernel
theorem fl_X4_read_113 : Cond.fieldLink RX4 113 "NextDoor$RoadReader" "fault" "I" ∈ wsX4_read := by decide +kernel
theorem fl_X4_read_10 : Cond.fieldLink RX4 10 "NextDoor" "street" "LNextDoor$Street;" ∈ wsX4_read := by decide +kernel
theorem fl_X4_read_116 : Cond.fieldLink RX4 116 "NextDoor$RoadReader" "draft" "LNextDoor$Street;" ∈ wsX4_read := by decide +kernel
abbrev rmX4_read : Room := { frames := 7, cells := 0, slots := 0, locals := 193 }
set_option maxHeartbeats 4000000 in
set_option maxRecDepth 100000 in
theorem k_X4_read_E {p : Program} {l : Launch} {e : Env} {s : State} {m : MethodId} {args : Array Value} {below : List Frame} {meth : Method} {c : Code} {D : va_G} {t : Nat → ClassId} {a : Nat → Nat} {X : State → Prop} {N : Nat} {r : Int32} {S' : ST} (hX : XOk (aW 56 a) X) {kd vd : Nat → Nat} (hN : ∀ U : State, X U → xR kd vd a U) (E : EN p s m args meth c cX4_read RX4 wsX4_read (some .int) 2) {S : ST} {H : Heap} {locs : List Loc} {ls : Array Slot} (w : Wd D (cC t a) (aW 56 a) (tyC t) X S s H locs) (hl : lv_has ls 2 [(0, .ref (a 50))]) (hf : f_X4_read N S = some (r, S')) : W p l e rmX4_read s m args below meth c H locs 0 0 (MQ below (Qi D (cC t a) (aW 56 a) (tyC t) r S') args s 0 0 (aW 56 a)) (F0 m 0 ls []) := by
  obtain ⟨⟨hx, hb, hml, hown, hts⟩, hr, hlk⟩ := id E
  unfold f_X4_read at hf
  refine lv_aload_n hx hb dX4_read_0 rfl (lv_at hl 0 rfl) ?_
  refine w_get E w in_X4_read_X4 50 (cC_at_50 t a S) rfl 5 (by decide) fl_X4_read_45 rfl rfl dX4_read_1 ?_
  obtain ⟨r3, S2, h1, hf⟩ := bd2_o hf
  refine w_callVi (As := []) (rest := []) hX E w (c_X0_readRoad l hX hN h1) (cwV 0 hts gX4_read_X0_readRoad rfl rfl rfl hd_X0_readRoad ⟨Nat.le_of_ble_eq_true rfl, Nat.le_of_ble_eq_true rfl⟩) (ci := 0) rfl (cC_at_49 t a S) rfl hl.1 rfl (Nat.le_of_ble_eq_true rfl) dX4_read_4 ⟨Nat.le_refl _, Nat.le_refl _⟩ (fun H locs w => ?_)
  refine lv_istore_n (lv' := [(1, .int r3), (0, .ref (a 50))]) hx hb dX4_read_7 rfl hl (by decide) rfl (fun ls hl => ?_)
  refine lv_aload_n hx hb dX4_read_8 rfl (lv_at hl 1 rfl) ?_
  refine w_get E w in_X4_read_X4 50 (cC_at_50 t a S2) rfl 5 (by decide) fl_X4_read_45 rfl rfl dX4_read_9 ?_
  refine w_get E w in_X4_read_X0 49 (cC_at_49 t a S2) rfl 1 (by decide) fl_X4_read_113 rfl rfl dX4_read_12 ?_
  refine lv_iconst (v := (-1)) hx hb dX4_read_15 (by decide) ?_
  refine lv_icmp_eq (tgt := 30) hx hb dX4_read_16 (by decide) (fun h4 => ?_) (fun h4 => ?_)
  · replace hf := it_t h4 hf
    refine lv_aload_n hx hb dX4_read_30 rfl (lv_at hl 1 rfl) ?_
    refine w_get E w in_X4_read_X4 50 (cC_at_50 t a S2) rfl 0 (by decide) fl_X4_read_10 rfl rfl dX4_read_31 ?_
    refine lv_aload_n hx hb dX4_read_34 rfl (lv_at hl 1 rfl) ?_
    refine w_get E w in_X4_read_X4 50 (cC_at_50 t a S2) rfl 5 (by decide) fl_X4_read_45 rfl rfl dX4_read_35 ?_
    refine w_get E w in_X4_read_X0 49 (cC_at_49 t a S2) rfl 0 (by decide) fl_X4_read_116 rfl rfl dX4_read_38 ?_
    obtain ⟨S6, h5, hf⟩ := bd1_o hf
    refine w_callVv (As := [.ref (a 10)]) (rest := []) hX E w (c_X2_takeShopsOf_0_10 l hX h5) (cwV 1 hts gX4_read_X2_takeShopsOf rfl rfl rfl hd_X2_takeShopsOf ⟨Nat.le_of_ble_eq_true rfl, Nat.le_of_ble_eq_true rfl⟩) (ci := 2) rfl (cC_at_0 t a S2) rfl hl.1 rfl (Nat.le_of_ble_eq_true rfl) dX4_read_41 ⟨Nat.le_refl _, Nat.le_refl _⟩ (fun H locs w => ?_)
    refine lv_iload_n hx hb dX4_read_44 rfl (lv_at hl 0 rfl) ?_
    exact w_reti E w hf dX4_read_45
  · replace hf := it_f h4 hf
    refine lv_bipush (v := (-10)) hx hb dX4_read_19 (by decide) ?_
    refine lv_aload_n hx hb dX4_read_21 rfl (lv_at hl 1 rfl) ?_
    refine w_get E w in_X4_read_X4 50 (cC_at_50 t a S2) rfl 5 (by decide) fl_X4_read_45 rfl rfl dX4_read_22 ?_
    refine w_get E w in_X4_read_X0 49 (cC_at_49 t a S2) rfl 1 (by decide) fl_X4_read_113 rfl rfl dX4_read_25 ?_
    refine lv_isub hx hb dX4_read_28 ?_
    exact w_reti E w hf dX4_read_29
theorem c_X4_read (l : Launch) {D : va_G} {t : Nat → ClassId} {a : Nat → Nat} {X : State → Prop} (hX : XOk (aW 56 a) X) {kd vd : Nat → Nat} (hN : ∀ U : State, X U → xR kd vd a U) {N : Nat} {S : ST} {r : Int32} {S' : ST} (hf : f_X4_read N S = some (r, S')) : Co l yX4_read wsX4_read rmX4_read D (cC t a) (aW 56 a) (tyC t) X [.ref (a 50)] S (Qi D (cC t a) (aW 56 a) (tyC t) r S') :=
  co_of (cc := cX4_read) (maxL := 2) (ret := (some .int)) (lv := [(0, .ref (a 50))]) (by decide) rfl rfl (Nat.le_of_ble_eq_true rfl) rfl rfl (fun p e s m below meth c ls E hl w => k_X4_read_E hX hN E w hl hf)
