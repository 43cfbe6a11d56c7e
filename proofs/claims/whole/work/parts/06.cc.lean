-- X4_row
theorem in_X4_row_X4 : ∀ w ∈ u_ws RX4 TX4 9, w ∈ wsX4_row := by decide +kernel
theorem fl_X4_row_38 : Cond.fieldLink RX4 38 "NextDoor" "search" "LNextDoor$Search;" ∈ wsX4_row := by decide +kernel
theorem fl_X4_row_10 : Cond.fieldLink RX4 10 "NextDoor" "street" "LNextDoor$Street;" ∈ wsX4_row := by decide +kernel
theorem in_X4_row_X2 : ∀ w ∈ u_ws RX2 TX2 16, w ∈ wsX4_row := by decide +kernel
theorem fl_X4_row_94 : Cond.fieldLink RX4 94 "NextDoor$Street" "purse" "I" ∈ wsX4_row := by decide +kernel
theorem in_X4_row_X1 : ∀ w ∈ u_ws RX1 TX1 12, w ∈ wsX4_row := by decide +kernel
theorem fl_X4_row_146 : Cond.fieldLink RX4 146 "NextDoor$Search" "length" "I" ∈ wsX4_row := by decide +kernel
theorem fl_X4_row_150 : Cond.fieldLink RX4 150 "NextDoor$Search" "row" "[I" ∈ wsX4_row := by decide +kernel
abbrev rmX4_row : Room := { frames := 13, cells := 0, slots := 0, locals := 382 }
set_option maxHeartbeats 4000000 in
set_option maxRecDepth 100000 in
theorem k_X4_row_12 {p : Program} {l : Launch} {e : Env} {s : State} {m : MethodId} {args : Array Value} {below : List Frame} {meth : Method} {c : Code} {D : va_G} {t : Nat → ClassId} {a : Nat → Nat} {X : State → Prop} {N : Nat} {r : Int32} {S' : ST} (hX : XOk (aW 56 a) X) (E : EN p s m args meth c cX4_row RX4 wsX4_row (some .int) 3) {S : ST} {H : Heap} {locs : List Loc} {ls : Array Slot} (w : Wd D (cC t a) (aW 56 a) (tyC t) X S s H locs) (hl : lv_has ls 3 [(0, .ref (a 50))]) (hf : b_X4_row_12 N S = some (r, S')) : W p l e rmX4_row s m args below meth c H locs 0 0 (MQ below (Qi D (cC t a) (aW 56 a) (tyC t) r S') args s 0 0 (aW 56 a)) (F0 m 12 ls []) := by
  obtain ⟨⟨hx, hb, hml, hown, hts⟩, hr, hlk⟩ := id E
  unfold b_X4_row_12 at hf
  refine lv_aload_n hx hb dX4_row_12 rfl (lv_at hl 0 rfl) ?_
  refine lv_bipush (v := (-2)) hx hb dX4_row_13 (by decide) ?_
  refine lv_bipush (v := (-10)) hx hb dX4_row_15 (by decide) ?_
  obtain ⟨r14, S13, h12, hf⟩ := bd2_o hf
  refine w_callVi (As := [.int (-2), .int (-10)]) (rest := []) hX E w (c_X4_refuse l hX h12) (cwV 2 hts gX4_row_X4_refuse rfl rfl rfl hd_X4_refuse ⟨Nat.le_of_ble_eq_true rfl, Nat.le_of_ble_eq_true rfl⟩) (ci := 4) rfl (cC_at_50 t a S) rfl hl.1 rfl (Nat.le_of_ble_eq_true rfl) dX4_row_17 ⟨Nat.le_refl _, Nat.le_refl _⟩ (fun H locs w => ?_)
  exact w_reti E w hf dX4_row_20
set_option maxHeartbeats 4000000 in
set_option maxRecDepth 100000 in
theorem k_X4_row_E {p : Program} {l : Launch} {e : Env} {s : State} {m : MethodId} {args : Array Value} {below : List Frame} {meth : Method} {c : Code} {D : va_G} {t : Nat → ClassId} {a : Nat → Nat} {X : State → Prop} {N : Nat} {r : Int32} {S' : ST} (hX : XOk (aW 56 a) X) (E : EN p s m args meth c cX4_row RX4 wsX4_row (some .int) 3) {S : ST} {x1 : Int32} {x2 : Int32} {H : Heap} {locs : List Loc} {ls : Array Slot} (w : Wd D (cC t a) (aW 56 a) (tyC t) X S s H locs) (hl : lv_has ls 3 [(0, .ref (a 50)), (1, .int x1), (2, .int x2)]) (hf : f_X4_row N S x1 x2 = some (r, S')) : W p l e rmX4_row s m args below meth c H locs 0 0 (MQ below (Qi D (cC t a) (aW 56 a) (tyC t) r S') args s 0 0 (aW 56 a)) (F0 m 0 ls []) := by
  obtain ⟨⟨hx, hb, hml, hown, hts⟩, hr, hlk⟩ := id E
  unfold f_X4_row at hf
  refine lv_aload_n hx hb dX4_row_0 rfl (lv_at hl 0 rfl) ?_
  refine lv_iload_n hx hb dX4_row_1 rfl (lv_at hl 1 rfl) ?_
  obtain ⟨r3, S2, h1, hf⟩ := bd2_o hf
  refine w_callVi (As := [.int x1]) (rest := []) hX E w (c_X4_areGoods l hX h1) (cwV 1 hts gX4_row_X4_areGoods rfl rfl rfl hd_X4_areGoods ⟨Nat.le_of_ble_eq_true rfl, Nat.le_of_ble_eq_true rfl⟩) (ci := 4) rfl (cC_at_50 t a S) rfl hl.1 rfl (Nat.le_of_ble_eq_true rfl) dX4_row_2 ⟨Nat.le_refl _, Nat.le_refl _⟩ (fun H locs w => ?_)
  refine lv_if_eq (tgt := 12) hx hb dX4_row_5 (by decide) (fun h4 => ?_) (fun h4 => ?_)
  · replace hf := it_t h4 hf
    exact k_X4_row_12 hX E w (lv_sub hl [0] rfl) hf
  · replace hf := it_f h4 hf
    refine lv_iload_n hx hb dX4_row_8 rfl (lv_at hl 2 rfl) ?_
    refine lv_if_ge (tgt := 21) hx hb dX4_row_9 (by decide) (fun h5 => ?_) (fun h5 => ?_)
    · replace hf := it_t h5 hf
      refine lv_aload_n hx hb dX4_row_21 rfl (lv_at hl 0 rfl) ?_
      refine w_get E w in_X4_row_X4 50 (cC_at_50 t a S2) rfl 4 (by decide) fl_X4_row_38 rfl rfl dX4_row_22 ?_
      refine lv_iload_n hx hb dX4_row_25 rfl (lv_at hl 1 rfl) ?_
      refine lv_aload_n hx hb dX4_row_26 rfl (lv_at hl 0 rfl) ?_
      refine w_get E w in_X4_row_X4 50 (cC_at_50 t a S2) rfl 0 (by decide) fl_X4_row_10 rfl rfl dX4_row_27 ?_
      refine w_get E w in_X4_row_X2 0 (cC_at_0 t a S2) rfl 7 (by decide) fl_X4_row_94 rfl rfl dX4_row_30 ?_
      refine lv_iconst (v := 0) hx hb dX4_row_33 (by decide) ?_
      obtain ⟨r8, S7, h6, hf⟩ := bd2_o hf
      refine w_callVi (As := [.int x1, .int (S2 0 7), .int 0]) (rest := []) hX E w (c_X1_findCheapest l hX h6) (cwV 3 hts gX4_row_X1_findCheapest rfl rfl rfl hd_X1_findCheapest ⟨Nat.le_of_ble_eq_true rfl, Nat.le_of_ble_eq_true rfl⟩) (ci := 1) rfl (cC_at_46 t a S2) rfl hl.1 rfl (Nat.le_of_ble_eq_true rfl) dX4_row_34 ⟨Nat.le_refl _, Nat.le_refl _⟩ (fun H locs w => ?_)
      refine lv_if_eq (tgt := 51) hx hb dX4_row_37 (by decide) (fun h9 => ?_) (fun h9 => ?_)
      · replace hf := it_t h9 hf
        refine lv_bipush (v := (-5)) hx hb dX4_row_51 (by decide) ?_
        exact w_reti E w hf dX4_row_53
      · replace hf := it_f h9 hf
        refine lv_iload_n hx hb dX4_row_40 rfl (lv_at hl 2 rfl) ?_
        refine lv_aload_n hx hb dX4_row_41 rfl (lv_at hl 0 rfl) ?_
        refine w_get E w in_X4_row_X4 50 (cC_at_50 t a S7) rfl 4 (by decide) fl_X4_row_38 rfl rfl dX4_row_42 ?_
        refine w_get E w in_X4_row_X1 46 (cC_at_46 t a S7) rfl 7 (by decide) fl_X4_row_146 rfl rfl dX4_row_45 ?_
        refine lv_icmp_lt (tgt := 54) hx hb dX4_row_48 (by decide) (fun h10 => ?_) (fun h10 => ?_)
        · replace hf := it_t h10 hf
          refine lv_aload_n hx hb dX4_row_54 rfl (lv_at hl 0 rfl) ?_
          refine w_get E w in_X4_row_X4 50 (cC_at_50 t a S7) rfl 4 (by decide) fl_X4_row_38 rfl rfl dX4_row_55 ?_
          refine w_get E w in_X4_row_X1 46 (cC_at_46 t a S7) rfl 10 (by decide) fl_X4_row_150 rfl rfl dX4_row_58 ?_
          refine lv_iload_n hx hb dX4_row_61 rfl (lv_at hl 2 rfl) ?_
          obtain ⟨h11, hf⟩ := it_n hf
          refine w_ald E w 47 0 (cC_at_47 t a S7) rfl h11 rfl dX4_row_62 ?_
          exact w_reti E w hf dX4_row_63
        · replace hf := it_f h10 hf
          refine lv_bipush (v := (-5)) hx hb dX4_row_51 (by decide) ?_
          exact w_reti E w hf dX4_row_53
    · replace hf := it_f h5 hf
      exact k_X4_row_12 hX E w (lv_sub hl [0] rfl) hf
theorem c_X4_row (l : Launch) {D : va_G} {t : Nat → ClassId} {a : Nat → Nat} {X : State → Prop} (hX : XOk (aW 56 a) X) {N : Nat} {S : ST} {x1 : Int32} {x2 : Int32} {r : Int32} {S' : ST} (hf : f_X4_row N S x1 x2 = some (r, S')) : Co l yX4_row wsX4_row rmX4_row D (cC t a) (aW 56 a) (tyC t) X [.ref (a 50), .int x1, .int x2] S (Qi D (cC t a) (aW 56 a) (tyC t) r S') :=
  co_of (cc := cX4_row) (maxL := 3) (ret := (some .int)) (lv := [(0, .ref (a 50)), (1, .int x1), (2, .int x2)]) (by decide) rfl rfl (Nat.le_of_ble_eq_true rfl) rfl rfl (fun p e s m below meth c ls E hl w => k_X4_row_E hX E w hl hf)
-- X1_findSoonest
theorem in_X1_findSoonest_X1 : ∀ w ∈ u_ws RX1 TX1 12, w ∈ wsX1_findSoonest := by decide +kernel
theorem fl_X1_findSoonest_26 : Cond.fieldLink RX1 26 "NextDoor$Search" "byMinute" "Z" ∈ wsX1_findSoonest := by decide +kernel
theorem fl_X1_findSoonest_30 : Cond.fieldLink RX1 30 "NextDoor$Search" "closed" "I" ∈ wsX1_findSoonest := by decide +kernel
theorem fl_X1_findSoonest_42 : Cond.fieldLink RX1 42 "NextDoor$Search" "found" "Z" ∈ wsX1_findSoonest := by decide +kernel
abbrev rmX1_findSoonest : Room := { frames := 12, cells := 0, slots := 0, locals := 359 }
set_option maxHeartbeats 4000000 in
set_option maxRecDepth 100000 in
theorem k_X1_findSoonest_E {p : Program} {l : Launch} {e : Env} {s : State} {m : MethodId} {args : Array Value} {below : List Frame} {meth : Method} {c : Code} {D : va_G} {t : Nat → ClassId} {a : Nat → Nat} {X : State → Prop} {N : Nat} {r : Int32} {S' : ST} (hX : XOk (aW 56 a) X) (E : EN p s m args meth c cX1_findSoonest RX1 wsX1_findSoonest (some .boolean) 2) {S : ST} {x1 : Int32} {H : Heap} {locs : List Loc} {ls : Array Slot} (w : Wd D (cC t a) (aW 56 a) (tyC t) X S s H locs) (hl : lv_has ls 2 [(0, .ref (a 46)), (1, .int x1)]) (hf : f_X1_findSoonest N S x1 = some (r, S')) : W p l e rmX1_findSoonest s m args below meth c H locs 0 0 (MQ below (Qi D (cC t a) (aW 56 a) (tyC t) r S') args s 0 0 (aW 56 a)) (F0 m 0 ls []) := by
  obtain ⟨⟨hx, hb, hml, hown, hts⟩, hr, hlk⟩ := id E
  unfold f_X1_findSoonest at hf
  refine lv_aload_n hx hb dX1_findSoonest_0 rfl (lv_at hl 0 rfl) ?_
  refine lv_iconst (v := 1) hx hb dX1_findSoonest_1 (by decide) ?_
  obtain ⟨S1, eS1, hf⟩ := nm_o hf
  refine w_put (S1 := S1) E w in_X1_findSoonest_X1 tyX1 tyX1_ok nmX1 46 (cC_at_46 t a S) rfl 4 (by decide) fl_X1_findSoonest_26 rfl rfl rfl (nar_z (by decide)) (by decide) (Nat.le_of_ble_eq_true rfl) ((cC_set_46_4 t a S 1).trans (congrArg (cC t a) eS1.symm)) dX1_findSoonest_2 (fun H locs w => ?_)
  refine lv_aload_n hx hb dX1_findSoonest_5 rfl (lv_at hl 0 rfl) ?_
  refine lv_iconst (v := 0) hx hb dX1_findSoonest_6 (by decide) ?_
  obtain ⟨S2, eS2, hf⟩ := nm_o hf
  refine w_put (S1 := S2) E w in_X1_findSoonest_X1 tyX1 tyX1_ok nmX1 46 (cC_at_46 t a S1) rfl 3 (by decide) fl_X1_findSoonest_30 rfl rfl rfl rfl rfl (Nat.le_of_ble_eq_true rfl) ((cC_set_46_3 t a S1 0).trans (congrArg (cC t a) eS2.symm)) dX1_findSoonest_7 (fun H locs w => ?_)
  refine lv_aload_n hx hb dX1_findSoonest_10 rfl (lv_at hl 0 rfl) ?_
  refine lv_iload_n hx hb dX1_findSoonest_11 rfl (lv_at hl 1 rfl) ?_
  refine lv_sipush (v := 240) hx hb dX1_findSoonest_12 (by decide) ?_
  obtain ⟨S4, h3, hf⟩ := bd1_o hf
  refine w_callVv (As := [.int x1, .int 240]) (rest := []) hX E w (c_X1_expect l hX h3) (cwV 2 hts gX1_findSoonest_X1_expect rfl rfl rfl hd_X1_expect ⟨Nat.le_of_ble_eq_true rfl, Nat.le_of_ble_eq_true rfl⟩) (ci := 1) rfl (cC_at_46 t a S2) rfl hl.1 rfl (Nat.le_of_ble_eq_true rfl) dX1_findSoonest_15 ⟨Nat.le_refl _, Nat.le_refl _⟩ (fun H locs w => ?_)
  refine lv_aload_n hx hb dX1_findSoonest_18 rfl (lv_at hl 0 rfl) ?_
  refine lv_iconst (v := 0) hx hb dX1_findSoonest_19 (by decide) ?_
  obtain ⟨S6, h5, hf⟩ := bd1_o hf
  refine w_callVv (As := [.int 0]) (rest := []) hX E w (c_X1_goOn l hX 8 h5) (cwV 1 hts gX1_findSoonest_X1_goOn rfl rfl rfl hd_X1_goOn ⟨Nat.le_of_ble_eq_true rfl, Nat.le_of_ble_eq_true rfl⟩) (ci := 1) rfl (cC_at_46 t a S4) rfl hl.1 rfl (Nat.le_of_ble_eq_true rfl) dX1_findSoonest_20 ⟨Nat.le_refl _, Nat.le_refl _⟩ (fun H locs w => ?_)
  refine lv_aload_n hx hb dX1_findSoonest_23 rfl (lv_at hl 0 rfl) ?_
  refine w_get E w in_X1_findSoonest_X1 46 (cC_at_46 t a S6) rfl 5 (by decide) fl_X1_findSoonest_42 rfl rfl dX1_findSoonest_24 ?_
  obtain ⟨h7, hf⟩ := it_s hf
  exact w_retz E w h7 hf dX1_findSoonest_27
theorem c_X1_findSoonest (l : Launch) {D : va_G} {t : Nat → ClassId} {a : Nat → Nat} {X : State → Prop} (hX : XOk (aW 56 a) X) {N : Nat} {S : ST} {x1 : Int32} {r : Int32} {S' : ST} (hf : f_X1_findSoonest N S x1 = some (r, S')) : Co l yX1_findSoonest wsX1_findSoonest rmX1_findSoonest D (cC t a) (aW 56 a) (tyC t) X [.ref (a 46), .int x1] S (Qi D (cC t a) (aW 56 a) (tyC t) r S') :=
  co_of (cc := cX1_findSoonest) (maxL := 2) (ret := (some .boolean)) (lv := [(0, .ref (a 46)), (1, .int x1)]) (by decide) rfl rfl (Nat.le_of_ble_eq_true rfl) rfl rfl (fun p e s m below meth c ls E hl w => k_X1_findSoonest_E hX E w hl hf)
-- X4_soonest
theorem in_X4_soonest_X4 : ∀ w ∈ u_ws RX4 TX4 9, w ∈ wsX4_soonest := by decide +kernel
theorem fl_X4_soonest_38 : Cond.fieldLink RX4 38 "NextDoor" "search" "LNextDoor$Search;" ∈ wsX4_soonest := by decide +kernel
theorem hd_X1_findSoonest : yX1_findSoonest.cls = RX1 ∧ yX1_findSoonest.cls ≠ "java/lang/invoke/MethodHandle" ∧ yX1_findSoonest.cls ≠ "java/lang/invoke/VarHandle" ∧ (parseMethodDescriptor yX1_findSoonest.desc).map (fun d => d.parameters.length) = some 1 := by decide +kernel
theorem in_X4_soonest_X1 : ∀ w ∈ u_ws RX1 TX1 12, w ∈ wsX4_soonest := by decide +kernel
theorem fl_X4_soonest_147 : Cond.fieldLink RX4 147 "NextDoor$Search" "minute" "I" ∈ wsX4_soonest := by decide +kernel
abbrev rmX4_soonest : Room := { frames := 13, cells := 0, slots := 0, locals := 380 }
set_option maxHeartbeats 4000000 in
set_option maxRecDepth 100000 in
theorem k_X4_soonest_E {p : Program} {l : Launch} {e : Env} {s : State} {m : MethodId} {args : Array Value} {below : List Frame} {meth : Method} {c : Code} {D : va_G} {t : Nat → ClassId} {a : Nat → Nat} {X : State → Prop} {N : Nat} {r : Int32} {S' : ST} (hX : XOk (aW 56 a) X) (E : EN p s m args meth c cX4_soonest RX4 wsX4_soonest (some .int) 2) {S : ST} {x1 : Int32} {H : Heap} {locs : List Loc} {ls : Array Slot} (w : Wd D (cC t a) (aW 56 a) (tyC t) X S s H locs) (hl : lv_has ls 2 [(0, .ref (a 50)), (1, .int x1)]) (hf : f_X4_soonest N S x1 = some (r, S')) : W p l e rmX4_soonest s m args below meth c H locs 0 0 (MQ below (Qi D (cC t a) (aW 56 a) (tyC t) r S') args s 0 0 (aW 56 a)) (F0 m 0 ls []) := by
  obtain ⟨⟨hx, hb, hml, hown, hts⟩, hr, hlk⟩ := id E
  unfold f_X4_soonest at hf
  refine lv_aload_n hx hb dX4_soonest_0 rfl (lv_at hl 0 rfl) ?_
  refine lv_iload_n hx hb dX4_soonest_1 rfl (lv_at hl 1 rfl) ?_
  obtain ⟨r3, S2, h1, hf⟩ := bd2_o hf
  refine w_callVi (As := [.int x1]) (rest := []) hX E w (c_X4_areGoods l hX h1) (cwV 1 hts gX4_soonest_X4_areGoods rfl rfl rfl hd_X4_areGoods ⟨Nat.le_of_ble_eq_true rfl, Nat.le_of_ble_eq_true rfl⟩) (ci := 4) rfl (cC_at_50 t a S) rfl hl.1 rfl (Nat.le_of_ble_eq_true rfl) dX4_soonest_2 ⟨Nat.le_refl _, Nat.le_refl _⟩ (fun H locs w => ?_)
  refine lv_if_ne (tgt := 17) hx hb dX4_soonest_5 (by decide) (fun h4 => ?_) (fun h4 => ?_)
  · replace hf := it_f h4 hf
    refine lv_aload_n hx hb dX4_soonest_17 rfl (lv_at hl 0 rfl) ?_
    refine w_get E w in_X4_soonest_X4 50 (cC_at_50 t a S2) rfl 4 (by decide) fl_X4_soonest_38 rfl rfl dX4_soonest_18 ?_
    refine lv_iload_n hx hb dX4_soonest_21 rfl (lv_at hl 1 rfl) ?_
    obtain ⟨r7, S6, h5, hf⟩ := bd2_o hf
    refine w_callVi (As := [.int x1]) (rest := []) hX E w (c_X1_findSoonest l hX h5) (cwV 1 hts gX4_soonest_X1_findSoonest rfl rfl rfl hd_X1_findSoonest ⟨Nat.le_of_ble_eq_true rfl, Nat.le_of_ble_eq_true rfl⟩) (ci := 1) rfl (cC_at_46 t a S2) rfl hl.1 rfl (Nat.le_of_ble_eq_true rfl) dX4_soonest_22 ⟨Nat.le_refl _, Nat.le_refl _⟩ (fun H locs w => ?_)
    refine lv_if_eq (tgt := 38) hx hb dX4_soonest_25 (by decide) (fun h8 => ?_) (fun h8 => ?_)
    · replace hf := it_t h8 hf
      refine lv_iconst (v := (-1)) hx hb dX4_soonest_38 (by decide) ?_
      exact w_reti E w hf dX4_soonest_39
    · replace hf := it_f h8 hf
      refine lv_aload_n hx hb dX4_soonest_28 rfl (lv_at hl 0 rfl) ?_
      refine w_get E w in_X4_soonest_X4 50 (cC_at_50 t a S6) rfl 4 (by decide) fl_X4_soonest_38 rfl rfl dX4_soonest_29 ?_
      refine w_get E w in_X4_soonest_X1 46 (cC_at_46 t a S6) rfl 9 (by decide) fl_X4_soonest_147 rfl rfl dX4_soonest_32 ?_
      refine lv_goto (tgt := 39) hx hb dX4_soonest_35 (by decide) ?_
      exact w_reti E w hf dX4_soonest_39
  · replace hf := it_t h4 hf
    refine lv_aload_n hx hb dX4_soonest_8 rfl (lv_at hl 0 rfl) ?_
    refine lv_bipush (v := (-2)) hx hb dX4_soonest_9 (by decide) ?_
    refine lv_bipush (v := (-2)) hx hb dX4_soonest_11 (by decide) ?_
    obtain ⟨r11, S10, h9, hf⟩ := bd2_o hf
    refine w_callVi (As := [.int (-2), .int (-2)]) (rest := []) hX E w (c_X4_refuse l hX h9) (cwV 2 hts gX4_soonest_X4_refuse rfl rfl rfl hd_X4_refuse ⟨Nat.le_of_ble_eq_true rfl, Nat.le_of_ble_eq_true rfl⟩) (ci := 4) rfl (cC_at_50 t a S2) rfl hl.1 rfl (Nat.le_of_ble_eq_true rfl) dX4_soonest_13 ⟨Nat.le_refl _, Nat.le_refl _⟩ (fun H locs w => ?_)
    exact w_reti E w hf dX4_soonest_16
theorem c_X4_soonest (l : Launch) {D : va_G} {t : Nat → ClassId} {a : Nat → Nat} {X : State → Prop} (hX : XOk (aW 56 a) X) {N : Nat} {S : ST} {x1 : Int32} {r : Int32} {S' : ST} (hf : f_X4_soonest N S x1 = some (r, S')) : Co l yX4_soonest wsX4_soonest rmX4_soonest D (cC t a) (aW 56 a) (tyC t) X [.ref (a 50), .int x1] S (Qi D (cC t a) (aW 56 a) (tyC t) r S') :=
  co_of (cc := cX4_soonest) (maxL := 2) (ret := (some .int)) (lv := [(0, .ref (a 50)), (1, .int x1)]) (by decide) rfl rfl (Nat.le_of_ble_eq_true rfl) rfl rfl (fun p e s m below meth c ls E hl w => k_X4_soonest_E hX E w hl hf)
-- X4_worth
theorem in_X4_worth_X4 : ∀ w ∈ u_ws RX4 TX4 9, w ∈ wsX4_worth := by decide +kernel
theorem fl_X4_worth_10 : Cond.fieldLink RX4 10 "NextDoor" "street" "LNextDoor$Street;" ∈ wsX4_worth := by decide +kernel
theorem fl_X4_worth_38 : Cond.fieldLink RX4 38 "NextDoor" "search" "LNextDoor$Search;" ∈ wsX4_worth := by decide +kernel
theorem in_X4_worth_X2 : ∀ w ∈ u_ws RX2 TX2 16, w ∈ wsX4_worth := by decide +kernel
theorem fl_X4_worth_94 : Cond.fieldLink RX4 94 "NextDoor$Street" "purse" "I" ∈ wsX4_worth := by decide +kernel
theorem in_X4_worth_X1 : ∀ w ∈ u_ws RX1 TX1 12, w ∈ wsX4_worth := by decide +kernel
theorem fl_X4_worth_143 : Cond.fieldLink RX4 143 "NextDoor$Search" "paid" "I" ∈ wsX4_worth := by decide +kernel
abbrev rmX4_worth : Room := { frames := 13, cells := 0, slots := 0, locals := 382 }
set_option maxHeartbeats 4000000 in
set_option maxRecDepth 100000 in
theorem k_X4_worth_30 {p : Program} {l : Launch} {e : Env} {s : State} {m : MethodId} {args : Array Value} {below : List Frame} {meth : Method} {c : Code} {D : va_G} {t : Nat → ClassId} {a : Nat → Nat} {X : State → Prop} {N : Nat} {r : Int32} {S' : ST} (hX : XOk (aW 56 a) X) (E : EN p s m args meth c cX4_worth RX4 wsX4_worth (some .int) 5) {S : ST} {H : Heap} {locs : List Loc} {ls : Array Slot} (w : Wd D (cC t a) (aW 56 a) (tyC t) X S s H locs) (hl : lv_has ls 5 [(0, .ref (a 50))]) (hf : b_X4_worth_30 N S = some (r, S')) : W p l e rmX4_worth s m args below meth c H locs 0 0 (MQ below (Qi D (cC t a) (aW 56 a) (tyC t) r S') args s 0 0 (aW 56 a)) (F0 m 30 ls []) := by
  obtain ⟨⟨hx, hb, hml, hown, hts⟩, hr, hlk⟩ := id E
  unfold b_X4_worth_30 at hf
  refine lv_aload_n hx hb dX4_worth_30 rfl (lv_at hl 0 rfl) ?_
  refine lv_bipush (v := (-2)) hx hb dX4_worth_31 (by decide) ?_
  refine lv_sipush (v := (-1000)) hx hb dX4_worth_33 (by decide) ?_
  obtain ⟨r33, S32, h31, hf⟩ := bd2_o hf
  refine w_callVi (As := [.int (-2), .int (-1000)]) (rest := []) hX E w (c_X4_refuse l hX h31) (cwV 2 hts gX4_worth_X4_refuse rfl rfl rfl hd_X4_refuse ⟨Nat.le_of_ble_eq_true rfl, Nat.le_of_ble_eq_true rfl⟩) (ci := 4) rfl (cC_at_50 t a S) rfl hl.1 rfl (Nat.le_of_ble_eq_true rfl) dX4_worth_36 ⟨Nat.le_refl _, Nat.le_refl _⟩ (fun H locs w => ?_)
  exact w_reti E w hf dX4_worth_39
set_option maxHeartbeats 4000000 in
set_option maxRecDepth 100000 in
theorem k_X4_worth_E {p : Program} {l : Launch} {e : Env} {s : State} {m : MethodId} {args : Array Value} {below : List Frame} {meth : Method} {c : Code} {D : va_G} {t : Nat → ClassId} {a : Nat → Nat} {X : State → Prop} {N : Nat} {r : Int32} {S' : ST} (hX : XOk (aW 56 a) X) (E : EN p s m args meth c cX4_worth RX4 wsX4_worth (some .int) 5) {S : ST} {x1 : Int32} {x2 : Int32} {H : Heap} {locs : List Loc} {ls : Array Slot} (w : Wd D (cC t a) (aW 56 a) (tyC t) X S s H locs) (hl : lv_has ls 5 [(0, .ref (a 50)), (1, .int x1), (2, .int x2)]) (hf : f_X4_worth N S x1 x2 = some (r, S')) : W p l e rmX4_worth s m args below meth c H locs 0 0 (MQ below (Qi D (cC t a) (aW 56 a) (tyC t) r S') args s 0 0 (aW 56 a)) (F0 m 0 ls []) := by
  obtain ⟨⟨hx, hb, hml, hown, hts⟩, hr, hlk⟩ := id E
  unfold f_X4_worth at hf
  refine lv_aload_n hx hb dX4_worth_0 rfl (lv_at hl 0 rfl) ?_
  refine lv_iload_n hx hb dX4_worth_1 rfl (lv_at hl 1 rfl) ?_
  obtain ⟨r3, S2, h1, hf⟩ := bd2_o hf
  refine w_callVi (As := [.int x1]) (rest := []) hX E w (c_X4_areGoods l hX h1) (cwV 1 hts gX4_worth_X4_areGoods rfl rfl rfl hd_X4_areGoods ⟨Nat.le_of_ble_eq_true rfl, Nat.le_of_ble_eq_true rfl⟩) (ci := 4) rfl (cC_at_50 t a S) rfl hl.1 rfl (Nat.le_of_ble_eq_true rfl) dX4_worth_2 ⟨Nat.le_refl _, Nat.le_refl _⟩ (fun H locs w => ?_)
  refine lv_if_eq (tgt := 30) hx hb dX4_worth_5 (by decide) (fun h4 => ?_) (fun h4 => ?_)
  · replace hf := it_t h4 hf
    exact k_X4_worth_30 hX E w (lv_sub hl [0] rfl) hf
  · replace hf := it_f h4 hf
    refine lv_aload_n hx hb dX4_worth_8 rfl (lv_at hl 0 rfl) ?_
    refine w_get E w in_X4_worth_X4 50 (cC_at_50 t a S2) rfl 0 (by decide) fl_X4_worth_10 rfl rfl dX4_worth_9 ?_
    refine lv_iload_n hx hb dX4_worth_12 rfl (lv_at hl 2 rfl) ?_
    obtain ⟨r7, S6, h5, hf⟩ := bd2_o hf
    refine w_callVi (As := [.int x2]) (rest := []) hX E w (c_X2_hasShop_0 l hX h5) (cwV 1 hts gX4_worth_X2_hasShop rfl rfl rfl hd_X2_hasShop ⟨Nat.le_of_ble_eq_true rfl, Nat.le_of_ble_eq_true rfl⟩) (ci := 2) rfl (cC_at_0 t a S2) rfl hl.1 rfl (Nat.le_of_ble_eq_true rfl) dX4_worth_13 ⟨Nat.le_refl _, Nat.le_refl _⟩ (fun H locs w => ?_)
    refine lv_if_eq (tgt := 30) hx hb dX4_worth_16 (by decide) (fun h8 => ?_) (fun h8 => ?_)
    · replace hf := it_t h8 hf
      exact k_X4_worth_30 hX E w (lv_sub hl [0] rfl) hf
    · replace hf := it_f h8 hf
      refine lv_aload_n hx hb dX4_worth_19 rfl (lv_at hl 0 rfl) ?_
      refine w_get E w in_X4_worth_X4 50 (cC_at_50 t a S6) rfl 0 (by decide) fl_X4_worth_10 rfl rfl dX4_worth_20 ?_
      refine lv_iload_n hx hb dX4_worth_23 rfl (lv_at hl 2 rfl) ?_
      obtain ⟨r11, S10, h9, hf⟩ := bd2_o hf
      refine w_callVi (As := [.int x2]) (rest := []) hX E w (c_X2_isFree_0 l hX h9) (cwV 1 hts gX4_worth_X2_isFree rfl rfl rfl hd_X2_isFree ⟨Nat.le_of_ble_eq_true rfl, Nat.le_of_ble_eq_true rfl⟩) (ci := 2) rfl (cC_at_0 t a S6) rfl hl.1 rfl (Nat.le_of_ble_eq_true rfl) dX4_worth_24 ⟨Nat.le_refl _, Nat.le_refl _⟩ (fun H locs w => ?_)
      refine lv_if_eq (tgt := 40) hx hb dX4_worth_27 (by decide) (fun h12 => ?_) (fun h12 => ?_)
      · replace hf := it_t h12 hf
        refine lv_aload_n hx hb dX4_worth_40 rfl (lv_at hl 0 rfl) ?_
        refine w_get E w in_X4_worth_X4 50 (cC_at_50 t a S10) rfl 4 (by decide) fl_X4_worth_38 rfl rfl dX4_worth_41 ?_
        refine lv_iload_n hx hb dX4_worth_44 rfl (lv_at hl 1 rfl) ?_
        refine lv_aload_n hx hb dX4_worth_45 rfl (lv_at hl 0 rfl) ?_
        refine w_get E w in_X4_worth_X4 50 (cC_at_50 t a S10) rfl 0 (by decide) fl_X4_worth_10 rfl rfl dX4_worth_46 ?_
        refine w_get E w in_X4_worth_X2 0 (cC_at_0 t a S10) rfl 7 (by decide) fl_X4_worth_94 rfl rfl dX4_worth_49 ?_
        refine lv_iconst (v := 0) hx hb dX4_worth_52 (by decide) ?_
        obtain ⟨r15, S14, h13, hf⟩ := bd2_o hf
        refine w_callVi (As := [.int x1, .int (S10 0 7), .int 0]) (rest := []) hX E w (c_X1_findCheapest l hX h13) (cwV 3 hts gX4_worth_X1_findCheapest rfl rfl rfl hd_X1_findCheapest ⟨Nat.le_of_ble_eq_true rfl, Nat.le_of_ble_eq_true rfl⟩) (ci := 1) rfl (cC_at_46 t a S10) rfl hl.1 rfl (Nat.le_of_ble_eq_true rfl) dX4_worth_53 ⟨Nat.le_refl _, Nat.le_refl _⟩ (fun H locs w => ?_)
        refine lv_if_ne (tgt := 69) hx hb dX4_worth_56 (by decide) (fun h16 => ?_) (fun h16 => ?_)
        · replace hf := it_f h16 hf
          refine lv_aload_n hx hb dX4_worth_69 rfl (lv_at hl 0 rfl) ?_
          refine w_get E w in_X4_worth_X4 50 (cC_at_50 t a S14) rfl 4 (by decide) fl_X4_worth_38 rfl rfl dX4_worth_70 ?_
          refine w_get E w in_X4_worth_X1 46 (cC_at_46 t a S14) rfl 8 (by decide) fl_X4_worth_143 rfl rfl dX4_worth_73 ?_
          refine lv_istore_n (lv' := [(3, .int (S14 46 8)), (0, .ref (a 50)), (1, .int x1), (2, .int x2)]) hx hb dX4_worth_76 rfl hl (by decide) rfl (fun ls hl => ?_)
          refine lv_aload_n hx hb dX4_worth_77 rfl (lv_at hl 1 rfl) ?_
          refine w_get E w in_X4_worth_X4 50 (cC_at_50 t a S14) rfl 0 (by decide) fl_X4_worth_10 rfl rfl dX4_worth_78 ?_
          refine lv_iload_n hx hb dX4_worth_81 rfl (lv_at hl 3 rfl) ?_
          refine lv_iconst (v := 1) hx hb dX4_worth_82 (by decide) ?_
          obtain ⟨S18, h17, hf⟩ := bd1_o hf
          refine w_callVv (As := [.int x2, .int 1]) (rest := []) hX E w (c_X2_setFree_0 l hX h17) (cwV 2 hts gX4_worth_X2_setFree rfl rfl rfl hd_X2_setFree ⟨Nat.le_of_ble_eq_true rfl, Nat.le_of_ble_eq_true rfl⟩) (ci := 2) rfl (cC_at_0 t a S14) rfl hl.1 rfl (Nat.le_of_ble_eq_true rfl) dX4_worth_83 ⟨Nat.le_refl _, Nat.le_refl _⟩ (fun H locs w => ?_)
          refine lv_aload_n hx hb dX4_worth_86 rfl (lv_at hl 1 rfl) ?_
          refine w_get E w in_X4_worth_X4 50 (cC_at_50 t a S18) rfl 4 (by decide) fl_X4_worth_38 rfl rfl dX4_worth_87 ?_
          refine lv_iload_n hx hb dX4_worth_90 rfl (lv_at hl 2 rfl) ?_
          refine lv_aload_n hx hb dX4_worth_91 rfl (lv_at hl 1 rfl) ?_
          refine w_get E w in_X4_worth_X4 50 (cC_at_50 t a S18) rfl 0 (by decide) fl_X4_worth_10 rfl rfl dX4_worth_92 ?_
          refine w_get E w in_X4_worth_X2 0 (cC_at_0 t a S18) rfl 7 (by decide) fl_X4_worth_94 rfl rfl dX4_worth_95 ?_
          refine lv_iconst (v := 0) hx hb dX4_worth_98 (by decide) ?_
          obtain ⟨r21, S20, h19, hf⟩ := bd2_o hf
          refine w_callVi (As := [.int x1, .int (S18 0 7), .int 0]) (rest := []) hX E w (c_X1_findCheapest l hX h19) (cwV 3 hts gX4_worth_X1_findCheapest rfl rfl rfl hd_X1_findCheapest ⟨Nat.le_of_ble_eq_true rfl, Nat.le_of_ble_eq_true rfl⟩) (ci := 1) rfl (cC_at_46 t a S18) rfl hl.1 rfl (Nat.le_of_ble_eq_true rfl) dX4_worth_99 ⟨Nat.le_refl _, Nat.le_refl _⟩ (fun H locs w => ?_)
          refine lv_istore (lv' := [(4, .int r21), (3, .int (S14 46 8)), (0, .ref (a 50)), (1, .int x1), (2, .int x2)]) hx hb dX4_worth_102 hl (by decide) rfl (fun ls hl => ?_)
          refine lv_aload_n hx hb dX4_worth_104 rfl (lv_at hl 2 rfl) ?_
          refine w_get E w in_X4_worth_X4 50 (cC_at_50 t a S20) rfl 0 (by decide) fl_X4_worth_10 rfl rfl dX4_worth_105 ?_
          refine lv_iload_n hx hb dX4_worth_108 rfl (lv_at hl 4 rfl) ?_
          refine lv_iconst (v := 0) hx hb dX4_worth_109 (by decide) ?_
          obtain ⟨S23, h22, hf⟩ := bd1_o hf
          refine w_callVv (As := [.int x2, .int 0]) (rest := []) hX E w (c_X2_setFree_0 l hX h22) (cwV 2 hts gX4_worth_X2_setFree rfl rfl rfl hd_X2_setFree ⟨Nat.le_of_ble_eq_true rfl, Nat.le_of_ble_eq_true rfl⟩) (ci := 2) rfl (cC_at_0 t a S20) rfl hl.1 rfl (Nat.le_of_ble_eq_true rfl) dX4_worth_110 ⟨Nat.le_refl _, Nat.le_refl _⟩ (fun H locs w => ?_)
          refine lv_iload hx hb dX4_worth_113 (lv_at hl 0 rfl) ?_
          refine lv_if_eq (tgt := 130) hx hb dX4_worth_115 (by decide) (fun h24 => ?_) (fun h24 => ?_)
          · replace hf := it_t h24 hf
            refine lv_aload_n hx hb dX4_worth_130 rfl (lv_at hl 2 rfl) ?_
            refine lv_bipush (v := (-3)) hx hb dX4_worth_131 (by decide) ?_
            refine lv_sipush (v := (-2000)) hx hb dX4_worth_133 (by decide) ?_
            obtain ⟨r27, S26, h25, hf⟩ := bd2_o hf
            refine w_callVi (As := [.int (-3), .int (-2000)]) (rest := []) hX E w (c_X4_refuse l hX h25) (cwV 2 hts gX4_worth_X4_refuse rfl rfl rfl hd_X4_refuse ⟨Nat.le_of_ble_eq_true rfl, Nat.le_of_ble_eq_true rfl⟩) (ci := 4) rfl (cC_at_50 t a S23) rfl hl.1 rfl (Nat.le_of_ble_eq_true rfl) dX4_worth_136 ⟨Nat.le_refl _, Nat.le_refl _⟩ (fun H locs w => ?_)
            exact w_reti E w hf dX4_worth_139
          · replace hf := it_f h24 hf
            refine lv_iload_n hx hb dX4_worth_118 rfl (lv_at hl 1 rfl) ?_
            refine lv_aload_n hx hb dX4_worth_119 rfl (lv_at hl 2 rfl) ?_
            refine w_get E w in_X4_worth_X4 50 (cC_at_50 t a S23) rfl 4 (by decide) fl_X4_worth_38 rfl rfl dX4_worth_120 ?_
            refine w_get E w in_X4_worth_X1 46 (cC_at_46 t a S23) rfl 8 (by decide) fl_X4_worth_143 rfl rfl dX4_worth_123 ?_
            refine lv_isub hx hb dX4_worth_126 ?_
            refine lv_goto (tgt := 139) hx hb dX4_worth_127 (by decide) ?_
            exact w_reti E w hf dX4_worth_139
        · replace hf := it_t h16 hf
          refine lv_aload_n hx hb dX4_worth_59 rfl (lv_at hl 0 rfl) ?_
          refine lv_bipush (v := (-3)) hx hb dX4_worth_60 (by decide) ?_
          refine lv_sipush (v := (-2000)) hx hb dX4_worth_62 (by decide) ?_
          obtain ⟨r30, S29, h28, hf⟩ := bd2_o hf
          refine w_callVi (As := [.int (-3), .int (-2000)]) (rest := []) hX E w (c_X4_refuse l hX h28) (cwV 2 hts gX4_worth_X4_refuse rfl rfl rfl hd_X4_refuse ⟨Nat.le_of_ble_eq_true rfl, Nat.le_of_ble_eq_true rfl⟩) (ci := 4) rfl (cC_at_50 t a S14) rfl hl.1 rfl (Nat.le_of_ble_eq_true rfl) dX4_worth_65 ⟨Nat.le_refl _, Nat.le_refl _⟩ (fun H locs w => ?_)
          exact w_reti E w hf dX4_worth_68
      · replace hf := it_f h12 hf
        exact k_X4_worth_30 hX E w (lv_sub hl [0] rfl) hf
theorem c_X4_worth (l : Launch) {D : va_G} {t : Nat → ClassId} {a : Nat → Nat} {X : State → Prop} (hX : XOk (aW 56 a) X) {N : Nat} {S : ST} {x1 : Int32} {x2 : Int32} {r : Int32} {S' : ST} (hf : f_X4_worth N S x1 x2 = some (r, S')) : Co l yX4_worth wsX4_worth rmX4_worth D (cC t a) (aW 56 a) (tyC t) X [.ref (a 50), .int x1, .int x2] S (Qi D (cC t a) (aW 56 a) (tyC t) r S') :=
  co_of (cc := cX4_worth) (maxL := 5) (ret := (some .int)) (lv := [(0, .ref (a 50)), (1, .int x1), (2, .int x2)]) (by decide) rfl rfl (Nat.le_of_ble_eq_true rfl) rfl rfl (fun p e s m below meth c ls E hl w => k_X4_worth_E hX E w hl hf)
-- X1_goodsToHave
theorem in_X1_goodsToHave_X1 : ∀ w ∈ u_ws RX1 TX1 12, w ∈ wsX1_goodsToHave := by decide +kernel
theorem fl_X1_goodsToHave_18 : Cond.fieldLink RX1 18 "NextDoor$Search" "street" "LNextDoor$Street;" ∈ wsX1_goodsToHave := by decide +kernel
theorem in_X1_goodsToHave_X2 : ∀ w ∈ u_ws RX2 TX2 16, w ∈ wsX1_goodsToHave := by decide +kernel
theorem fl_X1_goodsToHave_45 : Cond.fieldLink RX1 45 "NextDoor$Street" "shops" "I" ∈ wsX1_goodsToHave := by decide +kernel
theorem fl_X1_goodsToHave_50 : Cond.fieldLink RX1 50 "NextDoor$Street" "purse" "I" ∈ wsX1_goodsToHave := by decide +kernel
abbrev rmX1_goodsToHave : Room := { frames := 13, cells := 0, slots := 0, locals := 382 }
set_option maxHeartbeats 4000000 in
set_option maxRecDepth 100000 in
theorem k_X1_goodsToHave_39 {p : Program} {l : Launch} {e : Env} {s : State} {m : MethodId} {args : Array Value} {below : List Frame} {meth : Method} {c : Code} {D : va_G} {t : Nat → ClassId} {a : Nat → Nat} {X : State → Prop} {N : Nat} {r : Int32} {S' : ST} (hX : XOk (aW 56 a) X) (E : EN p s m args meth c cX1_goodsToHave RX1 wsX1_goodsToHave (some .int) 4) {k4 : ST → Int32 → Int32 → Int32 → Option (Int32 × ST)} (hk4 : ∀ {S : ST} {x1 : Int32} {x2 : Int32} {x3 : Int32} {H : Heap} {locs : List Loc} {ls : Array Slot}, Wd D (cC t a) (aW 56 a) (tyC t) X S s H locs → lv_has ls 4 [(0, .ref (a 46)), (1, .int x1), (2, .int x2), (3, .int x3)] → k4 S x1 x2 x3 = some (r, S') → W p l e rmX1_goodsToHave s m args below meth c H locs 0 0 (MQ below (Qi D (cC t a) (aW 56 a) (tyC t) r S') args s 0 0 (aW 56 a)) (F0 m 4 ls [])) {S : ST} {x1 : Int32} {x2 : Int32} {x3 : Int32} {H : Heap} {locs : List Loc} {ls : Array Slot} (w : Wd D (cC t a) (aW 56 a) (tyC t) X S s H locs) (hl : lv_has ls 4 [(0, .ref (a 46)), (1, .int x1), (2, .int x2), (3, .int x3)]) (hf : b_X1_goodsToHave_39 N k4 S x1 x2 x3 = some (r, S')) : W p l e rmX1_goodsToHave s m args below meth c H locs 0 0 (MQ below (Qi D (cC t a) (aW 56 a) (tyC t) r S') args s 0 0 (aW 56 a)) (F0 m 39 ls []) := by
  obtain ⟨⟨hx, hb, hml, hown, hts⟩, hr, hlk⟩ := id E
  unfold b_X1_goodsToHave_39 at hf
  refine lv_iinc (v := x3 + 1) (lv' := [(3, .int (x3 + 1)), (0, .ref (a 46)), (1, .int x1), (2, .int x2)]) hx hb dX1_goodsToHave_39 hl (k := 3) rfl rfl (by decide) rfl (fun ls hl => ?_)
  refine lv_goto (tgt := 4) hx hb dX1_goodsToHave_42 (by decide) ?_
  exact hk4 w (lv_sub hl [1, 2, 3, 0] rfl) hf
set_option maxHeartbeats 4000000 in
set_option maxRecDepth 100000 in
theorem k_X1_goodsToHave_4 {p : Program} {l : Launch} {e : Env} {s : State} {m : MethodId} {args : Array Value} {below : List Frame} {meth : Method} {c : Code} {D : va_G} {t : Nat → ClassId} {a : Nat → Nat} {X : State → Prop} {N : Nat} {r : Int32} {S' : ST} (hX : XOk (aW 56 a) X) (E : EN p s m args meth c cX1_goodsToHave RX1 wsX1_goodsToHave (some .int) 4) : ∀ (n : Nat) {S : ST} {x1 : Int32} {x2 : Int32} {x3 : Int32} {H : Heap} {locs : List Loc} {ls : Array Slot}, Wd D (cC t a) (aW 56 a) (tyC t) X S s H locs → lv_has ls 4 [(0, .ref (a 46)), (1, .int x1), (2, .int x2), (3, .int x3)] → b_X1_goodsToHave_4 N n S x1 x2 x3 = some (r, S') → W p l e rmX1_goodsToHave s m args below meth c H locs 0 0 (MQ below (Qi D (cC t a) (aW 56 a) (tyC t) r S') args s 0 0 (aW 56 a)) (F0 m 4 ls []) := by
  obtain ⟨⟨hx, hb, hml, hown, hts⟩, hr, hlk⟩ := id E
  intro n
  induction n with
  | zero => intro S x1 x2 x3 H locs ls w hl hf; cases hf
  | succ n ih =>
    intro S x1 x2 x3 H locs ls w hl hf
    unfold b_X1_goodsToHave_4 at hf
    refine lv_iload_n hx hb dX1_goodsToHave_4 rfl (lv_at hl 3 rfl) ?_
    refine lv_aload_n hx hb dX1_goodsToHave_5 rfl (lv_at hl 0 rfl) ?_
    refine w_get E w in_X1_goodsToHave_X1 46 (cC_at_46 t a S) rfl 0 (by decide) fl_X1_goodsToHave_18 rfl rfl dX1_goodsToHave_6 ?_
    refine w_get E w in_X1_goodsToHave_X2 0 (cC_at_0 t a S) rfl 0 (by decide) fl_X1_goodsToHave_45 rfl rfl dX1_goodsToHave_9 ?_
    refine lv_icmp_ge (tgt := 45) hx hb dX1_goodsToHave_12 (by decide) (fun h1 => ?_) (fun h1 => ?_)
    · replace hf := it_t h1 hf
      refine lv_iload_n hx hb dX1_goodsToHave_45 rfl (lv_at hl 2 rfl) ?_
      exact w_reti E w hf dX1_goodsToHave_46
    · replace hf := it_f h1 hf
      refine lv_aload_n hx hb dX1_goodsToHave_15 rfl (lv_at hl 0 rfl) ?_
      refine lv_iconst (v := 1) hx hb dX1_goodsToHave_16 (by decide) ?_
      refine lv_iload_n hx hb dX1_goodsToHave_17 rfl (lv_at hl 3 rfl) ?_
      refine lv_ishl hx hb dX1_goodsToHave_18 ?_
      refine lv_aload_n hx hb dX1_goodsToHave_19 rfl (lv_at hl 0 rfl) ?_
      refine w_get E w in_X1_goodsToHave_X1 46 (cC_at_46 t a S) rfl 0 (by decide) fl_X1_goodsToHave_18 rfl rfl dX1_goodsToHave_20 ?_
      refine w_get E w in_X1_goodsToHave_X2 0 (cC_at_0 t a S) rfl 7 (by decide) fl_X1_goodsToHave_50 rfl rfl dX1_goodsToHave_23 ?_
      refine lv_iload_n hx hb dX1_goodsToHave_26 rfl (lv_at hl 1 rfl) ?_
      obtain ⟨r4, S3, h2, hf⟩ := bd2_o hf
      refine w_callVi (As := [.int (1 <<< (x3 &&& 31)), .int (S 0 7), .int x1]) (rest := []) hX E w (c_X1_findCheapest l hX h2) (cwV 3 hts gX1_goodsToHave_X1_findCheapest rfl rfl rfl hd_X1_findCheapest ⟨Nat.le_of_ble_eq_true rfl, Nat.le_of_ble_eq_true rfl⟩) (ci := 1) rfl (cC_at_46 t a S) rfl hl.1 rfl (Nat.le_of_ble_eq_true rfl) dX1_goodsToHave_27 ⟨Nat.le_refl _, Nat.le_refl _⟩ (fun H locs w => ?_)
      refine lv_if_eq (tgt := 39) hx hb dX1_goodsToHave_30 (by decide) (fun h5 => ?_) (fun h5 => ?_)
      · replace hf := it_t h5 hf
        exact k_X1_goodsToHave_39 hX E (fun w hl hf => ih w hl hf) w (lv_sub hl [0, 1, 2, 3] rfl) hf
      · replace hf := it_f h5 hf
        refine lv_iload_n hx hb dX1_goodsToHave_33 rfl (lv_at hl 2 rfl) ?_
        refine lv_iconst (v := 1) hx hb dX1_goodsToHave_34 (by decide) ?_
        refine lv_iload_n hx hb dX1_goodsToHave_35 rfl (lv_at hl 3 rfl) ?_
        refine lv_ishl hx hb dX1_goodsToHave_36 ?_
        refine lv_ior hx hb dX1_goodsToHave_37 ?_
        refine lv_istore_n (lv' := [(2, .int (x2 ||| (1 <<< (x3 &&& 31)))), (0, .ref (a 46)), (1, .int x1), (3, .int x3)]) hx hb dX1_goodsToHave_38 rfl hl (by decide) rfl (fun ls hl => ?_)
        exact k_X1_goodsToHave_39 hX E (fun w hl hf => ih w hl hf) w (lv_sub hl [1, 2, 0, 3] rfl) hf
set_option maxHeartbeats 4000000 in
set_option maxRecDepth 100000 in
theorem k_X1_goodsToHave_E {p : Program} {l : Launch} {e : Env} {s : State} {m : MethodId} {args : Array Value} {below : List Frame} {meth : Method} {c : Code} {D : va_G} {t : Nat → ClassId} {a : Nat → Nat} {X : State → Prop} {N : Nat} {r : Int32} {S' : ST} (hX : XOk (aW 56 a) X) (E : EN p s m args meth c cX1_goodsToHave RX1 wsX1_goodsToHave (some .int) 4) {S : ST} {x1 : Int32} {H : Heap} {locs : List Loc} {ls : Array Slot} (w : Wd D (cC t a) (aW 56 a) (tyC t) X S s H locs) (hl : lv_has ls 4 [(0, .ref (a 46)), (1, .int x1)]) (hf : f_X1_goodsToHave N S x1 = some (r, S')) : W p l e rmX1_goodsToHave s m args below meth c H locs 0 0 (MQ below (Qi D (cC t a) (aW 56 a) (tyC t) r S') args s 0 0 (aW 56 a)) (F0 m 0 ls []) := by
  obtain ⟨⟨hx, hb, hml, hown, hts⟩, hr, hlk⟩ := id E
  unfold f_X1_goodsToHave at hf
  refine lv_iconst (v := 0) hx hb dX1_goodsToHave_0 (by decide) ?_
  refine lv_istore_n (lv' := [(2, .int 0), (0, .ref (a 46)), (1, .int x1)]) hx hb dX1_goodsToHave_1 rfl hl (by decide) rfl (fun ls hl => ?_)
  refine lv_iconst (v := 0) hx hb dX1_goodsToHave_2 (by decide) ?_
  refine lv_istore_n (lv' := [(3, .int 0), (2, .int 0), (0, .ref (a 46)), (1, .int x1)]) hx hb dX1_goodsToHave_3 rfl hl (by decide) rfl (fun ls hl => ?_)
  exact k_X1_goodsToHave_4 hX E N w (lv_sub hl [2, 3, 1, 0] rfl) hf
theorem c_X1_goodsToHave (l : Launch) {D : va_G} {t : Nat → ClassId} {a : Nat → Nat} {X : State → Prop} (hX : XOk (aW 56 a) X) {N : Nat} {S : ST} {x1 : Int32} {r : Int32} {S' : ST} (hf : f_X1_goodsToHave N S x1 = some (r, S')) : Co l yX1_goodsToHave wsX1_goodsToHave rmX1_goodsToHave D (cC t a) (aW 56 a) (tyC t) X [.ref (a 46), .int x1] S (Qi D (cC t a) (aW 56 a) (tyC t) r S') :=
  co_of (cc := cX1_goodsToHave) (maxL := 4) (ret := (some .int)) (lv := [(0, .ref (a 46)), (1, .int x1)]) (by decide) rfl rfl (Nat.le_of_ble_eq_true rfl) rfl rfl (fun p e s m below meth c ls E hl w => k_X1_goodsToHave_E hX E w hl hf)
-- X4_shutOut
theorem in_X4_shutOut_X4 : ∀ w ∈ u_ws RX4 TX4 9, w ∈ wsX4_shutOut := by decide +kernel
theorem fl_X4_shutOut_10 : Cond.fieldLink RX4 10 "NextDoor" "street" "LNextDoor$Street;" ∈ wsX4_shutOut := by decide +kernel
theorem fl_X4_shutOut_38 : Cond.fieldLink RX4 38 "NextDoor" "search" "LNextDoor$Search;" ∈ wsX4_shutOut := by decide +kernel
theorem hd_X1_goodsToHave : yX1_goodsToHave.cls = RX1 ∧ yX1_goodsToHave.cls ≠ "java/lang/invoke/MethodHandle" ∧ yX1_goodsToHave.cls ≠ "java/lang/invoke/VarHandle" ∧ (parseMethodDescriptor yX1_goodsToHave.desc).map (fun d => d.parameters.length) = some 1 := by decide +kernel
abbrev rmX4_shutOut : Room := { frames := 14, cells := 0, slots := 0, locals := 405 }
set_option maxHeartbeats 4000000 in
set_option maxRecDepth 100000 in
theorem k_X4_shutOut_E {p : Program} {l : Launch} {e : Env} {s : State} {m : MethodId} {args : Array Value} {below : List Frame} {meth : Method} {c : Code} {D : va_G} {t : Nat → ClassId} {a : Nat → Nat} {X : State → Prop} {N : Nat} {r : Int32} {S' : ST} (hX : XOk (aW 56 a) X) (E : EN p s m args meth c cX4_shutOut RX4 wsX4_shutOut (some .int) 2) {S : ST} {x1 : Int32} {H : Heap} {locs : List Loc} {ls : Array Slot} (w : Wd D (cC t a) (aW 56 a) (tyC t) X S s H locs) (hl : lv_has ls 2 [(0, .ref (a 50)), (1, .int x1)]) (hf : f_X4_shutOut N S x1 = some (r, S')) : W p l e rmX4_shutOut s m args below meth c H locs 0 0 (MQ below (Qi D (cC t a) (aW 56 a) (tyC t) r S') args s 0 0 (aW 56 a)) (F0 m 0 ls []) := by
  obtain ⟨⟨hx, hb, hml, hown, hts⟩, hr, hlk⟩ := id E
  unfold f_X4_shutOut at hf
  refine lv_aload_n hx hb dX4_shutOut_0 rfl (lv_at hl 0 rfl) ?_
  refine w_get E w in_X4_shutOut_X4 50 (cC_at_50 t a S) rfl 0 (by decide) fl_X4_shutOut_10 rfl rfl dX4_shutOut_1 ?_
  refine lv_iload_n hx hb dX4_shutOut_4 rfl (lv_at hl 1 rfl) ?_
  obtain ⟨r3, S2, h1, hf⟩ := bd2_o hf
  refine w_callVi (As := [.int x1]) (rest := []) hX E w (c_X2_hasShop_0 l hX h1) (cwV 1 hts gX4_shutOut_X2_hasShop rfl rfl rfl hd_X2_hasShop ⟨Nat.le_of_ble_eq_true rfl, Nat.le_of_ble_eq_true rfl⟩) (ci := 2) rfl (cC_at_0 t a S) rfl hl.1 rfl (Nat.le_of_ble_eq_true rfl) dX4_shutOut_5 ⟨Nat.le_refl _, Nat.le_refl _⟩ (fun H locs w => ?_)
  refine lv_if_ne (tgt := 20) hx hb dX4_shutOut_8 (by decide) (fun h4 => ?_) (fun h4 => ?_)
  · replace hf := it_f h4 hf
    refine lv_aload_n hx hb dX4_shutOut_20 rfl (lv_at hl 0 rfl) ?_
    refine w_get E w in_X4_shutOut_X4 50 (cC_at_50 t a S2) rfl 4 (by decide) fl_X4_shutOut_38 rfl rfl dX4_shutOut_21 ?_
    refine lv_iconst (v := 0) hx hb dX4_shutOut_24 (by decide) ?_
    obtain ⟨r7, S6, h5, hf⟩ := bd2_o hf
    refine w_callVi (As := [.int 0]) (rest := []) hX E w (c_X1_goodsToHave l hX h5) (cwV 1 hts gX4_shutOut_X1_goodsToHave rfl rfl rfl hd_X1_goodsToHave ⟨Nat.le_of_ble_eq_true rfl, Nat.le_of_ble_eq_true rfl⟩) (ci := 1) rfl (cC_at_46 t a S2) rfl hl.1 rfl (Nat.le_of_ble_eq_true rfl) dX4_shutOut_25 ⟨Nat.le_refl _, Nat.le_refl _⟩ (fun H locs w => ?_)
    refine lv_aload_n hx hb dX4_shutOut_28 rfl (lv_at hl 0 rfl) ?_
    refine w_get E w in_X4_shutOut_X4 50 (cC_at_50 t a S6) rfl 4 (by decide) fl_X4_shutOut_38 rfl rfl dX4_shutOut_29 ?_
    refine lv_iconst (v := 1) hx hb dX4_shutOut_32 (by decide) ?_
    refine lv_iload_n hx hb dX4_shutOut_33 rfl (lv_at hl 1 rfl) ?_
    refine lv_ishl hx hb dX4_shutOut_34 ?_
    obtain ⟨r10, S9, h8, hf⟩ := bd2_o hf
    refine w_callVi (As := [.int (1 <<< (x1 &&& 31))]) (rest := [.int r7]) hX E w (c_X1_goodsToHave l hX h8) (cwV 1 hts gX4_shutOut_X1_goodsToHave rfl rfl rfl hd_X1_goodsToHave ⟨Nat.le_of_ble_eq_true rfl, Nat.le_of_ble_eq_true rfl⟩) (ci := 1) rfl (cC_at_46 t a S6) rfl hl.1 rfl (Nat.le_of_ble_eq_true rfl) dX4_shutOut_35 ⟨Nat.le_refl _, Nat.le_refl _⟩ (fun H locs w => ?_)
    refine lv_iconst (v := (-1)) hx hb dX4_shutOut_38 (by decide) ?_
    refine lv_ixor hx hb dX4_shutOut_39 ?_
    refine lv_iand hx hb dX4_shutOut_40 ?_
    exact w_reti E w hf dX4_shutOut_41
  · replace hf := it_t h4 hf
    refine lv_aload_n hx hb dX4_shutOut_11 rfl (lv_at hl 0 rfl) ?_
    refine lv_bipush (v := (-2)) hx hb dX4_shutOut_12 (by decide) ?_
    refine lv_bipush (v := (-2)) hx hb dX4_shutOut_14 (by decide) ?_
    obtain ⟨r13, S12, h11, hf⟩ := bd2_o hf
    refine w_callVi (As := [.int (-2), .int (-2)]) (rest := []) hX E w (c_X4_refuse l hX h11) (cwV 2 hts gX4_shutOut_X4_refuse rfl rfl rfl hd_X4_refuse ⟨Nat.le_of_ble_eq_true rfl, Nat.le_of_ble_eq_true rfl⟩) (ci := 4) rfl (cC_at_50 t a S2) rfl hl.1 rfl (Nat.le_of_ble_eq_true rfl) dX4_shutOut_16 ⟨Nat.le_refl _, Nat.le_refl _⟩ (fun H locs w => ?_)
    exact w_reti E w hf dX4_shutOut_19
theorem c_X4_shutOut (l : Launch) {D : va_G} {t : Nat → ClassId} {a : Nat → Nat} {X : State → Prop} (hX : XOk (aW 56 a) X) {N : Nat} {S : ST} {x1 : Int32} {r : Int32} {S' : ST} (hf : f_X4_shutOut N S x1 = some (r, S')) : Co l yX4_shutOut wsX4_shutOut rmX4_shutOut D (cC t a) (aW 56 a) (tyC t) X [.ref (a 50), .int x1] S (Qi D (cC t a) (aW 56 a) (tyC t) r S') :=
  co_of (cc := cX4_shutOut) (maxL := 2) (ret := (some .int)) (lv := [(0, .ref (a 50)), (1, .int x1)]) (by decide) rfl rfl (Nat.le_of_ble_eq_true rfl) rfl rfl (fun p e s m below meth c ls E hl w => k_X4_shutOut_E hX E w hl hf)
-- X1_canHaveAll
theorem in_X1_canHaveAll_X1 : ∀ w ∈ u_ws RX1 TX1 12, w ∈ wsX1_canHaveAll := by decide +kernel
theorem fl_X1_canHaveAll_18 : Cond.fieldLink RX1 18 "NextDoor$Search" "street" "LNextDoor$Street;" ∈ wsX1_canHaveAll := by decide +kernel
theorem in_X1_canHaveAll_X2 : ∀ w ∈ u_ws RX2 TX2 16, w ∈ wsX1_canHaveAll := by decide +kernel
theorem fl_X1_canHaveAll_45 : Cond.fieldLink RX1 45 "NextDoor$Street" "shops" "I" ∈ wsX1_canHaveAll := by decide +kernel
theorem fl_X1_canHaveAll_50 : Cond.fieldLink RX1 50 "NextDoor$Street" "purse" "I" ∈ wsX1_canHaveAll := by decide +kernel
abbrev rmX1_canHaveAll : Room := { frames := 13, cells := 0, slots := 0, locals := 382 }
set_option maxHeartbeats 4000000 in
set_option maxRecDepth 100000 in
theorem k_X1_canHaveAll_53 {p : Program} {l : Launch} {e : Env} {s : State} {m : MethodId} {args : Array Value} {below : List Frame} {meth : Method} {c : Code} {D : va_G} {t : Nat → ClassId} {a : Nat → Nat} {X : State → Prop} {N : Nat} {r : Int32} {S' : ST} (hX : XOk (aW 56 a) X) (E : EN p s m args meth c cX1_canHaveAll RX1 wsX1_canHaveAll (some .boolean) 5) {k2 : ST → Int32 → Int32 → Int32 → Option (Int32 × ST)} (hk2 : ∀ {S : ST} {x1 : Int32} {x2 : Int32} {x3 : Int32} {H : Heap} {locs : List Loc} {ls : Array Slot}, Wd D (cC t a) (aW 56 a) (tyC t) X S s H locs → lv_has ls 5 [(0, .ref (a 46)), (1, .int x1), (2, .int x2), (3, .int x3)] → k2 S x1 x2 x3 = some (r, S') → W p l e rmX1_canHaveAll s m args below meth c H locs 0 0 (MQ below (Qi D (cC t a) (aW 56 a) (tyC t) r S') args s 0 0 (aW 56 a)) (F0 m 2 ls [])) {S : ST} {x1 : Int32} {x2 : Int32} {x3 : Int32} {H : Heap} {locs : List Loc} {ls : Array Slot} (w : Wd D (cC t a) (aW 56 a) (tyC t) X S s H locs) (hl : lv_has ls 5 [(0, .ref (a 46)), (1, .int x1), (2, .int x2), (3, .int x3)]) (hf : b_X1_canHaveAll_53 N k2 S x1 x2 x3 = some (r, S')) : W p l e rmX1_canHaveAll s m args below meth c H locs 0 0 (MQ below (Qi D (cC t a) (aW 56 a) (tyC t) r S') args s 0 0 (aW 56 a)) (F0 m 53 ls []) := by
  obtain ⟨⟨hx, hb, hml, hown, hts⟩, hr, hlk⟩ := id E
  unfold b_X1_canHaveAll_53 at hf
  refine lv_iinc (v := x3 + 1) (lv' := [(3, .int (x3 + 1)), (0, .ref (a 46)), (1, .int x1), (2, .int x2)]) hx hb dX1_canHaveAll_53 hl (k := 3) rfl rfl (by decide) rfl (fun ls hl => ?_)
  refine lv_goto (tgt := 2) hx hb dX1_canHaveAll_56 (by decide) ?_
  exact hk2 w (lv_sub hl [1, 2, 3, 0] rfl) hf
set_option maxHeartbeats 4000000 in
set_option maxRecDepth 100000 in
theorem k_X1_canHaveAll_26 {p : Program} {l : Launch} {e : Env} {s : State} {m : MethodId} {args : Array Value} {below : List Frame} {meth : Method} {c : Code} {D : va_G} {t : Nat → ClassId} {a : Nat → Nat} {X : State → Prop} {N : Nat} {r : Int32} {S' : ST} (hX : XOk (aW 56 a) X) (E : EN p s m args meth c cX1_canHaveAll RX1 wsX1_canHaveAll (some .boolean) 5) {k2 : ST → Int32 → Int32 → Int32 → Option (Int32 × ST)} (hk2 : ∀ {S : ST} {x1 : Int32} {x2 : Int32} {x3 : Int32} {H : Heap} {locs : List Loc} {ls : Array Slot}, Wd D (cC t a) (aW 56 a) (tyC t) X S s H locs → lv_has ls 5 [(0, .ref (a 46)), (1, .int x1), (2, .int x2), (3, .int x3)] → k2 S x1 x2 x3 = some (r, S') → W p l e rmX1_canHaveAll s m args below meth c H locs 0 0 (MQ below (Qi D (cC t a) (aW 56 a) (tyC t) r S') args s 0 0 (aW 56 a)) (F0 m 2 ls [])) {S : ST} {x1 : Int32} {x2 : Int32} {x3 : Int32} {s0 : Int32} {H : Heap} {locs : List Loc} {ls : Array Slot} (w : Wd D (cC t a) (aW 56 a) (tyC t) X S s H locs) (hl : lv_has ls 5 [(0, .ref (a 46)), (1, .int x1), (2, .int x2), (3, .int x3)]) (hf : b_X1_canHaveAll_26 N k2 S x1 x2 x3 s0 = some (r, S')) : W p l e rmX1_canHaveAll s m args below meth c H locs 0 0 (MQ below (Qi D (cC t a) (aW 56 a) (tyC t) r S') args s 0 0 (aW 56 a)) (F0 m 26 ls [.int s0]) := by
  obtain ⟨⟨hx, hb, hml, hown, hts⟩, hr, hlk⟩ := id E
  unfold b_X1_canHaveAll_26 at hf
  refine lv_istore (lv' := [(4, .int s0), (0, .ref (a 46)), (1, .int x1), (2, .int x2), (3, .int x3)]) hx hb dX1_canHaveAll_26 hl (by decide) rfl (fun ls hl => ?_)
  refine lv_iload hx hb dX1_canHaveAll_28 (lv_at hl 0 rfl) ?_
  refine lv_if_eq (tgt := 53) hx hb dX1_canHaveAll_30 (by decide) (fun h3 => ?_) (fun h3 => ?_)
  · replace hf := it_t h3 hf
    exact k_X1_canHaveAll_53 hX E hk2 w (lv_sub hl [1, 2, 3, 4] rfl) hf
  · replace hf := it_f h3 hf
    refine lv_aload_n hx hb dX1_canHaveAll_33 rfl (lv_at hl 1 rfl) ?_
    refine lv_iconst (v := 1) hx hb dX1_canHaveAll_34 (by decide) ?_
    refine lv_iload_n hx hb dX1_canHaveAll_35 rfl (lv_at hl 4 rfl) ?_
    refine lv_ishl hx hb dX1_canHaveAll_36 ?_
    refine lv_aload_n hx hb dX1_canHaveAll_37 rfl (lv_at hl 1 rfl) ?_
    refine w_get E w in_X1_canHaveAll_X1 46 (cC_at_46 t a S) rfl 0 (by decide) fl_X1_canHaveAll_18 rfl rfl dX1_canHaveAll_38 ?_
    refine w_get E w in_X1_canHaveAll_X2 0 (cC_at_0 t a S) rfl 7 (by decide) fl_X1_canHaveAll_50 rfl rfl dX1_canHaveAll_41 ?_
    refine lv_iload_n hx hb dX1_canHaveAll_44 rfl (lv_at hl 3 rfl) ?_
    obtain ⟨r6, S5, h4, hf⟩ := bd2_o hf
    refine w_callVi (As := [.int (1 <<< (x3 &&& 31)), .int (S 0 7), .int x2]) (rest := []) hX E w (c_X1_findCheapest l hX h4) (cwV 3 hts gX1_canHaveAll_X1_findCheapest rfl rfl rfl hd_X1_findCheapest ⟨Nat.le_of_ble_eq_true rfl, Nat.le_of_ble_eq_true rfl⟩) (ci := 1) rfl (cC_at_46 t a S) rfl hl.1 rfl (Nat.le_of_ble_eq_true rfl) dX1_canHaveAll_45 ⟨Nat.le_refl _, Nat.le_refl _⟩ (fun H locs w => ?_)
    refine lv_if_ne (tgt := 53) hx hb dX1_canHaveAll_48 (by decide) (fun h7 => ?_) (fun h7 => ?_)
    · replace hf := it_f h7 hf
      exact k_X1_canHaveAll_53 hX E hk2 w (lv_sub hl [1, 2, 3, 4] rfl) hf
    · replace hf := it_t h7 hf
      refine lv_iconst (v := 0) hx hb dX1_canHaveAll_51 (by decide) ?_
      exact w_retz E w (by decide) hf dX1_canHaveAll_52
set_option maxHeartbeats 4000000 in
set_option maxRecDepth 100000 in
theorem k_X1_canHaveAll_2 {p : Program} {l : Launch} {e : Env} {s : State} {m : MethodId} {args : Array Value} {below : List Frame} {meth : Method} {c : Code} {D : va_G} {t : Nat → ClassId} {a : Nat → Nat} {X : State → Prop} {N : Nat} {r : Int32} {S' : ST} (hX : XOk (aW 56 a) X) (E : EN p s m args meth c cX1_canHaveAll RX1 wsX1_canHaveAll (some .boolean) 5) : ∀ (n : Nat) {S : ST} {x1 : Int32} {x2 : Int32} {x3 : Int32} {H : Heap} {locs : List Loc} {ls : Array Slot}, Wd D (cC t a) (aW 56 a) (tyC t) X S s H locs → lv_has ls 5 [(0, .ref (a 46)), (1, .int x1), (2, .int x2), (3, .int x3)] → b_X1_canHaveAll_2 N n S x1 x2 x3 = some (r, S') → W p l e rmX1_canHaveAll s m args below meth c H locs 0 0 (MQ below (Qi D (cC t a) (aW 56 a) (tyC t) r S') args s 0 0 (aW 56 a)) (F0 m 2 ls []) := by
  obtain ⟨⟨hx, hb, hml, hown, hts⟩, hr, hlk⟩ := id E
  intro n
  induction n with
  | zero => intro S x1 x2 x3 H locs ls w hl hf; cases hf
  | succ n ih =>
    intro S x1 x2 x3 H locs ls w hl hf
    unfold b_X1_canHaveAll_2 at hf
    refine lv_iload_n hx hb dX1_canHaveAll_2 rfl (lv_at hl 3 rfl) ?_
    refine lv_aload_n hx hb dX1_canHaveAll_3 rfl (lv_at hl 0 rfl) ?_
    refine w_get E w in_X1_canHaveAll_X1 46 (cC_at_46 t a S) rfl 0 (by decide) fl_X1_canHaveAll_18 rfl rfl dX1_canHaveAll_4 ?_
    refine w_get E w in_X1_canHaveAll_X2 0 (cC_at_0 t a S) rfl 0 (by decide) fl_X1_canHaveAll_45 rfl rfl dX1_canHaveAll_7 ?_
    refine lv_icmp_ge (tgt := 59) hx hb dX1_canHaveAll_10 (by decide) (fun h1 => ?_) (fun h1 => ?_)
    · replace hf := it_t h1 hf
      refine lv_iconst (v := 1) hx hb dX1_canHaveAll_59 (by decide) ?_
      exact w_retz E w (by decide) hf dX1_canHaveAll_60
    · replace hf := it_f h1 hf
      refine lv_iload_n hx hb dX1_canHaveAll_13 rfl (lv_at hl 1 rfl) ?_
      refine lv_iload_n hx hb dX1_canHaveAll_14 rfl (lv_at hl 3 rfl) ?_
      refine lv_ishr hx hb dX1_canHaveAll_15 ?_
      refine lv_iconst (v := 1) hx hb dX1_canHaveAll_16 (by decide) ?_
      refine lv_iand hx hb dX1_canHaveAll_17 ?_
      refine lv_if_eq (tgt := 25) hx hb dX1_canHaveAll_18 (by decide) (fun h2 => ?_) (fun h2 => ?_)
      · replace hf := it_t h2 hf
        refine lv_iconst (v := 0) hx hb dX1_canHaveAll_25 (by decide) ?_
        exact k_X1_canHaveAll_26 hX E (fun w hl hf => ih w hl hf) w (lv_sub hl [0, 1, 2, 3] rfl) hf
      · replace hf := it_f h2 hf
        refine lv_iconst (v := 1) hx hb dX1_canHaveAll_21 (by decide) ?_
        refine lv_goto (tgt := 26) hx hb dX1_canHaveAll_22 (by decide) ?_
        exact k_X1_canHaveAll_26 hX E (fun w hl hf => ih w hl hf) w (lv_sub hl [0, 1, 2, 3] rfl) hf
set_option maxHeartbeats 4000000 in
set_option maxRecDepth 100000 in
theorem k_X1_canHaveAll_E {p : Program} {l : Launch} {e : Env} {s : State} {m : MethodId} {args : Array Value} {below : List Frame} {meth : Method} {c : Code} {D : va_G} {t : Nat → ClassId} {a : Nat → Nat} {X : State → Prop} {N : Nat} {r : Int32} {S' : ST} (hX : XOk (aW 56 a) X) (E : EN p s m args meth c cX1_canHaveAll RX1 wsX1_canHaveAll (some .boolean) 5) {S : ST} {x1 : Int32} {x2 : Int32} {H : Heap} {locs : List Loc} {ls : Array Slot} (w : Wd D (cC t a) (aW 56 a) (tyC t) X S s H locs) (hl : lv_has ls 5 [(0, .ref (a 46)), (1, .int x1), (2, .int x2)]) (hf : f_X1_canHaveAll N S x1 x2 = some (r, S')) : W p l e rmX1_canHaveAll s m args below meth c H locs 0 0 (MQ below (Qi D (cC t a) (aW 56 a) (tyC t) r S') args s 0 0 (aW 56 a)) (F0 m 0 ls []) := by
  obtain ⟨⟨hx, hb, hml, hown, hts⟩, hr, hlk⟩ := id E
  unfold f_X1_canHaveAll at hf
  refine lv_iconst (v := 0) hx hb dX1_canHaveAll_0 (by decide) ?_
  refine lv_istore_n (lv' := [(3, .int 0), (0, .ref (a 46)), (1, .int x1), (2, .int x2)]) hx hb dX1_canHaveAll_1 rfl hl (by decide) rfl (fun ls hl => ?_)
  exact k_X1_canHaveAll_2 hX E N w (lv_sub hl [1, 2, 3, 0] rfl) hf
theorem c_X1_canHaveAll (l : Launch) {D : va_G} {t : Nat → ClassId} {a : Nat → Nat} {X : State → Prop} (hX : XOk (aW 56 a) X) {N : Nat} {S : ST} {x1 : Int32} {x2 : Int32} {r : Int32} {S' : ST} (hf : f_X1_canHaveAll N S x1 x2 = some (r, S')) : Co l yX1_canHaveAll wsX1_canHaveAll rmX1_canHaveAll D (cC t a) (aW 56 a) (tyC t) X [.ref (a 46), .int x1, .int x2] S (Qi D (cC t a) (aW 56 a) (tyC t) r S') :=
  co_of (cc := cX1_canHaveAll) (maxL := 5) (ret := (some .boolean)) (lv := [(0, .ref (a 46)), (1, .int x1), (2, .int x2)]) (by decide) rfl rfl (Nat.le_of_ble_eq_true rfl) rfl rfl (fun p e s m below meth c ls E hl w => k_X1_canHaveAll_E hX E w hl hf)
-- X4_areMended
theorem in_X4_areMended_X4 : ∀ w ∈ u_ws RX4 TX4 9, w ∈ wsX4_areMended := by decide +kernel
theorem fl_X4_areMended_38 : Cond.fieldLink RX4 38 "NextDoor" "search" "LNextDoor$Search;" ∈ wsX4_areMended := by decide +kernel
theorem hd_X1_canHaveAll : yX1_canHaveAll.cls = RX1 ∧ yX1_canHaveAll.cls ≠ "java/lang/invoke/MethodHandle" ∧ yX1_canHaveAll.cls ≠ "java/lang/invoke/VarHandle" ∧ (parseMethodDescriptor yX1_canHaveAll.desc).map (fun d => d.parameters.length) = some 2 := by decide +kernel
theorem fl_X4_areMended_10 : Cond.fieldLink RX4 10 "NextDoor" "street" "LNextDoor$Street;" ∈ wsX4_areMended := by decide +kernel
theorem in_X4_areMended_X2 : ∀ w ∈ u_ws RX2 TX2 16, w ∈ wsX4_areMended := by decide +kernel
theorem fl_X4_areMended_67 : Cond.fieldLink RX4 67 "NextDoor$Street" "shops" "I" ∈ wsX4_areMended := by decide +kernel
theorem hd_X4_areMended : yX4_areMended.cls = RX4 ∧ yX4_areMended.cls ≠ "java/lang/invoke/MethodHandle" ∧ yX4_areMended.cls ≠ "java/lang/invoke/VarHandle" ∧ (parseMethodDescriptor yX4_areMended.desc).map (fun d => d.parameters.length) = some 4 := by decide +kernel
def rmX4_areMended (d : Nat) : Room := { frames := d + 15, cells := 0, slots := 0, locals := 34 * d + 466 }
set_option maxHeartbeats 4000000 in
set_option maxRecDepth 100000 in
theorem k_X4_areMended_145 {p : Program} {l : Launch} {e : Env} {s : State} {m : MethodId} {args : Array Value} {below : List Frame} {meth : Method} {c : Code} {D : va_G} {t : Nat → ClassId} {a : Nat → Nat} {X : State → Prop} {N : Nat} {d : Nat} {rc : ST → Int32 → Int32 → Int32 → Int32 → Option (Int32 × ST)} {r : Int32} {S' : ST} (hX : XOk (aW 56 a) X) (E : EN p s m args meth c cX4_areMended RX4 wsX4_areMended (some .boolean) 10) {k23 : ST → Int32 → Int32 → Int32 → Int32 → Int32 → Option (Int32 × ST)} (hrec : ∀ {S : ST} {x1 : Int32} {x2 : Int32} {x3 : Int32} {x4 : Int32} {r : Int32} {S' : ST}, rc S x1 x2 x3 x4 = some (r, S') → Co l yX4_areMended wsX4_areMended (rmX4_areMended d) D (cC t a) (aW 56 a) (tyC t) X [.ref (a 50), .int x1, .int x2, .int x3, .int x4] S (Qi D (cC t a) (aW 56 a) (tyC t) r S')) (hk23 : ∀ {S : ST} {x1 : Int32} {x2 : Int32} {x3 : Int32} {x5 : Int32} {x6 : Int32} {H : Heap} {locs : List Loc} {ls : Array Slot}, Wd D (cC t a) (aW 56 a) (tyC t) X S s H locs → lv_has ls 10 [(0, .ref (a 50)), (1, .int x1), (2, .int x2), (3, .int x3), (5, .int x5), (6, .int x6)] → k23 S x1 x2 x3 x5 x6 = some (r, S') → W p l e (rmX4_areMended (d + 1)) s m args below meth c H locs 0 0 (MQ below (Qi D (cC t a) (aW 56 a) (tyC t) r S') args s 0 0 (aW 56 a)) (F0 m 23 ls [])) {S : ST} {x1 : Int32} {x2 : Int32} {x3 : Int32} {x5 : Int32} {x6 : Int32} {H : Heap} {locs : List Loc} {ls : Array Slot} (w : Wd D (cC t a) (aW 56 a) (tyC t) X S s H locs) (hl : lv_has ls 10 [(0, .ref (a 50)), (1, .int x1), (2, .int x2), (3, .int x3), (5, .int x5), (6, .int x6)]) (hf : b_X4_areMended_145 N rc k23 S x1 x2 x3 x5 x6 = some (r, S')) : W p l e (rmX4_areMended (d + 1)) s m args below meth c H locs 0 0 (MQ below (Qi D (cC t a) (aW 56 a) (tyC t) r S') args s 0 0 (aW 56 a)) (F0 m 145 ls []) := by
  obtain ⟨⟨hx, hb, hml, hown, hts⟩, hr, hlk⟩ := id E
  unfold b_X4_areMended_145 at hf
  refine lv_iinc (v := x6 + 1) (lv' := [(6, .int (x6 + 1)), (0, .ref (a 50)), (1, .int x1), (2, .int x2), (3, .int x3), (5, .int x5)]) hx hb dX4_areMended_145 hl (k := 5) rfl rfl (by decide) rfl (fun ls hl => ?_)
  refine lv_goto (tgt := 23) hx hb dX4_areMended_148 (by decide) ?_
  exact hk23 w (lv_sub hl [1, 2, 3, 4, 5, 0] rfl) hf
set_option maxHeartbeats 4000000 in
set_option maxRecDepth 100000 in
theorem k_X4_areMended_99 {p : Program} {l : Launch} {e : Env} {s : State} {m : MethodId} {args : Array Value} {below : List Frame} {meth : Method} {c : Code} {D : va_G} {t : Nat → ClassId} {a : Nat → Nat} {X : State → Prop} {N : Nat} {d : Nat} {rc : ST → Int32 → Int32 → Int32 → Int32 → Option (Int32 × ST)} {r : Int32} {S' : ST} (hX : XOk (aW 56 a) X) (E : EN p s m args meth c cX4_areMended RX4 wsX4_areMended (some .boolean) 10) {k23 : ST → Int32 → Int32 → Int32 → Int32 → Int32 → Option (Int32 × ST)} (hrec : ∀ {S : ST} {x1 : Int32} {x2 : Int32} {x3 : Int32} {x4 : Int32} {r : Int32} {S' : ST}, rc S x1 x2 x3 x4 = some (r, S') → Co l yX4_areMended wsX4_areMended (rmX4_areMended d) D (cC t a) (aW 56 a) (tyC t) X [.ref (a 50), .int x1, .int x2, .int x3, .int x4] S (Qi D (cC t a) (aW 56 a) (tyC t) r S')) (hk23 : ∀ {S : ST} {x1 : Int32} {x2 : Int32} {x3 : Int32} {x5 : Int32} {x6 : Int32} {H : Heap} {locs : List Loc} {ls : Array Slot}, Wd D (cC t a) (aW 56 a) (tyC t) X S s H locs → lv_has ls 10 [(0, .ref (a 50)), (1, .int x1), (2, .int x2), (3, .int x3), (5, .int x5), (6, .int x6)] → k23 S x1 x2 x3 x5 x6 = some (r, S') → W p l e (rmX4_areMended (d + 1)) s m args below meth c H locs 0 0 (MQ below (Qi D (cC t a) (aW 56 a) (tyC t) r S') args s 0 0 (aW 56 a)) (F0 m 23 ls [])) {S : ST} {x1 : Int32} {x2 : Int32} {x3 : Int32} {x5 : Int32} {x6 : Int32} {x7 : Int32} {x8 : Int32} {s0 : Int32} {H : Heap} {locs : List Loc} {ls : Array Slot} (w : Wd D (cC t a) (aW 56 a) (tyC t) X S s H locs) (hl : lv_has ls 10 [(0, .ref (a 50)), (1, .int x1), (2, .int x2), (3, .int x3), (5, .int x5), (6, .int x6), (7, .int x7), (8, .int x8)]) (hf : b_X4_areMended_99 N rc k23 S x1 x2 x3 x5 x6 x7 x8 s0 = some (r, S')) : W p l e (rmX4_areMended (d + 1)) s m args below meth c H locs 0 0 (MQ below (Qi D (cC t a) (aW 56 a) (tyC t) r S') args s 0 0 (aW 56 a)) (F0 m 99 ls [.int s0]) := by
  obtain ⟨⟨hx, hb, hml, hown, hts⟩, hr, hlk⟩ := id E
  unfold b_X4_areMended_99 at hf
  refine lv_istore (lv' := [(9, .int s0), (0, .ref (a 50)), (1, .int x1), (2, .int x2), (3, .int x3), (5, .int x5), (6, .int x6), (7, .int x7), (8, .int x8)]) hx hb dX4_areMended_99 hl (by decide) rfl (fun ls hl => ?_)
  refine lv_iload hx hb dX4_areMended_101 (lv_at hl 0 rfl) ?_
  refine lv_if_eq (tgt := 145) hx hb dX4_areMended_103 (by decide) (fun h18 => ?_) (fun h18 => ?_)
  · replace hf := it_t h18 hf
    exact k_X4_areMended_145 hX E hrec hk23 w (lv_sub hl [1, 2, 3, 4, 5, 6] rfl) hf
  · replace hf := it_f h18 hf
    refine lv_aload_n hx hb dX4_areMended_106 rfl (lv_at hl 1 rfl) ?_
    refine w_get E w in_X4_areMended_X4 50 (cC_at_50 t a S) rfl 0 (by decide) fl_X4_areMended_10 rfl rfl dX4_areMended_107 ?_
    refine lv_iload hx hb dX4_areMended_110 (lv_at hl 7 rfl) ?_
    refine lv_iload hx hb dX4_areMended_112 (lv_at hl 8 rfl) ?_
    refine lv_iconst (v := 1) hx hb dX4_areMended_114 (by decide) ?_
    obtain ⟨S20, h19, hf⟩ := bd1_o hf
    refine w_callVv (As := [.int x7, .int x8, .int 1]) (rest := []) hX E w (c_X2_setNear_0 l hX h19) (cwV 3 hts gX4_areMended_X2_setNear rfl rfl rfl hd_X2_setNear ⟨by simp only [rmX4_areMended, rmX2_setNear_0]; omega, by simp only [rmX4_areMended, rmX2_setNear_0]; omega⟩) (ci := 2) rfl (cC_at_0 t a S) rfl hl.1 rfl (Nat.le_of_ble_eq_true rfl) dX4_areMended_115 ⟨Nat.le_refl _, Nat.le_refl _⟩ (fun H locs w => ?_)
    refine lv_aload_n hx hb dX4_areMended_118 rfl (lv_at hl 1 rfl) ?_
    refine lv_iload_n hx hb dX4_areMended_119 rfl (lv_at hl 2 rfl) ?_
    refine lv_iload_n hx hb dX4_areMended_120 rfl (lv_at hl 3 rfl) ?_
    refine lv_iload_n hx hb dX4_areMended_121 rfl (lv_at hl 4 rfl) ?_
    refine lv_iconst (v := 1) hx hb dX4_areMended_122 (by decide) ?_
    refine lv_isub hx hb dX4_areMended_123 ?_
    refine lv_iload hx hb dX4_areMended_124 (lv_at hl 6 rfl) ?_
    refine lv_iconst (v := 1) hx hb dX4_areMended_126 (by decide) ?_
    refine lv_iadd hx hb dX4_areMended_127 ?_
    obtain ⟨r23, S22, h21, hf⟩ := bd2_o hf
    refine w_callVi (As := [.int x1, .int x2, .int (x3 - 1), .int (x6 + 1)]) (rest := []) hX E w (hrec h21) (cwV 4 hts gX4_areMended_X4_areMended rfl rfl rfl hd_X4_areMended ⟨by simp only [rmX4_areMended]; omega, by simp only [rmX4_areMended]; omega⟩) (ci := 4) rfl (cC_at_50 t a S20) rfl hl.1 rfl (Nat.le_of_ble_eq_true rfl) dX4_areMended_128 ⟨Nat.le_refl _, Nat.le_refl _⟩ (fun H locs w => ?_)
    refine lv_istore (lv' := [(5, .int r23), (9, .int s0), (0, .ref (a 50)), (1, .int x1), (2, .int x2), (3, .int x3), (6, .int x6), (7, .int x7), (8, .int x8)]) hx hb dX4_areMended_131 hl (by decide) rfl (fun ls hl => ?_)
    refine lv_aload_n hx hb dX4_areMended_133 rfl (lv_at hl 2 rfl) ?_
    refine w_get E w in_X4_areMended_X4 50 (cC_at_50 t a S22) rfl 0 (by decide) fl_X4_areMended_10 rfl rfl dX4_areMended_134 ?_
    refine lv_iload hx hb dX4_areMended_137 (lv_at hl 7 rfl) ?_
    refine lv_iload hx hb dX4_areMended_139 (lv_at hl 8 rfl) ?_
    refine lv_iconst (v := 0) hx hb dX4_areMended_141 (by decide) ?_
    obtain ⟨S25, h24, hf⟩ := bd1_o hf
    refine w_callVv (As := [.int x7, .int x8, .int 0]) (rest := []) hX E w (c_X2_setNear_0 l hX h24) (cwV 3 hts gX4_areMended_X2_setNear rfl rfl rfl hd_X2_setNear ⟨by simp only [rmX4_areMended, rmX2_setNear_0]; omega, by simp only [rmX4_areMended, rmX2_setNear_0]; omega⟩) (ci := 2) rfl (cC_at_0 t a S22) rfl hl.1 rfl (Nat.le_of_ble_eq_true rfl) dX4_areMended_142 ⟨Nat.le_refl _, Nat.le_refl _⟩ (fun H locs w => ?_)
    exact k_X4_areMended_145 hX E hrec hk23 w (lv_sub hl [2, 3, 4, 5, 0, 6] rfl) hf
set_option maxHeartbeats 4000000 in
set_option maxRecDepth 100000 in
theorem k_X4_areMended_98 {p : Program} {l : Launch} {e : Env} {s : State} {m : MethodId} {args : Array Value} {below : List Frame} {meth : Method} {c : Code} {D : va_G} {t : Nat → ClassId} {a : Nat → Nat} {X : State → Prop} {N : Nat} {d : Nat} {rc : ST → Int32 → Int32 → Int32 → Int32 → Option (Int32 × ST)} {r : Int32} {S' : ST} (hX : XOk (aW 56 a) X) (E : EN p s m args meth c cX4_areMended RX4 wsX4_areMended (some .boolean) 10) {k23 : ST → Int32 → Int32 → Int32 → Int32 → Int32 → Option (Int32 × ST)} (hrec : ∀ {S : ST} {x1 : Int32} {x2 : Int32} {x3 : Int32} {x4 : Int32} {r : Int32} {S' : ST}, rc S x1 x2 x3 x4 = some (r, S') → Co l yX4_areMended wsX4_areMended (rmX4_areMended d) D (cC t a) (aW 56 a) (tyC t) X [.ref (a 50), .int x1, .int x2, .int x3, .int x4] S (Qi D (cC t a) (aW 56 a) (tyC t) r S')) (hk23 : ∀ {S : ST} {x1 : Int32} {x2 : Int32} {x3 : Int32} {x5 : Int32} {x6 : Int32} {H : Heap} {locs : List Loc} {ls : Array Slot}, Wd D (cC t a) (aW 56 a) (tyC t) X S s H locs → lv_has ls 10 [(0, .ref (a 50)), (1, .int x1), (2, .int x2), (3, .int x3), (5, .int x5), (6, .int x6)] → k23 S x1 x2 x3 x5 x6 = some (r, S') → W p l e (rmX4_areMended (d + 1)) s m args below meth c H locs 0 0 (MQ below (Qi D (cC t a) (aW 56 a) (tyC t) r S') args s 0 0 (aW 56 a)) (F0 m 23 ls [])) {S : ST} {x1 : Int32} {x2 : Int32} {x3 : Int32} {x5 : Int32} {x6 : Int32} {x7 : Int32} {x8 : Int32} {H : Heap} {locs : List Loc} {ls : Array Slot} (w : Wd D (cC t a) (aW 56 a) (tyC t) X S s H locs) (hl : lv_has ls 10 [(0, .ref (a 50)), (1, .int x1), (2, .int x2), (3, .int x3), (5, .int x5), (6, .int x6), (7, .int x7), (8, .int x8)]) (hf : b_X4_areMended_98 N rc k23 S x1 x2 x3 x5 x6 x7 x8 = some (r, S')) : W p l e (rmX4_areMended (d + 1)) s m args below meth c H locs 0 0 (MQ below (Qi D (cC t a) (aW 56 a) (tyC t) r S') args s 0 0 (aW 56 a)) (F0 m 98 ls []) := by
  obtain ⟨⟨hx, hb, hml, hown, hts⟩, hr, hlk⟩ := id E
  unfold b_X4_areMended_98 at hf
  refine lv_iconst (v := 0) hx hb dX4_areMended_98 (by decide) ?_
  exact k_X4_areMended_99 hX E hrec hk23 w (lv_sub hl [0, 1, 2, 3, 4, 5, 6, 7] rfl) hf
set_option maxHeartbeats 4000000 in
set_option maxRecDepth 100000 in
theorem k_X4_areMended_23 {p : Program} {l : Launch} {e : Env} {s : State} {m : MethodId} {args : Array Value} {below : List Frame} {meth : Method} {c : Code} {D : va_G} {t : Nat → ClassId} {a : Nat → Nat} {X : State → Prop} {N : Nat} {d : Nat} {rc : ST → Int32 → Int32 → Int32 → Int32 → Option (Int32 × ST)} {r : Int32} {S' : ST} (hX : XOk (aW 56 a) X) (E : EN p s m args meth c cX4_areMended RX4 wsX4_areMended (some .boolean) 10) (hrec : ∀ {S : ST} {x1 : Int32} {x2 : Int32} {x3 : Int32} {x4 : Int32} {r : Int32} {S' : ST}, rc S x1 x2 x3 x4 = some (r, S') → Co l yX4_areMended wsX4_areMended (rmX4_areMended d) D (cC t a) (aW 56 a) (tyC t) X [.ref (a 50), .int x1, .int x2, .int x3, .int x4] S (Qi D (cC t a) (aW 56 a) (tyC t) r S')) : ∀ (n : Nat) {S : ST} {x1 : Int32} {x2 : Int32} {x3 : Int32} {x5 : Int32} {x6 : Int32} {H : Heap} {locs : List Loc} {ls : Array Slot}, Wd D (cC t a) (aW 56 a) (tyC t) X S s H locs → lv_has ls 10 [(0, .ref (a 50)), (1, .int x1), (2, .int x2), (3, .int x3), (5, .int x5), (6, .int x6)] → b_X4_areMended_23 N rc n S x1 x2 x3 x5 x6 = some (r, S') → W p l e (rmX4_areMended (d + 1)) s m args below meth c H locs 0 0 (MQ below (Qi D (cC t a) (aW 56 a) (tyC t) r S') args s 0 0 (aW 56 a)) (F0 m 23 ls []) := by
  obtain ⟨⟨hx, hb, hml, hown, hts⟩, hr, hlk⟩ := id E
  intro n
  induction n with
  | zero => intro S x1 x2 x3 x5 x6 H locs ls w hl hf; cases hf
  | succ n ih =>
    intro S x1 x2 x3 x5 x6 H locs ls w hl hf
    unfold b_X4_areMended_23 at hf
    refine lv_iload hx hb dX4_areMended_23 (lv_at hl 5 rfl) ?_
    refine lv_bipush (v := 36) hx hb dX4_areMended_25 (by decide) ?_
    refine lv_icmp_ge (tgt := 151) hx hb dX4_areMended_27 (by decide) (fun h6 => ?_) (fun h6 => ?_)
    · replace hf := it_t h6 hf
      refine lv_iload hx hb dX4_areMended_151 (lv_at hl 4 rfl) ?_
      obtain ⟨h7, hf⟩ := it_s hf
      exact w_retz E w h7 hf dX4_areMended_153
    · replace hf := it_f h6 hf
      refine lv_iload hx hb dX4_areMended_30 (lv_at hl 4 rfl) ?_
      refine lv_if_ne (tgt := 151) hx hb dX4_areMended_32 (by decide) (fun h8 => ?_) (fun h8 => ?_)
      · replace hf := it_f h8 hf
        refine lv_iload hx hb dX4_areMended_151 (lv_at hl 4 rfl) ?_
        obtain ⟨h9, hf⟩ := it_s hf
        exact w_retz E w h9 hf dX4_areMended_153
      · replace hf := it_t h8 hf
        refine lv_iload hx hb dX4_areMended_35 (lv_at hl 5 rfl) ?_
        refine lv_bipush (v := 6) hx hb dX4_areMended_37 (by decide) ?_
        refine lv_idiv hx hb dX4_areMended_39 (by decide) ?_
        refine lv_istore (lv' := [(7, .int (x6 / 6)), (0, .ref (a 50)), (1, .int x1), (2, .int x2), (3, .int x3), (5, .int x5), (6, .int x6)]) hx hb dX4_areMended_40 hl (by decide) rfl (fun ls hl => ?_)
        refine lv_iload hx hb dX4_areMended_42 (lv_at hl 6 rfl) ?_
        refine lv_bipush (v := 6) hx hb dX4_areMended_44 (by decide) ?_
        refine lv_irem hx hb dX4_areMended_46 (by decide) ?_
        refine lv_istore (lv' := [(8, .int (x6 - x6 / 6 * 6)), (7, .int (x6 / 6)), (0, .ref (a 50)), (1, .int x1), (2, .int x2), (3, .int x3), (5, .int x5), (6, .int x6)]) hx hb dX4_areMended_47 hl (by decide) rfl (fun ls hl => ?_)
        refine lv_iload hx hb dX4_areMended_49 (lv_at hl 1 rfl) ?_
        refine lv_iload hx hb dX4_areMended_51 (lv_at hl 0 rfl) ?_
        refine lv_icmp_ge (tgt := 98) hx hb dX4_areMended_53 (by decide) (fun h10 => ?_) (fun h10 => ?_)
        · replace hf := it_t h10 hf
          exact k_X4_areMended_98 hX E hrec (fun w hl hf => ih w hl hf) w (lv_sub hl [2, 3, 4, 5, 6, 7, 1, 0] rfl) hf
        · replace hf := it_f h10 hf
          refine lv_iload hx hb dX4_areMended_56 (lv_at hl 0 rfl) ?_
          refine lv_aload_n hx hb dX4_areMended_58 rfl (lv_at hl 2 rfl) ?_
          refine w_get E w in_X4_areMended_X4 50 (cC_at_50 t a S) rfl 0 (by decide) fl_X4_areMended_10 rfl rfl dX4_areMended_59 ?_
          refine w_get E w in_X4_areMended_X2 0 (cC_at_0 t a S) rfl 0 (by decide) fl_X4_areMended_67 rfl rfl dX4_areMended_62 ?_
          refine lv_icmp_ge (tgt := 98) hx hb dX4_areMended_65 (by decide) (fun h11 => ?_) (fun h11 => ?_)
          · replace hf := it_t h11 hf
            exact k_X4_areMended_98 hX E hrec (fun w hl hf => ih w hl hf) w (lv_sub hl [2, 3, 4, 5, 6, 7, 1, 0] rfl) hf
          · replace hf := it_f h11 hf
            refine lv_iload hx hb dX4_areMended_68 (lv_at hl 1 rfl) ?_
            refine lv_iload_n hx hb dX4_areMended_70 rfl (lv_at hl 4 rfl) ?_
            refine lv_icmp_eq (tgt := 98) hx hb dX4_areMended_71 (by decide) (fun h12 => ?_) (fun h12 => ?_)
            · replace hf := it_t h12 hf
              exact k_X4_areMended_98 hX E hrec (fun w hl hf => ih w hl hf) w (lv_sub hl [2, 3, 4, 5, 6, 7, 1, 0] rfl) hf
            · replace hf := it_f h12 hf
              refine lv_iload hx hb dX4_areMended_74 (lv_at hl 0 rfl) ?_
              refine lv_iload_n hx hb dX4_areMended_76 rfl (lv_at hl 4 rfl) ?_
              refine lv_icmp_eq (tgt := 98) hx hb dX4_areMended_77 (by decide) (fun h13 => ?_) (fun h13 => ?_)
              · replace hf := it_t h13 hf
                exact k_X4_areMended_98 hX E hrec (fun w hl hf => ih w hl hf) w (lv_sub hl [2, 3, 4, 5, 6, 7, 1, 0] rfl) hf
              · replace hf := it_f h13 hf
                refine lv_aload_n hx hb dX4_areMended_80 rfl (lv_at hl 2 rfl) ?_
                refine w_get E w in_X4_areMended_X4 50 (cC_at_50 t a S) rfl 0 (by decide) fl_X4_areMended_10 rfl rfl dX4_areMended_81 ?_
                refine lv_iload hx hb dX4_areMended_84 (lv_at hl 1 rfl) ?_
                refine lv_iload hx hb dX4_areMended_86 (lv_at hl 0 rfl) ?_
                obtain ⟨r16, S15, h14, hf⟩ := bd2_o hf
                refine w_callVi (As := [.int (x6 / 6), .int (x6 - x6 / 6 * 6)]) (rest := []) hX E w (c_X2_areNear_0 l hX h14) (cwV 2 hts gX4_areMended_X2_areNear rfl rfl rfl hd_X2_areNear ⟨by simp only [rmX4_areMended, rmX2_areNear_0]; omega, by simp only [rmX4_areMended, rmX2_areNear_0]; omega⟩) (ci := 2) rfl (cC_at_0 t a S) rfl hl.1 rfl (Nat.le_of_ble_eq_true rfl) dX4_areMended_88 ⟨Nat.le_refl _, Nat.le_refl _⟩ (fun H locs w => ?_)
                refine lv_if_ne (tgt := 98) hx hb dX4_areMended_91 (by decide) (fun h17 => ?_) (fun h17 => ?_)
                · replace hf := it_f h17 hf
                  exact k_X4_areMended_98 hX E hrec (fun w hl hf => ih w hl hf) w (lv_sub hl [2, 3, 4, 5, 6, 7, 1, 0] rfl) hf
                · replace hf := it_t h17 hf
                  refine lv_iconst (v := 1) hx hb dX4_areMended_94 (by decide) ?_
                  refine lv_goto (tgt := 99) hx hb dX4_areMended_95 (by decide) ?_
                  exact k_X4_areMended_99 hX E hrec (fun w hl hf => ih w hl hf) w (lv_sub hl [2, 3, 4, 5, 6, 7, 1, 0] rfl) hf
set_option maxHeartbeats 4000000 in
set_option maxRecDepth 100000 in
theorem k_X4_areMended_E {p : Program} {l : Launch} {e : Env} {s : State} {m : MethodId} {args : Array Value} {below : List Frame} {meth : Method} {c : Code} {D : va_G} {t : Nat → ClassId} {a : Nat → Nat} {X : State → Prop} {N : Nat} {d : Nat} {r : Int32} {S' : ST} (hX : XOk (aW 56 a) X) (E : EN p s m args meth c cX4_areMended RX4 wsX4_areMended (some .boolean) 10) (hrec : ∀ {S : ST} {x1 : Int32} {x2 : Int32} {x3 : Int32} {x4 : Int32} {r : Int32} {S' : ST}, f_X4_areMended N d S x1 x2 x3 x4 = some (r, S') → Co l yX4_areMended wsX4_areMended (rmX4_areMended d) D (cC t a) (aW 56 a) (tyC t) X [.ref (a 50), .int x1, .int x2, .int x3, .int x4] S (Qi D (cC t a) (aW 56 a) (tyC t) r S')) {S : ST} {x1 : Int32} {x2 : Int32} {x3 : Int32} {x4 : Int32} {H : Heap} {locs : List Loc} {ls : Array Slot} (w : Wd D (cC t a) (aW 56 a) (tyC t) X S s H locs) (hl : lv_has ls 10 [(0, .ref (a 50)), (1, .int x1), (2, .int x2), (3, .int x3), (4, .int x4)]) (hf : f_X4_areMended N (d + 1) S x1 x2 x3 x4 = some (r, S')) : W p l e (rmX4_areMended (d + 1)) s m args below meth c H locs 0 0 (MQ below (Qi D (cC t a) (aW 56 a) (tyC t) r S') args s 0 0 (aW 56 a)) (F0 m 0 ls []) := by
  obtain ⟨⟨hx, hb, hml, hown, hts⟩, hr, hlk⟩ := id E
  unfold f_X4_areMended at hf
  refine lv_iload_n hx hb dX4_areMended_0 rfl (lv_at hl 3 rfl) ?_
  refine lv_if_gt (tgt := 16) hx hb dX4_areMended_1 (by decide) (fun h1 => ?_) (fun h1 => ?_)
  · replace hf := it_t h1 hf
    refine lv_iconst (v := 0) hx hb dX4_areMended_16 (by decide) ?_
    refine lv_istore (lv' := [(5, .int 0), (0, .ref (a 50)), (1, .int x1), (2, .int x2), (3, .int x3), (4, .int x4)]) hx hb dX4_areMended_17 hl (by decide) rfl (fun ls hl => ?_)
    refine lv_iload hx hb dX4_areMended_19 (lv_at hl 5 rfl) ?_
    refine lv_istore (lv' := [(6, .int x4), (5, .int 0), (0, .ref (a 50)), (1, .int x1), (2, .int x2), (3, .int x3), (4, .int x4)]) hx hb dX4_areMended_21 hl (by decide) rfl (fun ls hl => ?_)
    exact k_X4_areMended_23 hX E hrec N w (lv_sub hl [2, 3, 4, 5, 1, 0] rfl) hf
  · replace hf := it_f h1 hf
    refine lv_aload_n hx hb dX4_areMended_4 rfl (lv_at hl 0 rfl) ?_
    refine w_get E w in_X4_areMended_X4 50 (cC_at_50 t a S) rfl 4 (by decide) fl_X4_areMended_38 rfl rfl dX4_areMended_5 ?_
    refine lv_iload_n hx hb dX4_areMended_8 rfl (lv_at hl 1 rfl) ?_
    refine lv_iconst (v := 1) hx hb dX4_areMended_9 (by decide) ?_
    refine lv_iload_n hx hb dX4_areMended_10 rfl (lv_at hl 2 rfl) ?_
    refine lv_ishl hx hb dX4_areMended_11 ?_
    obtain ⟨r4, S3, h2, hf⟩ := bd2_o hf
    refine w_callVi (As := [.int x1, .int (1 <<< (x2 &&& 31))]) (rest := []) hX E w (c_X1_canHaveAll l hX h2) (cwV 2 hts gX4_areMended_X1_canHaveAll rfl rfl rfl hd_X1_canHaveAll ⟨by simp only [rmX4_areMended, rmX1_canHaveAll]; omega, by simp only [rmX4_areMended, rmX1_canHaveAll]; omega⟩) (ci := 1) rfl (cC_at_46 t a S) rfl hl.1 rfl (Nat.le_of_ble_eq_true rfl) dX4_areMended_12 ⟨Nat.le_refl _, Nat.le_refl _⟩ (fun H locs w => ?_)
    obtain ⟨h5, hf⟩ := it_s hf
    exact w_retz E w h5 hf dX4_areMended_15
theorem c_X4_areMended (l : Launch) {D : va_G} {t : Nat → ClassId} {a : Nat → Nat} {X : State → Prop} (hX : XOk (aW 56 a) X) {N : Nat} : ∀ (d : Nat) {S : ST} {x1 : Int32} {x2 : Int32} {x3 : Int32} {x4 : Int32} {r : Int32} {S' : ST}, f_X4_areMended N d S x1 x2 x3 x4 = some (r, S') → Co l yX4_areMended wsX4_areMended (rmX4_areMended d) D (cC t a) (aW 56 a) (tyC t) X [.ref (a 50), .int x1, .int x2, .int x3, .int x4] S (Qi D (cC t a) (aW 56 a) (tyC t) r S') := by
  intro d
  induction d with
  | zero => intro S x1 x2 x3 x4 r S' hf; cases hf
  | succ d ih =>
    intro S x1 x2 x3 x4 r S' hf
    exact co_of (cc := cX4_areMended) (maxL := 10) (ret := (some .boolean)) (lv := [(0, .ref (a 50)), (1, .int x1), (2, .int x2), (3, .int x3), (4, .int x4)]) (by decide) rfl rfl (Nat.le_of_ble_eq_true rfl) rfl rfl (fun p e s m below meth c ls E hl w => k_X4_areMended_E hX E ih w hl hf)
-- X4_mends
theorem in_X4_mends_X4 : ∀ w ∈ u_ws RX4 TX4 9, w ∈ wsX4_mends := by decide +kernel
theorem fl_X4_mends_10 : Cond.fieldLink RX4 10 "NextDoor" "street" "LNextDoor$Street;" ∈ wsX4_mends := by decide +kernel
theorem fl_X4_mends_38 : Cond.fieldLink RX4 38 "NextDoor" "search" "LNextDoor$Search;" ∈ wsX4_mends := by decide +kernel
abbrev rmX4_mends : Room := { frames := 20, cells := 0, slots := 0, locals := 631 }
set_option maxHeartbeats 4000000 in
set_option maxRecDepth 100000 in
theorem k_X4_mends_37 {p : Program} {l : Launch} {e : Env} {s : State} {m : MethodId} {args : Array Value} {below : List Frame} {meth : Method} {c : Code} {D : va_G} {t : Nat → ClassId} {a : Nat → Nat} {X : State → Prop} {N : Nat} {r : Int32} {S' : ST} (hX : XOk (aW 56 a) X) (E : EN p s m args meth c cX4_mends RX4 wsX4_mends (some .int) 4) : ∀ (n : Nat) {S : ST} {x1 : Int32} {x2 : Int32} {x3 : Int32} {H : Heap} {locs : List Loc} {ls : Array Slot}, Wd D (cC t a) (aW 56 a) (tyC t) X S s H locs → lv_has ls 4 [(0, .ref (a 50)), (1, .int x1), (2, .int x2), (3, .int x3)] → b_X4_mends_37 N n S x1 x2 x3 = some (r, S') → W p l e rmX4_mends s m args below meth c H locs 0 0 (MQ below (Qi D (cC t a) (aW 56 a) (tyC t) r S') args s 0 0 (aW 56 a)) (F0 m 37 ls []) := by
  obtain ⟨⟨hx, hb, hml, hown, hts⟩, hr, hlk⟩ := id E
  intro n
  induction n with
  | zero => intro S x1 x2 x3 H locs ls w hl hf; cases hf
  | succ n ih =>
    intro S x1 x2 x3 H locs ls w hl hf
    unfold b_X4_mends_37 at hf
    refine lv_iload_n hx hb dX4_mends_37 rfl (lv_at hl 3 rfl) ?_
    refine lv_iconst (v := 2) hx hb dX4_mends_38 (by decide) ?_
    refine lv_icmp_gt (tgt := 61) hx hb dX4_mends_39 (by decide) (fun h11 => ?_) (fun h11 => ?_)
    · replace hf := it_t h11 hf
      refine lv_iconst (v := (-1)) hx hb dX4_mends_61 (by decide) ?_
      exact w_reti E w hf dX4_mends_62
    · replace hf := it_f h11 hf
      refine lv_aload_n hx hb dX4_mends_42 rfl (lv_at hl 0 rfl) ?_
      refine lv_iload_n hx hb dX4_mends_43 rfl (lv_at hl 2 rfl) ?_
      refine lv_iload_n hx hb dX4_mends_44 rfl (lv_at hl 1 rfl) ?_
      refine lv_iload_n hx hb dX4_mends_45 rfl (lv_at hl 3 rfl) ?_
      refine lv_iconst (v := 0) hx hb dX4_mends_46 (by decide) ?_
      obtain ⟨r14, S13, h12, hf⟩ := bd2_o hf
      refine w_callVi (As := [.int x2, .int x1, .int x3, .int 0]) (rest := []) hX E w (c_X4_areMended l hX 4 h12) (cwV 4 hts gX4_mends_X4_areMended rfl rfl rfl hd_X4_areMended ⟨Nat.le_of_ble_eq_true rfl, Nat.le_of_ble_eq_true rfl⟩) (ci := 4) rfl (cC_at_50 t a S) rfl hl.1 rfl (Nat.le_of_ble_eq_true rfl) dX4_mends_47 ⟨Nat.le_refl _, Nat.le_refl _⟩ (fun H locs w => ?_)
      refine lv_if_eq (tgt := 55) hx hb dX4_mends_50 (by decide) (fun h15 => ?_) (fun h15 => ?_)
      · replace hf := it_t h15 hf
        refine lv_iinc (v := x3 + 1) (lv' := [(3, .int (x3 + 1)), (0, .ref (a 50)), (1, .int x1), (2, .int x2)]) hx hb dX4_mends_55 hl (k := 3) rfl rfl (by decide) rfl (fun ls hl => ?_)
        refine lv_goto (tgt := 37) hx hb dX4_mends_58 (by decide) ?_
        exact ih w (lv_sub hl [1, 2, 3, 0] rfl) hf
      · replace hf := it_f h15 hf
        refine lv_iload_n hx hb dX4_mends_53 rfl (lv_at hl 3 rfl) ?_
        exact w_reti E w hf dX4_mends_54
set_option maxHeartbeats 4000000 in
set_option maxRecDepth 100000 in
theorem k_X4_mends_E {p : Program} {l : Launch} {e : Env} {s : State} {m : MethodId} {args : Array Value} {below : List Frame} {meth : Method} {c : Code} {D : va_G} {t : Nat → ClassId} {a : Nat → Nat} {X : State → Prop} {N : Nat} {r : Int32} {S' : ST} (hX : XOk (aW 56 a) X) (E : EN p s m args meth c cX4_mends RX4 wsX4_mends (some .int) 4) {S : ST} {x1 : Int32} {H : Heap} {locs : List Loc} {ls : Array Slot} (w : Wd D (cC t a) (aW 56 a) (tyC t) X S s H locs) (hl : lv_has ls 4 [(0, .ref (a 50)), (1, .int x1)]) (hf : f_X4_mends N S x1 = some (r, S')) : W p l e rmX4_mends s m args below meth c H locs 0 0 (MQ below (Qi D (cC t a) (aW 56 a) (tyC t) r S') args s 0 0 (aW 56 a)) (F0 m 0 ls []) := by
  obtain ⟨⟨hx, hb, hml, hown, hts⟩, hr, hlk⟩ := id E
  unfold f_X4_mends at hf
  refine lv_aload_n hx hb dX4_mends_0 rfl (lv_at hl 0 rfl) ?_
  refine w_get E w in_X4_mends_X4 50 (cC_at_50 t a S) rfl 0 (by decide) fl_X4_mends_10 rfl rfl dX4_mends_1 ?_
  refine lv_iload_n hx hb dX4_mends_4 rfl (lv_at hl 1 rfl) ?_
  obtain ⟨r3, S2, h1, hf⟩ := bd2_o hf
  refine w_callVi (As := [.int x1]) (rest := []) hX E w (c_X2_hasShop_0 l hX h1) (cwV 1 hts gX4_mends_X2_hasShop rfl rfl rfl hd_X2_hasShop ⟨Nat.le_of_ble_eq_true rfl, Nat.le_of_ble_eq_true rfl⟩) (ci := 2) rfl (cC_at_0 t a S) rfl hl.1 rfl (Nat.le_of_ble_eq_true rfl) dX4_mends_5 ⟨Nat.le_refl _, Nat.le_refl _⟩ (fun H locs w => ?_)
  refine lv_if_ne (tgt := 20) hx hb dX4_mends_8 (by decide) (fun h4 => ?_) (fun h4 => ?_)
  · replace hf := it_f h4 hf
    refine lv_aload_n hx hb dX4_mends_20 rfl (lv_at hl 0 rfl) ?_
    refine w_get E w in_X4_mends_X4 50 (cC_at_50 t a S2) rfl 4 (by decide) fl_X4_mends_38 rfl rfl dX4_mends_21 ?_
    refine lv_iconst (v := 0) hx hb dX4_mends_24 (by decide) ?_
    obtain ⟨r7, S6, h5, hf⟩ := bd2_o hf
    refine w_callVi (As := [.int 0]) (rest := []) hX E w (c_X1_goodsToHave l hX h5) (cwV 1 hts gX4_mends_X1_goodsToHave rfl rfl rfl hd_X1_goodsToHave ⟨Nat.le_of_ble_eq_true rfl, Nat.le_of_ble_eq_true rfl⟩) (ci := 1) rfl (cC_at_46 t a S2) rfl hl.1 rfl (Nat.le_of_ble_eq_true rfl) dX4_mends_25 ⟨Nat.le_refl _, Nat.le_refl _⟩ (fun H locs w => ?_)
    refine lv_iconst (v := 1) hx hb dX4_mends_28 (by decide) ?_
    refine lv_iload_n hx hb dX4_mends_29 rfl (lv_at hl 1 rfl) ?_
    refine lv_ishl hx hb dX4_mends_30 ?_
    refine lv_iconst (v := (-1)) hx hb dX4_mends_31 (by decide) ?_
    refine lv_ixor hx hb dX4_mends_32 ?_
    refine lv_iand hx hb dX4_mends_33 ?_
    refine lv_istore_n (lv' := [(2, .int (r7 &&& ((1 <<< (x1 &&& 31)) ^^^ (-1)))), (0, .ref (a 50)), (1, .int x1)]) hx hb dX4_mends_34 rfl hl (by decide) rfl (fun ls hl => ?_)
    refine lv_iconst (v := 0) hx hb dX4_mends_35 (by decide) ?_
    refine lv_istore_n (lv' := [(3, .int 0), (2, .int (r7 &&& ((1 <<< (x1 &&& 31)) ^^^ (-1)))), (0, .ref (a 50)), (1, .int x1)]) hx hb dX4_mends_36 rfl hl (by decide) rfl (fun ls hl => ?_)
    exact k_X4_mends_37 hX E N w (lv_sub hl [2, 3, 1, 0] rfl) hf
  · replace hf := it_t h4 hf
    refine lv_aload_n hx hb dX4_mends_11 rfl (lv_at hl 0 rfl) ?_
    refine lv_bipush (v := (-2)) hx hb dX4_mends_12 (by decide) ?_
    refine lv_bipush (v := (-2)) hx hb dX4_mends_14 (by decide) ?_
    obtain ⟨r10, S9, h8, hf⟩ := bd2_o hf
    refine w_callVi (As := [.int (-2), .int (-2)]) (rest := []) hX E w (c_X4_refuse l hX h8) (cwV 2 hts gX4_mends_X4_refuse rfl rfl rfl hd_X4_refuse ⟨Nat.le_of_ble_eq_true rfl, Nat.le_of_ble_eq_true rfl⟩) (ci := 4) rfl (cC_at_50 t a S2) rfl hl.1 rfl (Nat.le_of_ble_eq_true rfl) dX4_mends_16 ⟨Nat.le_refl _, Nat.le_refl _⟩ (fun H locs w => ?_)
    exact w_reti E w hf dX4_mends_19
theorem c_X4_mends (l : Launch) {D : va_G} {t : Nat → ClassId} {a : Nat → Nat} {X : State → Prop} (hX : XOk (aW 56 a) X) {N : Nat} {S : ST} {x1 : Int32} {r : Int32} {S' : ST} (hf : f_X4_mends N S x1 = some (r, S')) : Co l yX4_mends wsX4_mends rmX4_mends D (cC t a) (aW 56 a) (tyC t) X [.ref (a 50), .int x1] S (Qi D (cC t a) (aW 56 a) (tyC t) r S') :=
  co_of (cc := cX4_mends) (maxL := 4) (ret := (some .int)) (lv := [(0, .ref (a 50)), (1, .int x1)]) (by decide) rfl rfl (Nat.le_of_ble_eq_true rfl) rfl rfl (fun p e s m below meth c ls E hl w => k_X4_mends_E hX E w hl hf)
-- X4_buyer
theorem in_X4_buyer_X4 : ∀ w ∈ u_ws RX4 TX4 9, w ∈ wsX4_buyer := by decide +kernel
theorem fl_X4_buyer_10 : Cond.fieldLink RX4 10 "NextDoor" "street" "LNextDoor$Street;" ∈ wsX4_buyer := by decide +kernel
theorem in_X4_buyer_X2 : ∀ w ∈ u_ws RX2 TX2 16, w ∈ wsX4_buyer := by decide +kernel
theorem fl_X4_buyer_164 : Cond.fieldLink RX4 164 "NextDoor$Street" "buyers" "I" ∈ wsX4_buyer := by decide +kernel
theorem fl_X4_buyer_167 : Cond.fieldLink RX4 167 "NextDoor$Street" "want" "[I" ∈ wsX4_buyer := by decide +kernel
theorem fl_X4_buyer_170 : Cond.fieldLink RX4 170 "NextDoor$Street" "limit" "[I" ∈ wsX4_buyer := by decide +kernel
abbrev rmX4_buyer : Room := { frames := 2, cells := 0, slots := 0, locals := 45 }
set_option maxHeartbeats 4000000 in
set_option maxRecDepth 100000 in
theorem k_X4_buyer_21 {p : Program} {l : Launch} {e : Env} {s : State} {m : MethodId} {args : Array Value} {below : List Frame} {meth : Method} {c : Code} {D : va_G} {t : Nat → ClassId} {a : Nat → Nat} {X : State → Prop} {N : Nat} {r : Int32} {S' : ST} (hX : XOk (aW 56 a) X) (E : EN p s m args meth c cX4_buyer RX4 wsX4_buyer (some .int) 3) {S : ST} {H : Heap} {locs : List Loc} {ls : Array Slot} (w : Wd D (cC t a) (aW 56 a) (tyC t) X S s H locs) (hl : lv_has ls 3 [(0, .ref (a 50))]) (hf : b_X4_buyer_21 N S = some (r, S')) : W p l e rmX4_buyer s m args below meth c H locs 0 0 (MQ below (Qi D (cC t a) (aW 56 a) (tyC t) r S') args s 0 0 (aW 56 a)) (F0 m 21 ls []) := by
  obtain ⟨⟨hx, hb, hml, hown, hts⟩, hr, hlk⟩ := id E
  unfold b_X4_buyer_21 at hf
  refine lv_aload_n hx hb dX4_buyer_21 rfl (lv_at hl 0 rfl) ?_
  refine lv_bipush (v := (-2)) hx hb dX4_buyer_22 (by decide) ?_
  refine lv_bipush (v := (-2)) hx hb dX4_buyer_24 (by decide) ?_
  obtain ⟨r20, S19, h18, hf⟩ := bd2_o hf
  refine w_callVi (As := [.int (-2), .int (-2)]) (rest := []) hX E w (c_X4_refuse l hX h18) (cwV 2 hts gX4_buyer_X4_refuse rfl rfl rfl hd_X4_refuse ⟨Nat.le_of_ble_eq_true rfl, Nat.le_of_ble_eq_true rfl⟩) (ci := 4) rfl (cC_at_50 t a S) rfl hl.1 rfl (Nat.le_of_ble_eq_true rfl) dX4_buyer_26 ⟨Nat.le_refl _, Nat.le_refl _⟩ (fun H locs w => ?_)
  exact w_reti E w hf dX4_buyer_29
set_option maxHeartbeats 4000000 in
set_option maxRecDepth 100000 in
theorem k_X4_buyer_E {p : Program} {l : Launch} {e : Env} {s : State} {m : MethodId} {args : Array Value} {below : List Frame} {meth : Method} {c : Code} {D : va_G} {t : Nat → ClassId} {a : Nat → Nat} {X : State → Prop} {N : Nat} {r : Int32} {S' : ST} (hX : XOk (aW 56 a) X) (E : EN p s m args meth c cX4_buyer RX4 wsX4_buyer (some .int) 3) {S : ST} {x1 : Int32} {x2 : Int32} {H : Heap} {locs : List Loc} {ls : Array Slot} (w : Wd D (cC t a) (aW 56 a) (tyC t) X S s H locs) (hl : lv_has ls 3 [(0, .ref (a 50)), (1, .int x1), (2, .int x2)]) (hf : f_X4_buyer N S x1 x2 = some (r, S')) : W p l e rmX4_buyer s m args below meth c H locs 0 0 (MQ below (Qi D (cC t a) (aW 56 a) (tyC t) r S') args s 0 0 (aW 56 a)) (F0 m 0 ls []) := by
  obtain ⟨⟨hx, hb, hml, hown, hts⟩, hr, hlk⟩ := id E
  unfold f_X4_buyer at hf
  refine lv_aload_n hx hb dX4_buyer_0 rfl (lv_at hl 0 rfl) ?_
  refine w_get E w in_X4_buyer_X4 50 (cC_at_50 t a S) rfl 0 (by decide) fl_X4_buyer_10 rfl rfl dX4_buyer_1 ?_
  refine lv_iload_n hx hb dX4_buyer_4 rfl (lv_at hl 1 rfl) ?_
  obtain ⟨r3, S2, h1, hf⟩ := bd2_o hf
  refine w_callVi (As := [.int x1]) (rest := []) hX E w (c_X2_hasShop_0 l hX h1) (cwV 1 hts gX4_buyer_X2_hasShop rfl rfl rfl hd_X2_hasShop ⟨Nat.le_of_ble_eq_true rfl, Nat.le_of_ble_eq_true rfl⟩) (ci := 2) rfl (cC_at_0 t a S) rfl hl.1 rfl (Nat.le_of_ble_eq_true rfl) dX4_buyer_5 ⟨Nat.le_refl _, Nat.le_refl _⟩ (fun H locs w => ?_)
  refine lv_if_eq (tgt := 21) hx hb dX4_buyer_8 (by decide) (fun h4 => ?_) (fun h4 => ?_)
  · replace hf := it_t h4 hf
    exact k_X4_buyer_21 hX E w (lv_sub hl [0] rfl) hf
  · replace hf := it_f h4 hf
    refine lv_iload_n hx hb dX4_buyer_11 rfl (lv_at hl 2 rfl) ?_
    refine lv_iconst (v := 0) hx hb dX4_buyer_12 (by decide) ?_
    refine lv_bipush (v := 99) hx hb dX4_buyer_13 (by decide) ?_
    obtain ⟨r7, S6, h5, hf⟩ := bd2_o hf
    refine w_callSi (As := [.int x2, .int 0, .int 99]) (rest := []) hX E w (c_X4_isIn l hX h5) (va_cwS 3 hts gX4_buyer_X4_isIn rfl rfl rfl hd_X4_isIn ⟨Nat.le_of_ble_eq_true rfl, Nat.le_of_ble_eq_true rfl⟩) rfl hl.1 rfl (Nat.le_of_ble_eq_true rfl) dX4_buyer_15 ⟨Nat.le_refl _, Nat.le_refl _⟩ (fun H locs w => ?_)
    refine lv_if_ne (tgt := 30) hx hb dX4_buyer_18 (by decide) (fun h8 => ?_) (fun h8 => ?_)
    · replace hf := it_f h8 hf
      refine lv_aload_n hx hb dX4_buyer_30 rfl (lv_at hl 0 rfl) ?_
      refine w_get E w in_X4_buyer_X4 50 (cC_at_50 t a S6) rfl 0 (by decide) fl_X4_buyer_10 rfl rfl dX4_buyer_31 ?_
      refine w_get E w in_X4_buyer_X2 0 (cC_at_0 t a S6) rfl 13 (by decide) fl_X4_buyer_164 rfl rfl dX4_buyer_34 ?_
      refine lv_bipush (v := 6) hx hb dX4_buyer_37 (by decide) ?_
      refine lv_icmp_lt (tgt := 51) hx hb dX4_buyer_39 (by decide) (fun h9 => ?_) (fun h9 => ?_)
      · replace hf := it_t h9 hf
        refine lv_aload_n hx hb dX4_buyer_51 rfl (lv_at hl 0 rfl) ?_
        refine w_get E w in_X4_buyer_X4 50 (cC_at_50 t a S6) rfl 0 (by decide) fl_X4_buyer_10 rfl rfl dX4_buyer_52 ?_
        refine w_get E w in_X4_buyer_X2 0 (cC_at_0 t a S6) rfl 14 (by decide) fl_X4_buyer_167 rfl rfl dX4_buyer_55 ?_
        refine lv_aload_n hx hb dX4_buyer_58 rfl (lv_at hl 0 rfl) ?_
        refine w_get E w in_X4_buyer_X4 50 (cC_at_50 t a S6) rfl 0 (by decide) fl_X4_buyer_10 rfl rfl dX4_buyer_59 ?_
        refine w_get E w in_X4_buyer_X2 0 (cC_at_0 t a S6) rfl 13 (by decide) fl_X4_buyer_164 rfl rfl dX4_buyer_62 ?_
        refine lv_iload_n hx hb dX4_buyer_65 rfl (lv_at hl 1 rfl) ?_
        obtain ⟨h11, hf⟩ := it_n hf
        obtain ⟨S10, eS10, hf⟩ := nm_o hf
        refine w_ast (S1 := S10) E w 8 0 (cC_at_8 t a S6) rfl h11 rfl ((cC_st_8 t a S6 ((S6 0 13).toNatClampNeg) x1).trans (congrArg (cC t a) eS10.symm)) dX4_buyer_66 (fun H locs w => ?_)
        refine lv_aload_n hx hb dX4_buyer_67 rfl (lv_at hl 0 rfl) ?_
        refine w_get E w in_X4_buyer_X4 50 (cC_at_50 t a S10) rfl 0 (by decide) fl_X4_buyer_10 rfl rfl dX4_buyer_68 ?_
        refine w_get E w in_X4_buyer_X2 0 (cC_at_0 t a S10) rfl 15 (by decide) fl_X4_buyer_170 rfl rfl dX4_buyer_71 ?_
        refine lv_aload_n hx hb dX4_buyer_74 rfl (lv_at hl 0 rfl) ?_
        refine w_get E w in_X4_buyer_X4 50 (cC_at_50 t a S10) rfl 0 (by decide) fl_X4_buyer_10 rfl rfl dX4_buyer_75 ?_
        refine w_get E w in_X4_buyer_X2 0 (cC_at_0 t a S10) rfl 13 (by decide) fl_X4_buyer_164 rfl rfl dX4_buyer_78 ?_
        refine lv_iload_n hx hb dX4_buyer_81 rfl (lv_at hl 2 rfl) ?_
        obtain ⟨h13, hf⟩ := it_n hf
        obtain ⟨S12, eS12, hf⟩ := nm_o hf
        refine w_ast (S1 := S12) E w 9 0 (cC_at_9 t a S10) rfl h13 rfl ((cC_st_9 t a S10 ((S10 0 13).toNatClampNeg) x2).trans (congrArg (cC t a) eS12.symm)) dX4_buyer_82 (fun H locs w => ?_)
        refine lv_aload_n hx hb dX4_buyer_83 rfl (lv_at hl 0 rfl) ?_
        refine w_get E w in_X4_buyer_X4 50 (cC_at_50 t a S12) rfl 0 (by decide) fl_X4_buyer_10 rfl rfl dX4_buyer_84 ?_
        refine lv_dup hx hb dX4_buyer_87 rfl ?_
        refine w_get E w in_X4_buyer_X2 0 (cC_at_0 t a S12) rfl 13 (by decide) fl_X4_buyer_164 rfl rfl dX4_buyer_88 ?_
        refine lv_iconst (v := 1) hx hb dX4_buyer_91 (by decide) ?_
        refine lv_iadd hx hb dX4_buyer_92 ?_
        obtain ⟨S14, eS14, hf⟩ := nm_o hf
        refine w_put (S1 := S14) E w in_X4_buyer_X2 tyX2 tyX2_ok nmX2 0 (cC_at_0 t a S12) rfl 13 (by decide) fl_X4_buyer_164 rfl rfl rfl rfl rfl (Nat.le_of_ble_eq_true rfl) ((cC_set_0_13 t a S12 ((S12 0 13) + 1)).trans (congrArg (cC t a) eS14.symm)) dX4_buyer_93 (fun H locs w => ?_)
        refine lv_aload_n hx hb dX4_buyer_96 rfl (lv_at hl 0 rfl) ?_
        refine w_get E w in_X4_buyer_X4 50 (cC_at_50 t a S14) rfl 0 (by decide) fl_X4_buyer_10 rfl rfl dX4_buyer_97 ?_
        refine w_get E w in_X4_buyer_X2 0 (cC_at_0 t a S14) rfl 13 (by decide) fl_X4_buyer_164 rfl rfl dX4_buyer_100 ?_
        refine lv_iconst (v := 1) hx hb dX4_buyer_103 (by decide) ?_
        refine lv_isub hx hb dX4_buyer_104 ?_
        exact w_reti E w hf dX4_buyer_105
      · replace hf := it_f h9 hf
        refine lv_aload_n hx hb dX4_buyer_42 rfl (lv_at hl 0 rfl) ?_
        refine lv_bipush (v := (-4)) hx hb dX4_buyer_43 (by decide) ?_
        refine lv_bipush (v := (-4)) hx hb dX4_buyer_45 (by decide) ?_
        obtain ⟨r17, S16, h15, hf⟩ := bd2_o hf
        refine w_callVi (As := [.int (-4), .int (-4)]) (rest := []) hX E w (c_X4_refuse l hX h15) (cwV 2 hts gX4_buyer_X4_refuse rfl rfl rfl hd_X4_refuse ⟨Nat.le_of_ble_eq_true rfl, Nat.le_of_ble_eq_true rfl⟩) (ci := 4) rfl (cC_at_50 t a S6) rfl hl.1 rfl (Nat.le_of_ble_eq_true rfl) dX4_buyer_47 ⟨Nat.le_refl _, Nat.le_refl _⟩ (fun H locs w => ?_)
        exact w_reti E w hf dX4_buyer_50
    · replace hf := it_t h8 hf
      exact k_X4_buyer_21 hX E w (lv_sub hl [0] rfl) hf
theorem c_X4_buyer (l : Launch) {D : va_G} {t : Nat → ClassId} {a : Nat → Nat} {X : State → Prop} (hX : XOk (aW 56 a) X) {N : Nat} {S : ST} {x1 : Int32} {x2 : Int32} {r : Int32} {S' : ST} (hf : f_X4_buyer N S x1 x2 = some (r, S')) : Co l yX4_buyer wsX4_buyer rmX4_buyer D (cC t a) (aW 56 a) (tyC t) X [.ref (a 50), .int x1, .int x2] S (Qi D (cC t a) (aW 56 a) (tyC t) r S') :=
  co_of (cc := cX4_buyer) (maxL := 3) (ret := (some .int)) (lv := [(0, .ref (a 50)), (1, .int x1), (2, .int x2)]) (by decide) rfl rfl (Nat.le_of_ble_eq_true rfl) rfl rfl (fun p e s m below meth c ls E hl w => k_X4_buyer_E hX E w hl hf)
-- X4_leave
theorem in_X4_leave_X4 : ∀ w ∈ u_ws RX4 TX4 9, w ∈ wsX4_leave := by decide +kernel
theorem fl_X4_leave_10 : Cond.fieldLink RX4 10 "NextDoor" "street" "LNextDoor$Street;" ∈ wsX4_leave := by decide +kernel
theorem in_X4_leave_X2 : ∀ w ∈ u_ws RX2 TX2 16, w ∈ wsX4_leave := by decide +kernel
theorem fl_X4_leave_164 : Cond.fieldLink RX4 164 "NextDoor$Street" "buyers" "I" ∈ wsX4_leave := by decide +kernel
abbrev rmX4_leave : Room := { frames := 0, cells := 0, slots := 0, locals := 0 }
set_option maxHeartbeats 4000000 in
set_option maxRecDepth 100000 in
theorem k_X4_leave_E {p : Program} {l : Launch} {e : Env} {s : State} {m : MethodId} {args : Array Value} {below : List Frame} {meth : Method} {c : Code} {D : va_G} {t : Nat → ClassId} {a : Nat → Nat} {X : State → Prop} {N : Nat} {r : Int32} {S' : ST} (hX : XOk (aW 56 a) X) (E : EN p s m args meth c cX4_leave RX4 wsX4_leave (some .int) 2) {S : ST} {H : Heap} {locs : List Loc} {ls : Array Slot} (w : Wd D (cC t a) (aW 56 a) (tyC t) X S s H locs) (hl : lv_has ls 2 [(0, .ref (a 50))]) (hf : f_X4_leave N S = some (r, S')) : W p l e rmX4_leave s m args below meth c H locs 0 0 (MQ below (Qi D (cC t a) (aW 56 a) (tyC t) r S') args s 0 0 (aW 56 a)) (F0 m 0 ls []) := by
  obtain ⟨⟨hx, hb, hml, hown, hts⟩, hr, hlk⟩ := id E
  unfold f_X4_leave at hf
  refine lv_aload_n hx hb dX4_leave_0 rfl (lv_at hl 0 rfl) ?_
  refine w_get E w in_X4_leave_X4 50 (cC_at_50 t a S) rfl 0 (by decide) fl_X4_leave_10 rfl rfl dX4_leave_1 ?_
  refine w_get E w in_X4_leave_X2 0 (cC_at_0 t a S) rfl 13 (by decide) fl_X4_leave_164 rfl rfl dX4_leave_4 ?_
  refine lv_istore_n (lv' := [(1, .int (S 0 13)), (0, .ref (a 50))]) hx hb dX4_leave_7 rfl hl (by decide) rfl (fun ls hl => ?_)
  refine lv_aload_n hx hb dX4_leave_8 rfl (lv_at hl 1 rfl) ?_
  refine w_get E w in_X4_leave_X4 50 (cC_at_50 t a S) rfl 0 (by decide) fl_X4_leave_10 rfl rfl dX4_leave_9 ?_
  refine lv_iconst (v := 0) hx hb dX4_leave_12 (by decide) ?_
  obtain ⟨S1, eS1, hf⟩ := nm_o hf
  refine w_put (S1 := S1) E w in_X4_leave_X2 tyX2 tyX2_ok nmX2 0 (cC_at_0 t a S) rfl 13 (by decide) fl_X4_leave_164 rfl rfl rfl rfl rfl (Nat.le_of_ble_eq_true rfl) ((cC_set_0_13 t a S 0).trans (congrArg (cC t a) eS1.symm)) dX4_leave_13 (fun H locs w => ?_)
  refine lv_iload_n hx hb dX4_leave_16 rfl (lv_at hl 0 rfl) ?_
  exact w_reti E w hf dX4_leave_17
theorem c_X4_leave (l : Launch) {D : va_G} {t : Nat → ClassId} {a : Nat → Nat} {X : State → Prop} (hX : XOk (aW 56 a) X) {N : Nat} {S : ST} {r : Int32} {S' : ST} (hf : f_X4_leave N S = some (r, S')) : Co l yX4_leave wsX4_leave rmX4_leave D (cC t a) (aW 56 a) (tyC t) X [.ref (a 50)] S (Qi D (cC t a) (aW 56 a) (tyC t) r S') :=
  co_of (cc := cX4_leave) (maxL := 2) (ret := (some .int)) (lv := [(0, .ref (a 50))]) (by decide) rfl rfl (Nat.le_of_ble_eq_true rfl) rfl rfl (fun p e s m below meth c ls E hl w => k_X4_leave_E hX E w hl hf)
-- X1_paidTo
theorem in_X1_paidTo_X1 : ∀ w ∈ u_ws RX1 TX1 12, w ∈ wsX1_paidTo := by decide +kernel
theorem fl_X1_paidTo_57 : Cond.fieldLink RX1 57 "NextDoor$Search" "length" "I" ∈ wsX1_paidTo := by decide +kernel
theorem fl_X1_paidTo_9 : Cond.fieldLink RX1 9 "NextDoor$Search" "row" "[I" ∈ wsX1_paidTo := by decide +kernel
theorem fl_X1_paidTo_15 : Cond.fieldLink RX1 15 "NextDoor$Search" "paidThere" "[I" ∈ wsX1_paidTo := by decide +kernel
abbrev rmX1_paidTo : Room := { frames := 0, cells := 0, slots := 0, locals := 0 }
set_option maxHeartbeats 4000000 in
set_option maxRecDepth 100000 in
theorem k_X1_paidTo_2 {p : Program} {l : Launch} {e : Env} {s : State} {m : MethodId} {args : Array Value} {below : List Frame} {meth : Method} {c : Code} {D : va_G} {t : Nat → ClassId} {a : Nat → Nat} {X : State → Prop} {N : Nat} {r : Int32} {S' : ST} (hX : XOk (aW 56 a) X) (E : EN p s m args meth c cX1_paidTo RX1 wsX1_paidTo (some .int) 3) : ∀ (n : Nat) {S : ST} {x1 : Int32} {x2 : Int32} {H : Heap} {locs : List Loc} {ls : Array Slot}, Wd D (cC t a) (aW 56 a) (tyC t) X S s H locs → lv_has ls 3 [(0, .ref (a 46)), (1, .int x1), (2, .int x2)] → b_X1_paidTo_2 N n S x1 x2 = some (r, S') → W p l e rmX1_paidTo s m args below meth c H locs 0 0 (MQ below (Qi D (cC t a) (aW 56 a) (tyC t) r S') args s 0 0 (aW 56 a)) (F0 m 2 ls []) := by
  obtain ⟨⟨hx, hb, hml, hown, hts⟩, hr, hlk⟩ := id E
  intro n
  induction n with
  | zero => intro S x1 x2 H locs ls w hl hf; cases hf
  | succ n ih =>
    intro S x1 x2 H locs ls w hl hf
    unfold b_X1_paidTo_2 at hf
    refine lv_iload_n hx hb dX1_paidTo_2 rfl (lv_at hl 2 rfl) ?_
    refine lv_aload_n hx hb dX1_paidTo_3 rfl (lv_at hl 0 rfl) ?_
    refine w_get E w in_X1_paidTo_X1 46 (cC_at_46 t a S) rfl 7 (by decide) fl_X1_paidTo_57 rfl rfl dX1_paidTo_4 ?_
    refine lv_icmp_ge (tgt := 39) hx hb dX1_paidTo_7 (by decide) (fun h1 => ?_) (fun h1 => ?_)
    · replace hf := it_t h1 hf
      refine lv_iconst (v := 0) hx hb dX1_paidTo_39 (by decide) ?_
      exact w_reti E w hf dX1_paidTo_40
    · replace hf := it_f h1 hf
      refine lv_iload_n hx hb dX1_paidTo_10 rfl (lv_at hl 2 rfl) ?_
      refine lv_bipush (v := 6) hx hb dX1_paidTo_11 (by decide) ?_
      refine lv_icmp_ge (tgt := 39) hx hb dX1_paidTo_13 (by decide) (fun h2 => ?_) (fun h2 => ?_)
      · replace hf := it_t h2 hf
        refine lv_iconst (v := 0) hx hb dX1_paidTo_39 (by decide) ?_
        exact w_reti E w hf dX1_paidTo_40
      · replace hf := it_f h2 hf
        refine lv_aload_n hx hb dX1_paidTo_16 rfl (lv_at hl 0 rfl) ?_
        refine w_get E w in_X1_paidTo_X1 46 (cC_at_46 t a S) rfl 10 (by decide) fl_X1_paidTo_9 rfl rfl dX1_paidTo_17 ?_
        refine lv_iload_n hx hb dX1_paidTo_20 rfl (lv_at hl 2 rfl) ?_
        obtain ⟨h3, hf⟩ := it_n hf
        refine w_ald E w 47 0 (cC_at_47 t a S) rfl h3 rfl dX1_paidTo_21 ?_
        refine lv_iload_n hx hb dX1_paidTo_22 rfl (lv_at hl 1 rfl) ?_
        refine lv_icmp_ne (tgt := 33) hx hb dX1_paidTo_23 (by decide) (fun h4 => ?_) (fun h4 => ?_)
        · replace hf := it_f h4 hf
          refine lv_iinc (v := x2 + 1) (lv' := [(2, .int (x2 + 1)), (0, .ref (a 46)), (1, .int x1)]) hx hb dX1_paidTo_33 hl (k := 2) rfl rfl (by decide) rfl (fun ls hl => ?_)
          refine lv_goto (tgt := 2) hx hb dX1_paidTo_36 (by decide) ?_
          exact ih w (lv_sub hl [1, 2, 0] rfl) hf
        · replace hf := it_t h4 hf
          refine lv_aload_n hx hb dX1_paidTo_26 rfl (lv_at hl 0 rfl) ?_
          refine w_get E w in_X1_paidTo_X1 46 (cC_at_46 t a S) rfl 11 (by decide) fl_X1_paidTo_15 rfl rfl dX1_paidTo_27 ?_
          refine lv_iload_n hx hb dX1_paidTo_30 rfl (lv_at hl 2 rfl) ?_
          obtain ⟨h5, hf⟩ := it_n hf
          refine w_ald E w 48 0 (cC_at_48 t a S) rfl h5 rfl dX1_paidTo_31 ?_
          exact w_reti E w hf dX1_paidTo_32
set_option maxHeartbeats 4000000 in
set_option maxRecDepth 100000 in
theorem k_X1_paidTo_E {p : Program} {l : Launch} {e : Env} {s : State} {m : MethodId} {args : Array Value} {below : List Frame} {meth : Method} {c : Code} {D : va_G} {t : Nat → ClassId} {a : Nat → Nat} {X : State → Prop} {N : Nat} {r : Int32} {S' : ST} (hX : XOk (aW 56 a) X) (E : EN p s m args meth c cX1_paidTo RX1 wsX1_paidTo (some .int) 3) {S : ST} {x1 : Int32} {H : Heap} {locs : List Loc} {ls : Array Slot} (w : Wd D (cC t a) (aW 56 a) (tyC t) X S s H locs) (hl : lv_has ls 3 [(0, .ref (a 46)), (1, .int x1)]) (hf : f_X1_paidTo N S x1 = some (r, S')) : W p l e rmX1_paidTo s m args below meth c H locs 0 0 (MQ below (Qi D (cC t a) (aW 56 a) (tyC t) r S') args s 0 0 (aW 56 a)) (F0 m 0 ls []) := by
  obtain ⟨⟨hx, hb, hml, hown, hts⟩, hr, hlk⟩ := id E
  unfold f_X1_paidTo at hf
  refine lv_iconst (v := 0) hx hb dX1_paidTo_0 (by decide) ?_
  refine lv_istore_n (lv' := [(2, .int 0), (0, .ref (a 46)), (1, .int x1)]) hx hb dX1_paidTo_1 rfl hl (by decide) rfl (fun ls hl => ?_)
  exact k_X1_paidTo_2 hX E N w (lv_sub hl [1, 2, 0] rfl) hf
theorem c_X1_paidTo (l : Launch) {D : va_G} {t : Nat → ClassId} {a : Nat → Nat} {X : State → Prop} (hX : XOk (aW 56 a) X) {N : Nat} {S : ST} {x1 : Int32} {r : Int32} {S' : ST} (hf : f_X1_paidTo N S x1 = some (r, S')) : Co l yX1_paidTo wsX1_paidTo rmX1_paidTo D (cC t a) (aW 56 a) (tyC t) X [.ref (a 46), .int x1] S (Qi D (cC t a) (aW 56 a) (tyC t) r S') :=
  co_of (cc := cX1_paidTo) (maxL := 3) (ret := (some .int)) (lv := [(0, .ref (a 46)), (1, .int x1)]) (by decide) rfl rfl (Nat.le_of_ble_eq_true rfl) rfl rfl (fun p e s m below meth c ls E hl w => k_X1_paidTo_E hX E w hl hf)
