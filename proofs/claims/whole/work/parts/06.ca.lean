-- X4_isIn
abbrev rmX4_isIn : Room := { frames := 0, cells := 0, slots := 0, locals := 0 }
set_option maxHeartbeats 4000000 in
set_option maxRecDepth 100000 in
theorem k_X4_isIn_E {p : Program} {l : Launch} {e : Env} {s : State} {m : MethodId} {args : Array Value} {below : List Frame} {meth : Method} {c : Code} {D : va_G} {t : Nat → ClassId} {a : Nat → Nat} {X : State → Prop} {N : Nat} {r : Int32} {S' : ST} (hX : XOk (aW 56 a) X) (E : EN p s m args meth c cX4_isIn RX4 wsX4_isIn (some .boolean) 3) {S : ST} {x0 : Int32} {x1 : Int32} {x2 : Int32} {H : Heap} {locs : List Loc} {ls : Array Slot} (w : Wd D (cC t a) (aW 56 a) (tyC t) X S s H locs) (hl : lv_has ls 3 [(0, .int x0), (1, .int x1), (2, .int x2)]) (hf : f_X4_isIn N S x0 x1 x2 = some (r, S')) : W p l e rmX4_isIn s m args below meth c H locs 0 0 (MQ below (Qi D (cC t a) (aW 56 a) (tyC t) r S') args s 0 0 (aW 56 a)) (F0 m 0 ls []) := by
  obtain ⟨⟨hx, hb, hml, hown, hts⟩, hr, hlk⟩ := id E
  unfold f_X4_isIn at hf
  refine lv_iload_n hx hb dX4_isIn_0 rfl (lv_at hl 0 rfl) ?_
  refine lv_iload_n hx hb dX4_isIn_1 rfl (lv_at hl 1 rfl) ?_
  refine lv_icmp_lt (tgt := 14) hx hb dX4_isIn_2 (by decide) (fun h1 => ?_) (fun h1 => ?_)
  · replace hf := it_t h1 hf
    refine lv_iconst (v := 0) hx hb dX4_isIn_14 (by decide) ?_
    exact w_retz E w (by decide) hf dX4_isIn_15
  · replace hf := it_f h1 hf
    refine lv_iload_n hx hb dX4_isIn_5 rfl (lv_at hl 0 rfl) ?_
    refine lv_iload_n hx hb dX4_isIn_6 rfl (lv_at hl 2 rfl) ?_
    refine lv_icmp_gt (tgt := 14) hx hb dX4_isIn_7 (by decide) (fun h2 => ?_) (fun h2 => ?_)
    · replace hf := it_t h2 hf
      refine lv_iconst (v := 0) hx hb dX4_isIn_14 (by decide) ?_
      exact w_retz E w (by decide) hf dX4_isIn_15
    · replace hf := it_f h2 hf
      refine lv_iconst (v := 1) hx hb dX4_isIn_10 (by decide) ?_
      refine lv_goto (tgt := 15) hx hb dX4_isIn_11 (by decide) ?_
      exact w_retz E w (by decide) hf dX4_isIn_15
theorem c_X4_isIn (l : Launch) {D : va_G} {t : Nat → ClassId} {a : Nat → Nat} {X : State → Prop} (hX : XOk (aW 56 a) X) {N : Nat} {S : ST} {x0 : Int32} {x1 : Int32} {x2 : Int32} {r : Int32} {S' : ST} (hf : f_X4_isIn N S x0 x1 x2 = some (r, S')) : Co l yX4_isIn wsX4_isIn rmX4_isIn D (cC t a) (aW 56 a) (tyC t) X [.int x0, .int x1, .int x2] S (Qi D (cC t a) (aW 56 a) (tyC t) r S') :=
  co_of (cc := cX4_isIn) (maxL := 3) (ret := (some .boolean)) (lv := [(0, .int x0), (1, .int x1), (2, .int x2)]) (by decide) rfl rfl (Nat.le_of_ble_eq_true rfl) rfl rfl (fun p e s m below meth c ls E hl w => k_X4_isIn_E hX E w hl hf)
-- X2_addShop_0
theorem in_X2_addShop_X2 : ∀ w ∈ u_ws RX2 TX2 16, w ∈ wsX2_addShop := by decide +kernel
theorem fl_X2_addShop_46 : Cond.fieldLink RX2 46 "NextDoor$Street" "shops" "I" ∈ wsX2_addShop := by decide +kernel
theorem fl_X2_addShop_9 : Cond.fieldLink RX2 9 "NextDoor$Street" "kind" "[I" ∈ wsX2_addShop := by decide +kernel
theorem fl_X2_addShop_15 : Cond.fieldLink RX2 15 "NextDoor$Street" "price" "[I" ∈ wsX2_addShop := by decide +kernel
theorem fl_X2_addShop_18 : Cond.fieldLink RX2 18 "NextDoor$Street" "minutes" "[I" ∈ wsX2_addShop := by decide +kernel
theorem fl_X2_addShop_21 : Cond.fieldLink RX2 21 "NextDoor$Street" "shut" "[I" ∈ wsX2_addShop := by decide +kernel
theorem fl_X2_addShop_24 : Cond.fieldLink RX2 24 "NextDoor$Street" "near" "[I" ∈ wsX2_addShop := by decide +kernel
abbrev rmX2_addShop_0 : Room := { frames := 0, cells := 0, slots := 0, locals := 0 }
set_option maxHeartbeats 4000000 in
set_option maxRecDepth 100000 in
theorem k_X2_addShop_0_E {p : Program} {l : Launch} {e : Env} {s : State} {m : MethodId} {args : Array Value} {below : List Frame} {meth : Method} {c : Code} {D : va_G} {t : Nat → ClassId} {a : Nat → Nat} {X : State → Prop} {N : Nat} {S' : ST} (hX : XOk (aW 56 a) X) (E : EN p s m args meth c cX2_addShop RX2 wsX2_addShop none 5) {S : ST} {x1 : Int32} {x2 : Int32} {x3 : Int32} {x4 : Int32} {H : Heap} {locs : List Loc} {ls : Array Slot} (w : Wd D (cC t a) (aW 56 a) (tyC t) X S s H locs) (hl : lv_has ls 5 [(0, .ref (a 0)), (1, .int x1), (2, .int x2), (3, .int x3), (4, .int x4)]) (hf : f_X2_addShop_0 N S x1 x2 x3 x4 = some S') : W p l e rmX2_addShop_0 s m args below meth c H locs 0 0 (MQ below (Qv D (cC t a) (aW 56 a) (tyC t) S') args s 0 0 (aW 56 a)) (F0 m 0 ls []) := by
  obtain ⟨⟨hx, hb, hml, hown, hts⟩, hr, hlk⟩ := id E
  unfold f_X2_addShop_0 at hf
  refine lv_aload_n hx hb dX2_addShop_0 rfl (lv_at hl 0 rfl) ?_
  refine w_get E w in_X2_addShop_X2 0 (cC_at_0 t a S) rfl 0 (by decide) fl_X2_addShop_46 rfl rfl dX2_addShop_1 ?_
  refine lv_bipush (v := 6) hx hb dX2_addShop_4 (by decide) ?_
  refine lv_icmp_ge (tgt := 70) hx hb dX2_addShop_6 (by decide) (fun h1 => ?_) (fun h1 => ?_)
  · replace hf := it_t h1 hf
    exact w_retv E w hf dX2_addShop_70
  · replace hf := it_f h1 hf
    refine lv_aload_n hx hb dX2_addShop_9 rfl (lv_at hl 0 rfl) ?_
    refine w_get E w in_X2_addShop_X2 0 (cC_at_0 t a S) rfl 1 (by decide) fl_X2_addShop_9 rfl rfl dX2_addShop_10 ?_
    refine lv_aload_n hx hb dX2_addShop_13 rfl (lv_at hl 0 rfl) ?_
    refine w_get E w in_X2_addShop_X2 0 (cC_at_0 t a S) rfl 0 (by decide) fl_X2_addShop_46 rfl rfl dX2_addShop_14 ?_
    refine lv_iload_n hx hb dX2_addShop_17 rfl (lv_at hl 1 rfl) ?_
    obtain ⟨h3, hf⟩ := it_n hf
    obtain ⟨S2, eS2, hf⟩ := nm_o hf
    refine w_ast (S1 := S2) E w 1 0 (cC_at_1 t a S) rfl h3 rfl ((cC_st_1 t a S ((S 0 0).toNatClampNeg) x1).trans (congrArg (cC t a) eS2.symm)) dX2_addShop_18 (fun H locs w => ?_)
    refine lv_aload_n hx hb dX2_addShop_19 rfl (lv_at hl 0 rfl) ?_
    refine w_get E w in_X2_addShop_X2 0 (cC_at_0 t a S2) rfl 2 (by decide) fl_X2_addShop_15 rfl rfl dX2_addShop_20 ?_
    refine lv_aload_n hx hb dX2_addShop_23 rfl (lv_at hl 0 rfl) ?_
    refine w_get E w in_X2_addShop_X2 0 (cC_at_0 t a S2) rfl 0 (by decide) fl_X2_addShop_46 rfl rfl dX2_addShop_24 ?_
    refine lv_iload_n hx hb dX2_addShop_27 rfl (lv_at hl 2 rfl) ?_
    obtain ⟨h5, hf⟩ := it_n hf
    obtain ⟨S4, eS4, hf⟩ := nm_o hf
    refine w_ast (S1 := S4) E w 2 0 (cC_at_2 t a S2) rfl h5 rfl ((cC_st_2 t a S2 ((S2 0 0).toNatClampNeg) x2).trans (congrArg (cC t a) eS4.symm)) dX2_addShop_28 (fun H locs w => ?_)
    refine lv_aload_n hx hb dX2_addShop_29 rfl (lv_at hl 0 rfl) ?_
    refine w_get E w in_X2_addShop_X2 0 (cC_at_0 t a S4) rfl 3 (by decide) fl_X2_addShop_18 rfl rfl dX2_addShop_30 ?_
    refine lv_aload_n hx hb dX2_addShop_33 rfl (lv_at hl 0 rfl) ?_
    refine w_get E w in_X2_addShop_X2 0 (cC_at_0 t a S4) rfl 0 (by decide) fl_X2_addShop_46 rfl rfl dX2_addShop_34 ?_
    refine lv_iload_n hx hb dX2_addShop_37 rfl (lv_at hl 3 rfl) ?_
    obtain ⟨h7, hf⟩ := it_n hf
    obtain ⟨S6, eS6, hf⟩ := nm_o hf
    refine w_ast (S1 := S6) E w 3 0 (cC_at_3 t a S4) rfl h7 rfl ((cC_st_3 t a S4 ((S4 0 0).toNatClampNeg) x3).trans (congrArg (cC t a) eS6.symm)) dX2_addShop_38 (fun H locs w => ?_)
    refine lv_aload_n hx hb dX2_addShop_39 rfl (lv_at hl 0 rfl) ?_
    refine w_get E w in_X2_addShop_X2 0 (cC_at_0 t a S6) rfl 4 (by decide) fl_X2_addShop_21 rfl rfl dX2_addShop_40 ?_
    refine lv_aload_n hx hb dX2_addShop_43 rfl (lv_at hl 0 rfl) ?_
    refine w_get E w in_X2_addShop_X2 0 (cC_at_0 t a S6) rfl 0 (by decide) fl_X2_addShop_46 rfl rfl dX2_addShop_44 ?_
    refine lv_iload hx hb dX2_addShop_47 (lv_at hl 4 rfl) ?_
    obtain ⟨h9, hf⟩ := it_n hf
    obtain ⟨S8, eS8, hf⟩ := nm_o hf
    refine w_ast (S1 := S8) E w 4 0 (cC_at_4 t a S6) rfl h9 rfl ((cC_st_4 t a S6 ((S6 0 0).toNatClampNeg) x4).trans (congrArg (cC t a) eS8.symm)) dX2_addShop_49 (fun H locs w => ?_)
    refine lv_aload_n hx hb dX2_addShop_50 rfl (lv_at hl 0 rfl) ?_
    refine w_get E w in_X2_addShop_X2 0 (cC_at_0 t a S8) rfl 5 (by decide) fl_X2_addShop_24 rfl rfl dX2_addShop_51 ?_
    refine lv_aload_n hx hb dX2_addShop_54 rfl (lv_at hl 0 rfl) ?_
    refine w_get E w in_X2_addShop_X2 0 (cC_at_0 t a S8) rfl 0 (by decide) fl_X2_addShop_46 rfl rfl dX2_addShop_55 ?_
    refine lv_iconst (v := 0) hx hb dX2_addShop_58 (by decide) ?_
    obtain ⟨h11, hf⟩ := it_n hf
    obtain ⟨S10, eS10, hf⟩ := nm_o hf
    refine w_ast (S1 := S10) E w 5 0 (cC_at_5 t a S8) rfl h11 rfl ((cC_st_5 t a S8 ((S8 0 0).toNatClampNeg) 0).trans (congrArg (cC t a) eS10.symm)) dX2_addShop_59 (fun H locs w => ?_)
    refine lv_aload_n hx hb dX2_addShop_60 rfl (lv_at hl 0 rfl) ?_
    refine lv_dup hx hb dX2_addShop_61 rfl ?_
    refine w_get E w in_X2_addShop_X2 0 (cC_at_0 t a S10) rfl 0 (by decide) fl_X2_addShop_46 rfl rfl dX2_addShop_62 ?_
    refine lv_iconst (v := 1) hx hb dX2_addShop_65 (by decide) ?_
    refine lv_iadd hx hb dX2_addShop_66 ?_
    obtain ⟨S12, eS12, hf⟩ := nm_o hf
    refine w_put (S1 := S12) E w in_X2_addShop_X2 tyX2 tyX2_ok nmX2 0 (cC_at_0 t a S10) rfl 0 (by decide) fl_X2_addShop_46 rfl rfl rfl rfl rfl (Nat.le_of_ble_eq_true rfl) ((cC_set_0_0 t a S10 ((S10 0 0) + 1)).trans (congrArg (cC t a) eS12.symm)) dX2_addShop_67 (fun H locs w => ?_)
    exact w_retv E w hf dX2_addShop_70
theorem c_X2_addShop_0 (l : Launch) {D : va_G} {t : Nat → ClassId} {a : Nat → Nat} {X : State → Prop} (hX : XOk (aW 56 a) X) {N : Nat} {S : ST} {x1 : Int32} {x2 : Int32} {x3 : Int32} {x4 : Int32} {S' : ST} (hf : f_X2_addShop_0 N S x1 x2 x3 x4 = some S') : Co l yX2_addShop wsX2_addShop rmX2_addShop_0 D (cC t a) (aW 56 a) (tyC t) X [.ref (a 0), .int x1, .int x2, .int x3, .int x4] S (Qv D (cC t a) (aW 56 a) (tyC t) S') :=
  co_of (cc := cX2_addShop) (maxL := 5) (ret := none) (lv := [(0, .ref (a 0)), (1, .int x1), (2, .int x2), (3, .int x3), (4, .int x4)]) (by decide) rfl rfl (Nat.le_of_ble_eq_true rfl) rfl rfl (fun p e s m below meth c ls E hl w => k_X2_addShop_0_E hX E w hl hf)
-- X4_refuse
theorem hd_X4_isIn : yX4_isIn.cls ≠ "java/lang/invoke/MethodHandle" ∧ yX4_isIn.cls ≠ "java/lang/invoke/VarHandle" ∧ (parseMethodDescriptor yX4_isIn.desc).map (fun d => d.parameters.length) = some 3 := by decide +kernel
theorem in_X4_refuse_X4 : ∀ w ∈ u_ws RX4 TX4 9, w ∈ wsX4_refuse := by decide +kernel
theorem fl_X4_refuse_49 : Cond.fieldLink RX4 49 "NextDoor" "refused" "[I" ∈ wsX4_refuse := by decide +kernel
abbrev rmX4_refuse : Room := { frames := 1, cells := 0, slots := 0, locals := 22 }
set_option maxHeartbeats 4000000 in
set_option maxRecDepth 100000 in
theorem k_X4_refuse_E {p : Program} {l : Launch} {e : Env} {s : State} {m : MethodId} {args : Array Value} {below : List Frame} {meth : Method} {c : Code} {D : va_G} {t : Nat → ClassId} {a : Nat → Nat} {X : State → Prop} {N : Nat} {r : Int32} {S' : ST} (hX : XOk (aW 56 a) X) (E : EN p s m args meth c cX4_refuse RX4 wsX4_refuse (some .int) 4) {S : ST} {x1 : Int32} {x2 : Int32} {H : Heap} {locs : List Loc} {ls : Array Slot} (w : Wd D (cC t a) (aW 56 a) (tyC t) X S s H locs) (hl : lv_has ls 4 [(0, .ref (a 50)), (1, .int x1), (2, .int x2)]) (hf : f_X4_refuse N S x1 x2 = some (r, S')) : W p l e rmX4_refuse s m args below meth c H locs 0 0 (MQ below (Qi D (cC t a) (aW 56 a) (tyC t) r S') args s 0 0 (aW 56 a)) (F0 m 0 ls []) := by
  obtain ⟨⟨hx, hb, hml, hown, hts⟩, hr, hlk⟩ := id E
  unfold f_X4_refuse at hf
  refine lv_bipush (v := (-2)) hx hb dX4_refuse_0 (by decide) ?_
  refine lv_iload_n hx hb dX4_refuse_2 rfl (lv_at hl 1 rfl) ?_
  refine lv_isub hx hb dX4_refuse_3 ?_
  refine lv_istore_n (lv' := [(3, .int ((-2) - x1)), (0, .ref (a 50)), (1, .int x1), (2, .int x2)]) hx hb dX4_refuse_4 rfl hl (by decide) rfl (fun ls hl => ?_)
  refine lv_iload_n hx hb dX4_refuse_5 rfl (lv_at hl 0 rfl) ?_
  refine lv_iconst (v := 0) hx hb dX4_refuse_6 (by decide) ?_
  refine lv_iconst (v := 2) hx hb dX4_refuse_7 (by decide) ?_
  obtain ⟨r3, S2, h1, hf⟩ := bd2_o hf
  refine w_callSi (As := [.int ((-2) - x1), .int 0, .int 2]) (rest := []) hX E w (c_X4_isIn l hX h1) (va_cwS 3 hts gX4_refuse_X4_isIn rfl rfl rfl hd_X4_isIn ⟨Nat.le_of_ble_eq_true rfl, Nat.le_of_ble_eq_true rfl⟩) rfl hl.1 rfl (Nat.le_of_ble_eq_true rfl) dX4_refuse_8 ⟨Nat.le_refl _, Nat.le_refl _⟩ (fun H locs w => ?_)
  refine lv_if_eq (tgt := 24) hx hb dX4_refuse_11 (by decide) (fun h4 => ?_) (fun h4 => ?_)
  · replace hf := it_t h4 hf
    refine lv_iload_n hx hb dX4_refuse_24 rfl (lv_at hl 3 rfl) ?_
    exact w_reti E w hf dX4_refuse_25
  · replace hf := it_f h4 hf
    refine lv_aload_n hx hb dX4_refuse_14 rfl (lv_at hl 1 rfl) ?_
    refine w_get E w in_X4_refuse_X4 50 (cC_at_50 t a S2) rfl 6 (by decide) fl_X4_refuse_49 rfl rfl dX4_refuse_15 ?_
    refine lv_iload_n hx hb dX4_refuse_18 rfl (lv_at hl 0 rfl) ?_
    refine lv_dup2_11 hx hb dX4_refuse_19 rfl rfl ?_
    obtain ⟨h5, hf⟩ := it_n hf
    refine w_ald E w 53 0 (cC_at_53 t a S2) rfl h5 rfl dX4_refuse_20 ?_
    refine lv_iconst (v := 1) hx hb dX4_refuse_21 (by decide) ?_
    refine lv_iadd hx hb dX4_refuse_22 ?_
    obtain ⟨h7, hf⟩ := it_n hf
    obtain ⟨S6, eS6, hf⟩ := nm_o hf
    refine w_ast (S1 := S6) E w 53 0 (cC_at_53 t a S2) rfl h7 rfl ((cC_st_53 t a S2 (((-2) - x1).toNatClampNeg) ((S2 53 ((-2) - x1).toNatClampNeg) + 1)).trans (congrArg (cC t a) eS6.symm)) dX4_refuse_23 (fun H locs w => ?_)
    refine lv_iload_n hx hb dX4_refuse_24 rfl (lv_at hl 3 rfl) ?_
    exact w_reti E w hf dX4_refuse_25
theorem c_X4_refuse (l : Launch) {D : va_G} {t : Nat → ClassId} {a : Nat → Nat} {X : State → Prop} (hX : XOk (aW 56 a) X) {N : Nat} {S : ST} {x1 : Int32} {x2 : Int32} {r : Int32} {S' : ST} (hf : f_X4_refuse N S x1 x2 = some (r, S')) : Co l yX4_refuse wsX4_refuse rmX4_refuse D (cC t a) (aW 56 a) (tyC t) X [.ref (a 50), .int x1, .int x2] S (Qi D (cC t a) (aW 56 a) (tyC t) r S') :=
  co_of (cc := cX4_refuse) (maxL := 4) (ret := (some .int)) (lv := [(0, .ref (a 50)), (1, .int x1), (2, .int x2)]) (by decide) rfl rfl (Nat.le_of_ble_eq_true rfl) rfl rfl (fun p e s m below meth c ls E hl w => k_X4_refuse_E hX E w hl hf)
-- X4_shop
theorem in_X4_shop_X4 : ∀ w ∈ u_ws RX4 TX4 9, w ∈ wsX4_shop := by decide +kernel
theorem fl_X4_shop_10 : Cond.fieldLink RX4 10 "NextDoor" "street" "LNextDoor$Street;" ∈ wsX4_shop := by decide +kernel
theorem in_X4_shop_X2 : ∀ w ∈ u_ws RX2 TX2 16, w ∈ wsX4_shop := by decide +kernel
theorem fl_X4_shop_67 : Cond.fieldLink RX4 67 "NextDoor$Street" "shops" "I" ∈ wsX4_shop := by decide +kernel
theorem hd_X2_addShop : yX2_addShop.cls = RX2 ∧ yX2_addShop.cls ≠ "java/lang/invoke/MethodHandle" ∧ yX2_addShop.cls ≠ "java/lang/invoke/VarHandle" ∧ (parseMethodDescriptor yX2_addShop.desc).map (fun d => d.parameters.length) = some 4 := by decide +kernel
theorem hd_X4_refuse : yX4_refuse.cls = RX4 ∧ yX4_refuse.cls ≠ "java/lang/invoke/MethodHandle" ∧ yX4_refuse.cls ≠ "java/lang/invoke/VarHandle" ∧ (parseMethodDescriptor yX4_refuse.desc).map (fun d => d.parameters.length) = some 2 := by decide +kernel
abbrev rmX4_shop : Room := { frames := 2, cells := 0, slots := 0, locals := 45 }
set_option maxHeartbeats 4000000 in
set_option maxRecDepth 100000 in
theorem k_X4_shop_41 {p : Program} {l : Launch} {e : Env} {s : State} {m : MethodId} {args : Array Value} {below : List Frame} {meth : Method} {c : Code} {D : va_G} {t : Nat → ClassId} {a : Nat → Nat} {X : State → Prop} {N : Nat} {r : Int32} {S' : ST} (hX : XOk (aW 56 a) X) (E : EN p s m args meth c cX4_shop RX4 wsX4_shop (some .int) 5) {S : ST} {H : Heap} {locs : List Loc} {ls : Array Slot} (w : Wd D (cC t a) (aW 56 a) (tyC t) X S s H locs) (hl : lv_has ls 5 [(0, .ref (a 50))]) (hf : b_X4_shop_41 N S = some (r, S')) : W p l e rmX4_shop s m args below meth c H locs 0 0 (MQ below (Qi D (cC t a) (aW 56 a) (tyC t) r S') args s 0 0 (aW 56 a)) (F0 m 41 ls []) := by
  obtain ⟨⟨hx, hb, hml, hown, hts⟩, hr, hlk⟩ := id E
  unfold b_X4_shop_41 at hf
  refine lv_aload_n hx hb dX4_shop_41 rfl (lv_at hl 0 rfl) ?_
  refine lv_bipush (v := (-2)) hx hb dX4_shop_42 (by decide) ?_
  refine lv_bipush (v := (-2)) hx hb dX4_shop_44 (by decide) ?_
  obtain ⟨r25, S24, h23, hf⟩ := bd2_o hf
  refine w_callVi (As := [.int (-2), .int (-2)]) (rest := []) hX E w (c_X4_refuse l hX h23) (cwV 2 hts gX4_shop_X4_refuse rfl rfl rfl hd_X4_refuse ⟨Nat.le_of_ble_eq_true rfl, Nat.le_of_ble_eq_true rfl⟩) (ci := 4) rfl (cC_at_50 t a S) rfl hl.1 rfl (Nat.le_of_ble_eq_true rfl) dX4_shop_46 ⟨Nat.le_refl _, Nat.le_refl _⟩ (fun H locs w => ?_)
  exact w_reti E w hf dX4_shop_49
set_option maxHeartbeats 4000000 in
set_option maxRecDepth 100000 in
theorem k_X4_shop_E {p : Program} {l : Launch} {e : Env} {s : State} {m : MethodId} {args : Array Value} {below : List Frame} {meth : Method} {c : Code} {D : va_G} {t : Nat → ClassId} {a : Nat → Nat} {X : State → Prop} {N : Nat} {r : Int32} {S' : ST} (hX : XOk (aW 56 a) X) (E : EN p s m args meth c cX4_shop RX4 wsX4_shop (some .int) 5) {S : ST} {x1 : Int32} {x2 : Int32} {x3 : Int32} {x4 : Int32} {H : Heap} {locs : List Loc} {ls : Array Slot} (w : Wd D (cC t a) (aW 56 a) (tyC t) X S s H locs) (hl : lv_has ls 5 [(0, .ref (a 50)), (1, .int x1), (2, .int x2), (3, .int x3), (4, .int x4)]) (hf : f_X4_shop N S x1 x2 x3 x4 = some (r, S')) : W p l e rmX4_shop s m args below meth c H locs 0 0 (MQ below (Qi D (cC t a) (aW 56 a) (tyC t) r S') args s 0 0 (aW 56 a)) (F0 m 0 ls []) := by
  obtain ⟨⟨hx, hb, hml, hown, hts⟩, hr, hlk⟩ := id E
  unfold f_X4_shop at hf
  refine lv_iload_n hx hb dX4_shop_0 rfl (lv_at hl 1 rfl) ?_
  refine lv_iconst (v := 0) hx hb dX4_shop_1 (by decide) ?_
  refine lv_iconst (v := 5) hx hb dX4_shop_2 (by decide) ?_
  obtain ⟨r3, S2, h1, hf⟩ := bd2_o hf
  refine w_callSi (As := [.int x1, .int 0, .int 5]) (rest := []) hX E w (c_X4_isIn l hX h1) (va_cwS 3 hts gX4_shop_X4_isIn rfl rfl rfl hd_X4_isIn ⟨Nat.le_of_ble_eq_true rfl, Nat.le_of_ble_eq_true rfl⟩) rfl hl.1 rfl (Nat.le_of_ble_eq_true rfl) dX4_shop_3 ⟨Nat.le_refl _, Nat.le_refl _⟩ (fun H locs w => ?_)
  refine lv_if_eq (tgt := 41) hx hb dX4_shop_6 (by decide) (fun h4 => ?_) (fun h4 => ?_)
  · replace hf := it_t h4 hf
    exact k_X4_shop_41 hX E w (lv_sub hl [0] rfl) hf
  · replace hf := it_f h4 hf
    refine lv_iload_n hx hb dX4_shop_9 rfl (lv_at hl 2 rfl) ?_
    refine lv_iconst (v := 0) hx hb dX4_shop_10 (by decide) ?_
    refine lv_bipush (v := 20) hx hb dX4_shop_11 (by decide) ?_
    obtain ⟨r7, S6, h5, hf⟩ := bd2_o hf
    refine w_callSi (As := [.int x2, .int 0, .int 20]) (rest := []) hX E w (c_X4_isIn l hX h5) (va_cwS 3 hts gX4_shop_X4_isIn rfl rfl rfl hd_X4_isIn ⟨Nat.le_of_ble_eq_true rfl, Nat.le_of_ble_eq_true rfl⟩) rfl hl.1 rfl (Nat.le_of_ble_eq_true rfl) dX4_shop_13 ⟨Nat.le_refl _, Nat.le_refl _⟩ (fun H locs w => ?_)
    refine lv_if_eq (tgt := 41) hx hb dX4_shop_16 (by decide) (fun h8 => ?_) (fun h8 => ?_)
    · replace hf := it_t h8 hf
      exact k_X4_shop_41 hX E w (lv_sub hl [0] rfl) hf
    · replace hf := it_f h8 hf
      refine lv_iload_n hx hb dX4_shop_19 rfl (lv_at hl 3 rfl) ?_
      refine lv_iconst (v := 1) hx hb dX4_shop_20 (by decide) ?_
      refine lv_bipush (v := 30) hx hb dX4_shop_21 (by decide) ?_
      obtain ⟨r11, S10, h9, hf⟩ := bd2_o hf
      refine w_callSi (As := [.int x3, .int 1, .int 30]) (rest := []) hX E w (c_X4_isIn l hX h9) (va_cwS 3 hts gX4_shop_X4_isIn rfl rfl rfl hd_X4_isIn ⟨Nat.le_of_ble_eq_true rfl, Nat.le_of_ble_eq_true rfl⟩) rfl hl.1 rfl (Nat.le_of_ble_eq_true rfl) dX4_shop_23 ⟨Nat.le_refl _, Nat.le_refl _⟩ (fun H locs w => ?_)
      refine lv_if_eq (tgt := 41) hx hb dX4_shop_26 (by decide) (fun h12 => ?_) (fun h12 => ?_)
      · replace hf := it_t h12 hf
        exact k_X4_shop_41 hX E w (lv_sub hl [0] rfl) hf
      · replace hf := it_f h12 hf
        refine lv_iload hx hb dX4_shop_29 (lv_at hl 4 rfl) ?_
        refine lv_iconst (v := 0) hx hb dX4_shop_31 (by decide) ?_
        refine lv_sipush (v := 240) hx hb dX4_shop_32 (by decide) ?_
        obtain ⟨r15, S14, h13, hf⟩ := bd2_o hf
        refine w_callSi (As := [.int x4, .int 0, .int 240]) (rest := []) hX E w (c_X4_isIn l hX h13) (va_cwS 3 hts gX4_shop_X4_isIn rfl rfl rfl hd_X4_isIn ⟨Nat.le_of_ble_eq_true rfl, Nat.le_of_ble_eq_true rfl⟩) rfl hl.1 rfl (Nat.le_of_ble_eq_true rfl) dX4_shop_35 ⟨Nat.le_refl _, Nat.le_refl _⟩ (fun H locs w => ?_)
        refine lv_if_ne (tgt := 50) hx hb dX4_shop_38 (by decide) (fun h16 => ?_) (fun h16 => ?_)
        · replace hf := it_f h16 hf
          refine lv_aload_n hx hb dX4_shop_50 rfl (lv_at hl 0 rfl) ?_
          refine w_get E w in_X4_shop_X4 50 (cC_at_50 t a S14) rfl 0 (by decide) fl_X4_shop_10 rfl rfl dX4_shop_51 ?_
          refine w_get E w in_X4_shop_X2 0 (cC_at_0 t a S14) rfl 0 (by decide) fl_X4_shop_67 rfl rfl dX4_shop_54 ?_
          refine lv_bipush (v := 6) hx hb dX4_shop_57 (by decide) ?_
          refine lv_icmp_lt (tgt := 71) hx hb dX4_shop_59 (by decide) (fun h17 => ?_) (fun h17 => ?_)
          · replace hf := it_t h17 hf
            refine lv_aload_n hx hb dX4_shop_71 rfl (lv_at hl 0 rfl) ?_
            refine w_get E w in_X4_shop_X4 50 (cC_at_50 t a S14) rfl 0 (by decide) fl_X4_shop_10 rfl rfl dX4_shop_72 ?_
            refine lv_iload_n hx hb dX4_shop_75 rfl (lv_at hl 1 rfl) ?_
            refine lv_iload_n hx hb dX4_shop_76 rfl (lv_at hl 2 rfl) ?_
            refine lv_iload_n hx hb dX4_shop_77 rfl (lv_at hl 3 rfl) ?_
            refine lv_iload hx hb dX4_shop_78 (lv_at hl 4 rfl) ?_
            obtain ⟨S19, h18, hf⟩ := bd1_o hf
            refine w_callVv (As := [.int x1, .int x2, .int x3, .int x4]) (rest := []) hX E w (c_X2_addShop_0 l hX h18) (cwV 4 hts gX4_shop_X2_addShop rfl rfl rfl hd_X2_addShop ⟨Nat.le_of_ble_eq_true rfl, Nat.le_of_ble_eq_true rfl⟩) (ci := 2) rfl (cC_at_0 t a S14) rfl hl.1 rfl (Nat.le_of_ble_eq_true rfl) dX4_shop_80 ⟨Nat.le_refl _, Nat.le_refl _⟩ (fun H locs w => ?_)
            refine lv_aload_n hx hb dX4_shop_83 rfl (lv_at hl 0 rfl) ?_
            refine w_get E w in_X4_shop_X4 50 (cC_at_50 t a S19) rfl 0 (by decide) fl_X4_shop_10 rfl rfl dX4_shop_84 ?_
            refine w_get E w in_X4_shop_X2 0 (cC_at_0 t a S19) rfl 0 (by decide) fl_X4_shop_67 rfl rfl dX4_shop_87 ?_
            refine lv_iconst (v := 1) hx hb dX4_shop_90 (by decide) ?_
            refine lv_isub hx hb dX4_shop_91 ?_
            exact w_reti E w hf dX4_shop_92
          · replace hf := it_f h17 hf
            refine lv_aload_n hx hb dX4_shop_62 rfl (lv_at hl 0 rfl) ?_
            refine lv_bipush (v := (-4)) hx hb dX4_shop_63 (by decide) ?_
            refine lv_bipush (v := (-4)) hx hb dX4_shop_65 (by decide) ?_
            obtain ⟨r22, S21, h20, hf⟩ := bd2_o hf
            refine w_callVi (As := [.int (-4), .int (-4)]) (rest := []) hX E w (c_X4_refuse l hX h20) (cwV 2 hts gX4_shop_X4_refuse rfl rfl rfl hd_X4_refuse ⟨Nat.le_of_ble_eq_true rfl, Nat.le_of_ble_eq_true rfl⟩) (ci := 4) rfl (cC_at_50 t a S14) rfl hl.1 rfl (Nat.le_of_ble_eq_true rfl) dX4_shop_67 ⟨Nat.le_refl _, Nat.le_refl _⟩ (fun H locs w => ?_)
            exact w_reti E w hf dX4_shop_70
        · replace hf := it_t h16 hf
          exact k_X4_shop_41 hX E w (lv_sub hl [0] rfl) hf
theorem c_X4_shop (l : Launch) {D : va_G} {t : Nat → ClassId} {a : Nat → Nat} {X : State → Prop} (hX : XOk (aW 56 a) X) {N : Nat} {S : ST} {x1 : Int32} {x2 : Int32} {x3 : Int32} {x4 : Int32} {r : Int32} {S' : ST} (hf : f_X4_shop N S x1 x2 x3 x4 = some (r, S')) : Co l yX4_shop wsX4_shop rmX4_shop D (cC t a) (aW 56 a) (tyC t) X [.ref (a 50), .int x1, .int x2, .int x3, .int x4] S (Qi D (cC t a) (aW 56 a) (tyC t) r S') :=
  co_of (cc := cX4_shop) (maxL := 5) (ret := (some .int)) (lv := [(0, .ref (a 50)), (1, .int x1), (2, .int x2), (3, .int x3), (4, .int x4)]) (by decide) rfl rfl (Nat.le_of_ble_eq_true rfl) rfl rfl (fun p e s m below meth c ls E hl w => k_X4_shop_E hX E w hl hf)
-- X2_hasShop_0
theorem in_X2_hasShop_X2 : ∀ w ∈ u_ws RX2 TX2 16, w ∈ wsX2_hasShop := by decide +kernel
theorem fl_X2_hasShop_46 : Cond.fieldLink RX2 46 "NextDoor$Street" "shops" "I" ∈ wsX2_hasShop := by decide +kernel
abbrev rmX2_hasShop_0 : Room := { frames := 0, cells := 0, slots := 0, locals := 0 }
set_option maxHeartbeats 4000000 in
set_option maxRecDepth 100000 in
theorem k_X2_hasShop_0_E {p : Program} {l : Launch} {e : Env} {s : State} {m : MethodId} {args : Array Value} {below : List Frame} {meth : Method} {c : Code} {D : va_G} {t : Nat → ClassId} {a : Nat → Nat} {X : State → Prop} {N : Nat} {r : Int32} {S' : ST} (hX : XOk (aW 56 a) X) (E : EN p s m args meth c cX2_hasShop RX2 wsX2_hasShop (some .boolean) 2) {S : ST} {x1 : Int32} {H : Heap} {locs : List Loc} {ls : Array Slot} (w : Wd D (cC t a) (aW 56 a) (tyC t) X S s H locs) (hl : lv_has ls 2 [(0, .ref (a 0)), (1, .int x1)]) (hf : f_X2_hasShop_0 N S x1 = some (r, S')) : W p l e rmX2_hasShop_0 s m args below meth c H locs 0 0 (MQ below (Qi D (cC t a) (aW 56 a) (tyC t) r S') args s 0 0 (aW 56 a)) (F0 m 0 ls []) := by
  obtain ⟨⟨hx, hb, hml, hown, hts⟩, hr, hlk⟩ := id E
  unfold f_X2_hasShop_0 at hf
  refine lv_iload_n hx hb dX2_hasShop_0 rfl (lv_at hl 1 rfl) ?_
  refine lv_if_lt (tgt := 16) hx hb dX2_hasShop_1 (by decide) (fun h1 => ?_) (fun h1 => ?_)
  · replace hf := it_t h1 hf
    refine lv_iconst (v := 0) hx hb dX2_hasShop_16 (by decide) ?_
    exact w_retz E w (by decide) hf dX2_hasShop_17
  · replace hf := it_f h1 hf
    refine lv_iload_n hx hb dX2_hasShop_4 rfl (lv_at hl 1 rfl) ?_
    refine lv_aload_n hx hb dX2_hasShop_5 rfl (lv_at hl 0 rfl) ?_
    refine w_get E w in_X2_hasShop_X2 0 (cC_at_0 t a S) rfl 0 (by decide) fl_X2_hasShop_46 rfl rfl dX2_hasShop_6 ?_
    refine lv_icmp_ge (tgt := 16) hx hb dX2_hasShop_9 (by decide) (fun h2 => ?_) (fun h2 => ?_)
    · replace hf := it_t h2 hf
      refine lv_iconst (v := 0) hx hb dX2_hasShop_16 (by decide) ?_
      exact w_retz E w (by decide) hf dX2_hasShop_17
    · replace hf := it_f h2 hf
      refine lv_iconst (v := 1) hx hb dX2_hasShop_12 (by decide) ?_
      refine lv_goto (tgt := 17) hx hb dX2_hasShop_13 (by decide) ?_
      exact w_retz E w (by decide) hf dX2_hasShop_17
theorem c_X2_hasShop_0 (l : Launch) {D : va_G} {t : Nat → ClassId} {a : Nat → Nat} {X : State → Prop} (hX : XOk (aW 56 a) X) {N : Nat} {S : ST} {x1 : Int32} {r : Int32} {S' : ST} (hf : f_X2_hasShop_0 N S x1 = some (r, S')) : Co l yX2_hasShop wsX2_hasShop rmX2_hasShop_0 D (cC t a) (aW 56 a) (tyC t) X [.ref (a 0), .int x1] S (Qi D (cC t a) (aW 56 a) (tyC t) r S') :=
  co_of (cc := cX2_hasShop) (maxL := 2) (ret := (some .boolean)) (lv := [(0, .ref (a 0)), (1, .int x1)]) (by decide) rfl rfl (Nat.le_of_ble_eq_true rfl) rfl rfl (fun p e s m below meth c ls E hl w => k_X2_hasShop_0_E hX E w hl hf)
-- X2_areNear_0
theorem in_X2_areNear_X2 : ∀ w ∈ u_ws RX2 TX2 16, w ∈ wsX2_areNear := by decide +kernel
theorem fl_X2_areNear_24 : Cond.fieldLink RX2 24 "NextDoor$Street" "near" "[I" ∈ wsX2_areNear := by decide +kernel
abbrev rmX2_areNear_0 : Room := { frames := 0, cells := 0, slots := 0, locals := 0 }
set_option maxHeartbeats 4000000 in
set_option maxRecDepth 100000 in
theorem k_X2_areNear_0_E {p : Program} {l : Launch} {e : Env} {s : State} {m : MethodId} {args : Array Value} {below : List Frame} {meth : Method} {c : Code} {D : va_G} {t : Nat → ClassId} {a : Nat → Nat} {X : State → Prop} {N : Nat} {r : Int32} {S' : ST} (hX : XOk (aW 56 a) X) (E : EN p s m args meth c cX2_areNear RX2 wsX2_areNear (some .boolean) 3) {S : ST} {x1 : Int32} {x2 : Int32} {H : Heap} {locs : List Loc} {ls : Array Slot} (w : Wd D (cC t a) (aW 56 a) (tyC t) X S s H locs) (hl : lv_has ls 3 [(0, .ref (a 0)), (1, .int x1), (2, .int x2)]) (hf : f_X2_areNear_0 N S x1 x2 = some (r, S')) : W p l e rmX2_areNear_0 s m args below meth c H locs 0 0 (MQ below (Qi D (cC t a) (aW 56 a) (tyC t) r S') args s 0 0 (aW 56 a)) (F0 m 0 ls []) := by
  obtain ⟨⟨hx, hb, hml, hown, hts⟩, hr, hlk⟩ := id E
  unfold f_X2_areNear_0 at hf
  refine lv_aload_n hx hb dX2_areNear_0 rfl (lv_at hl 0 rfl) ?_
  refine w_get E w in_X2_areNear_X2 0 (cC_at_0 t a S) rfl 5 (by decide) fl_X2_areNear_24 rfl rfl dX2_areNear_1 ?_
  refine lv_iload_n hx hb dX2_areNear_4 rfl (lv_at hl 1 rfl) ?_
  obtain ⟨h1, hf⟩ := it_n hf
  refine w_ald E w 5 0 (cC_at_5 t a S) rfl h1 rfl dX2_areNear_5 ?_
  refine lv_iload_n hx hb dX2_areNear_6 rfl (lv_at hl 2 rfl) ?_
  refine lv_ishr hx hb dX2_areNear_7 ?_
  refine lv_iconst (v := 1) hx hb dX2_areNear_8 (by decide) ?_
  refine lv_iand hx hb dX2_areNear_9 ?_
  refine lv_if_eq (tgt := 17) hx hb dX2_areNear_10 (by decide) (fun h2 => ?_) (fun h2 => ?_)
  · replace hf := it_t h2 hf
    refine lv_iconst (v := 0) hx hb dX2_areNear_17 (by decide) ?_
    exact w_retz E w (by decide) hf dX2_areNear_18
  · replace hf := it_f h2 hf
    refine lv_iconst (v := 1) hx hb dX2_areNear_13 (by decide) ?_
    refine lv_goto (tgt := 18) hx hb dX2_areNear_14 (by decide) ?_
    exact w_retz E w (by decide) hf dX2_areNear_18
theorem c_X2_areNear_0 (l : Launch) {D : va_G} {t : Nat → ClassId} {a : Nat → Nat} {X : State → Prop} (hX : XOk (aW 56 a) X) {N : Nat} {S : ST} {x1 : Int32} {x2 : Int32} {r : Int32} {S' : ST} (hf : f_X2_areNear_0 N S x1 x2 = some (r, S')) : Co l yX2_areNear wsX2_areNear rmX2_areNear_0 D (cC t a) (aW 56 a) (tyC t) X [.ref (a 0), .int x1, .int x2] S (Qi D (cC t a) (aW 56 a) (tyC t) r S') :=
  co_of (cc := cX2_areNear) (maxL := 3) (ret := (some .boolean)) (lv := [(0, .ref (a 0)), (1, .int x1), (2, .int x2)]) (by decide) rfl rfl (Nat.le_of_ble_eq_true rfl) rfl rfl (fun p e s m below meth c ls E hl w => k_X2_areNear_0_E hX E w hl hf)
-- X2_setNear_0
theorem in_X2_setNear_X2 : ∀ w ∈ u_ws RX2 TX2 16, w ∈ wsX2_setNear := by decide +kernel
theorem fl_X2_setNear_24 : Cond.fieldLink RX2 24 "NextDoor$Street" "near" "[I" ∈ wsX2_setNear := by decide +kernel
abbrev rmX2_setNear_0 : Room := { frames := 0, cells := 0, slots := 0, locals := 0 }
set_option maxHeartbeats 4000000 in
set_option maxRecDepth 100000 in
theorem k_X2_setNear_0_69 {p : Program} {l : Launch} {e : Env} {s : State} {m : MethodId} {args : Array Value} {below : List Frame} {meth : Method} {c : Code} {D : va_G} {t : Nat → ClassId} {a : Nat → Nat} {X : State → Prop} {N : Nat} {S' : ST} (hX : XOk (aW 56 a) X) (E : EN p s m args meth c cX2_setNear RX2 wsX2_setNear none 4) {S : ST} {s1 : Int32} {s2 : Int32} {H : Heap} {locs : List Loc} {ls : Array Slot} (w : Wd D (cC t a) (aW 56 a) (tyC t) X S s H locs) (hl : lv_has ls 4 []) (hf : b_X2_setNear_0_69 N S s1 s2 = some S') : W p l e rmX2_setNear_0 s m args below meth c H locs 0 0 (MQ below (Qv D (cC t a) (aW 56 a) (tyC t) S') args s 0 0 (aW 56 a)) (F0 m 69 ls [.int s2, .int s1, .ref (a 5)]) := by
  obtain ⟨⟨hx, hb, hml, hown, hts⟩, hr, hlk⟩ := id E
  unfold b_X2_setNear_0_69 at hf
  obtain ⟨h10, hf⟩ := it_n hf
  obtain ⟨S9, eS9, hf⟩ := nm_o hf
  refine w_ast (S1 := S9) E w 5 0 (cC_at_5 t a S) rfl h10 rfl ((cC_st_5 t a S s1.toNatClampNeg s2).trans (congrArg (cC t a) eS9.symm)) dX2_setNear_69 (fun H locs w => ?_)
  exact w_retv E w hf dX2_setNear_70
set_option maxHeartbeats 4000000 in
set_option maxRecDepth 100000 in
theorem k_X2_setNear_0_34 {p : Program} {l : Launch} {e : Env} {s : State} {m : MethodId} {args : Array Value} {below : List Frame} {meth : Method} {c : Code} {D : va_G} {t : Nat → ClassId} {a : Nat → Nat} {X : State → Prop} {N : Nat} {S' : ST} (hX : XOk (aW 56 a) X) (E : EN p s m args meth c cX2_setNear RX2 wsX2_setNear none 4) {S : ST} {x1 : Int32} {x2 : Int32} {x3 : Int32} {s1 : Int32} {s2 : Int32} {H : Heap} {locs : List Loc} {ls : Array Slot} (w : Wd D (cC t a) (aW 56 a) (tyC t) X S s H locs) (hl : lv_has ls 4 [(0, .ref (a 0)), (1, .int x1), (2, .int x2), (3, .int x3)]) (hf : b_X2_setNear_0_34 N S x1 x2 x3 s1 s2 = some S') : W p l e rmX2_setNear_0 s m args below meth c H locs 0 0 (MQ below (Qv D (cC t a) (aW 56 a) (tyC t) S') args s 0 0 (aW 56 a)) (F0 m 34 ls [.int s2, .int s1, .ref (a 5)]) := by
  obtain ⟨⟨hx, hb, hml, hown, hts⟩, hr, hlk⟩ := id E
  unfold b_X2_setNear_0_34 at hf
  obtain ⟨h5, hf⟩ := it_n hf
  obtain ⟨S4, eS4, hf⟩ := nm_o hf
  refine w_ast (S1 := S4) E w 5 0 (cC_at_5 t a S) rfl h5 rfl ((cC_st_5 t a S s1.toNatClampNeg s2).trans (congrArg (cC t a) eS4.symm)) dX2_setNear_34 (fun H locs w => ?_)
  refine lv_aload_n hx hb dX2_setNear_35 rfl (lv_at hl 0 rfl) ?_
  refine w_get E w in_X2_setNear_X2 0 (cC_at_0 t a S4) rfl 5 (by decide) fl_X2_setNear_24 rfl rfl dX2_setNear_36 ?_
  refine lv_iload_n hx hb dX2_setNear_39 rfl (lv_at hl 2 rfl) ?_
  refine lv_iload_n hx hb dX2_setNear_40 rfl (lv_at hl 3 rfl) ?_
  refine lv_if_eq (tgt := 57) hx hb dX2_setNear_41 (by decide) (fun h6 => ?_) (fun h6 => ?_)
  · replace hf := it_t h6 hf
    refine lv_aload_n hx hb dX2_setNear_57 rfl (lv_at hl 0 rfl) ?_
    refine w_get E w in_X2_setNear_X2 0 (cC_at_0 t a S4) rfl 5 (by decide) fl_X2_setNear_24 rfl rfl dX2_setNear_58 ?_
    refine lv_iload_n hx hb dX2_setNear_61 rfl (lv_at hl 2 rfl) ?_
    obtain ⟨h7, hf⟩ := it_n hf
    refine w_ald E w 5 0 (cC_at_5 t a S4) rfl h7 rfl dX2_setNear_62 ?_
    refine lv_iconst (v := 1) hx hb dX2_setNear_63 (by decide) ?_
    refine lv_iload_n hx hb dX2_setNear_64 rfl (lv_at hl 1 rfl) ?_
    refine lv_ishl hx hb dX2_setNear_65 ?_
    refine lv_iconst (v := (-1)) hx hb dX2_setNear_66 (by decide) ?_
    refine lv_ixor hx hb dX2_setNear_67 ?_
    refine lv_iand hx hb dX2_setNear_68 ?_
    exact k_X2_setNear_0_69 hX E w (lv_sub hl [] rfl) hf
  · replace hf := it_f h6 hf
    refine lv_aload_n hx hb dX2_setNear_44 rfl (lv_at hl 0 rfl) ?_
    refine w_get E w in_X2_setNear_X2 0 (cC_at_0 t a S4) rfl 5 (by decide) fl_X2_setNear_24 rfl rfl dX2_setNear_45 ?_
    refine lv_iload_n hx hb dX2_setNear_48 rfl (lv_at hl 2 rfl) ?_
    obtain ⟨h8, hf⟩ := it_n hf
    refine w_ald E w 5 0 (cC_at_5 t a S4) rfl h8 rfl dX2_setNear_49 ?_
    refine lv_iconst (v := 1) hx hb dX2_setNear_50 (by decide) ?_
    refine lv_iload_n hx hb dX2_setNear_51 rfl (lv_at hl 1 rfl) ?_
    refine lv_ishl hx hb dX2_setNear_52 ?_
    refine lv_ior hx hb dX2_setNear_53 ?_
    refine lv_goto (tgt := 69) hx hb dX2_setNear_54 (by decide) ?_
    exact k_X2_setNear_0_69 hX E w (lv_sub hl [] rfl) hf
set_option maxHeartbeats 4000000 in
set_option maxRecDepth 100000 in
theorem k_X2_setNear_0_E {p : Program} {l : Launch} {e : Env} {s : State} {m : MethodId} {args : Array Value} {below : List Frame} {meth : Method} {c : Code} {D : va_G} {t : Nat → ClassId} {a : Nat → Nat} {X : State → Prop} {N : Nat} {S' : ST} (hX : XOk (aW 56 a) X) (E : EN p s m args meth c cX2_setNear RX2 wsX2_setNear none 4) {S : ST} {x1 : Int32} {x2 : Int32} {x3 : Int32} {H : Heap} {locs : List Loc} {ls : Array Slot} (w : Wd D (cC t a) (aW 56 a) (tyC t) X S s H locs) (hl : lv_has ls 4 [(0, .ref (a 0)), (1, .int x1), (2, .int x2), (3, .int x3)]) (hf : f_X2_setNear_0 N S x1 x2 x3 = some S') : W p l e rmX2_setNear_0 s m args below meth c H locs 0 0 (MQ below (Qv D (cC t a) (aW 56 a) (tyC t) S') args s 0 0 (aW 56 a)) (F0 m 0 ls []) := by
  obtain ⟨⟨hx, hb, hml, hown, hts⟩, hr, hlk⟩ := id E
  unfold f_X2_setNear_0 at hf
  refine lv_aload_n hx hb dX2_setNear_0 rfl (lv_at hl 0 rfl) ?_
  refine w_get E w in_X2_setNear_X2 0 (cC_at_0 t a S) rfl 5 (by decide) fl_X2_setNear_24 rfl rfl dX2_setNear_1 ?_
  refine lv_iload_n hx hb dX2_setNear_4 rfl (lv_at hl 1 rfl) ?_
  refine lv_iload_n hx hb dX2_setNear_5 rfl (lv_at hl 3 rfl) ?_
  refine lv_if_eq (tgt := 22) hx hb dX2_setNear_6 (by decide) (fun h1 => ?_) (fun h1 => ?_)
  · replace hf := it_t h1 hf
    refine lv_aload_n hx hb dX2_setNear_22 rfl (lv_at hl 0 rfl) ?_
    refine w_get E w in_X2_setNear_X2 0 (cC_at_0 t a S) rfl 5 (by decide) fl_X2_setNear_24 rfl rfl dX2_setNear_23 ?_
    refine lv_iload_n hx hb dX2_setNear_26 rfl (lv_at hl 1 rfl) ?_
    obtain ⟨h2, hf⟩ := it_n hf
    refine w_ald E w 5 0 (cC_at_5 t a S) rfl h2 rfl dX2_setNear_27 ?_
    refine lv_iconst (v := 1) hx hb dX2_setNear_28 (by decide) ?_
    refine lv_iload_n hx hb dX2_setNear_29 rfl (lv_at hl 2 rfl) ?_
    refine lv_ishl hx hb dX2_setNear_30 ?_
    refine lv_iconst (v := (-1)) hx hb dX2_setNear_31 (by decide) ?_
    refine lv_ixor hx hb dX2_setNear_32 ?_
    refine lv_iand hx hb dX2_setNear_33 ?_
    exact k_X2_setNear_0_34 hX E w (lv_sub hl [0, 1, 2, 3] rfl) hf
  · replace hf := it_f h1 hf
    refine lv_aload_n hx hb dX2_setNear_9 rfl (lv_at hl 0 rfl) ?_
    refine w_get E w in_X2_setNear_X2 0 (cC_at_0 t a S) rfl 5 (by decide) fl_X2_setNear_24 rfl rfl dX2_setNear_10 ?_
    refine lv_iload_n hx hb dX2_setNear_13 rfl (lv_at hl 1 rfl) ?_
    obtain ⟨h3, hf⟩ := it_n hf
    refine w_ald E w 5 0 (cC_at_5 t a S) rfl h3 rfl dX2_setNear_14 ?_
    refine lv_iconst (v := 1) hx hb dX2_setNear_15 (by decide) ?_
    refine lv_iload_n hx hb dX2_setNear_16 rfl (lv_at hl 2 rfl) ?_
    refine lv_ishl hx hb dX2_setNear_17 ?_
    refine lv_ior hx hb dX2_setNear_18 ?_
    refine lv_goto (tgt := 34) hx hb dX2_setNear_19 (by decide) ?_
    exact k_X2_setNear_0_34 hX E w (lv_sub hl [0, 1, 2, 3] rfl) hf
theorem c_X2_setNear_0 (l : Launch) {D : va_G} {t : Nat → ClassId} {a : Nat → Nat} {X : State → Prop} (hX : XOk (aW 56 a) X) {N : Nat} {S : ST} {x1 : Int32} {x2 : Int32} {x3 : Int32} {S' : ST} (hf : f_X2_setNear_0 N S x1 x2 x3 = some S') : Co l yX2_setNear wsX2_setNear rmX2_setNear_0 D (cC t a) (aW 56 a) (tyC t) X [.ref (a 0), .int x1, .int x2, .int x3] S (Qv D (cC t a) (aW 56 a) (tyC t) S') :=
  co_of (cc := cX2_setNear) (maxL := 4) (ret := none) (lv := [(0, .ref (a 0)), (1, .int x1), (2, .int x2), (3, .int x3)]) (by decide) rfl rfl (Nat.le_of_ble_eq_true rfl) rfl rfl (fun p e s m below meth c ls E hl w => k_X2_setNear_0_E hX E w hl hf)
-- X4_next
theorem in_X4_next_X4 : ∀ w ∈ u_ws RX4 TX4 9, w ∈ wsX4_next := by decide +kernel
theorem fl_X4_next_10 : Cond.fieldLink RX4 10 "NextDoor" "street" "LNextDoor$Street;" ∈ wsX4_next := by decide +kernel
theorem hd_X2_hasShop : yX2_hasShop.cls = RX2 ∧ yX2_hasShop.cls ≠ "java/lang/invoke/MethodHandle" ∧ yX2_hasShop.cls ≠ "java/lang/invoke/VarHandle" ∧ (parseMethodDescriptor yX2_hasShop.desc).map (fun d => d.parameters.length) = some 1 := by decide +kernel
theorem hd_X2_areNear : yX2_areNear.cls = RX2 ∧ yX2_areNear.cls ≠ "java/lang/invoke/MethodHandle" ∧ yX2_areNear.cls ≠ "java/lang/invoke/VarHandle" ∧ (parseMethodDescriptor yX2_areNear.desc).map (fun d => d.parameters.length) = some 2 := by decide +kernel
theorem hd_X2_setNear : yX2_setNear.cls = RX2 ∧ yX2_setNear.cls ≠ "java/lang/invoke/MethodHandle" ∧ yX2_setNear.cls ≠ "java/lang/invoke/VarHandle" ∧ (parseMethodDescriptor yX2_setNear.desc).map (fun d => d.parameters.length) = some 3 := by decide +kernel
abbrev rmX4_next : Room := { frames := 2, cells := 0, slots := 0, locals := 45 }
set_option maxHeartbeats 4000000 in
set_option maxRecDepth 100000 in
theorem k_X4_next_27 {p : Program} {l : Launch} {e : Env} {s : State} {m : MethodId} {args : Array Value} {below : List Frame} {meth : Method} {c : Code} {D : va_G} {t : Nat → ClassId} {a : Nat → Nat} {X : State → Prop} {N : Nat} {r : Int32} {S' : ST} (hX : XOk (aW 56 a) X) (E : EN p s m args meth c cX4_next RX4 wsX4_next (some .int) 4) {S : ST} {H : Heap} {locs : List Loc} {ls : Array Slot} (w : Wd D (cC t a) (aW 56 a) (tyC t) X S s H locs) (hl : lv_has ls 4 [(0, .ref (a 50))]) (hf : b_X4_next_27 N S = some (r, S')) : W p l e rmX4_next s m args below meth c H locs 0 0 (MQ below (Qi D (cC t a) (aW 56 a) (tyC t) r S') args s 0 0 (aW 56 a)) (F0 m 27 ls []) := by
  obtain ⟨⟨hx, hb, hml, hown, hts⟩, hr, hlk⟩ := id E
  unfold b_X4_next_27 at hf
  refine lv_aload_n hx hb dX4_next_27 rfl (lv_at hl 0 rfl) ?_
  refine lv_bipush (v := (-2)) hx hb dX4_next_28 (by decide) ?_
  refine lv_bipush (v := (-2)) hx hb dX4_next_30 (by decide) ?_
  obtain ⟨r21, S20, h19, hf⟩ := bd2_o hf
  refine w_callVi (As := [.int (-2), .int (-2)]) (rest := []) hX E w (c_X4_refuse l hX h19) (cwV 2 hts gX4_next_X4_refuse rfl rfl rfl hd_X4_refuse ⟨Nat.le_of_ble_eq_true rfl, Nat.le_of_ble_eq_true rfl⟩) (ci := 4) rfl (cC_at_50 t a S) rfl hl.1 rfl (Nat.le_of_ble_eq_true rfl) dX4_next_32 ⟨Nat.le_refl _, Nat.le_refl _⟩ (fun H locs w => ?_)
  exact w_reti E w hf dX4_next_35
set_option maxHeartbeats 4000000 in
set_option maxRecDepth 100000 in
theorem k_X4_next_E {p : Program} {l : Launch} {e : Env} {s : State} {m : MethodId} {args : Array Value} {below : List Frame} {meth : Method} {c : Code} {D : va_G} {t : Nat → ClassId} {a : Nat → Nat} {X : State → Prop} {N : Nat} {r : Int32} {S' : ST} (hX : XOk (aW 56 a) X) (E : EN p s m args meth c cX4_next RX4 wsX4_next (some .int) 4) {S : ST} {x1 : Int32} {x2 : Int32} {x3 : Int32} {H : Heap} {locs : List Loc} {ls : Array Slot} (w : Wd D (cC t a) (aW 56 a) (tyC t) X S s H locs) (hl : lv_has ls 4 [(0, .ref (a 50)), (1, .int x1), (2, .int x2), (3, .int x3)]) (hf : f_X4_next N S x1 x2 x3 = some (r, S')) : W p l e rmX4_next s m args below meth c H locs 0 0 (MQ below (Qi D (cC t a) (aW 56 a) (tyC t) r S') args s 0 0 (aW 56 a)) (F0 m 0 ls []) := by
  obtain ⟨⟨hx, hb, hml, hown, hts⟩, hr, hlk⟩ := id E
  unfold f_X4_next at hf
  refine lv_aload_n hx hb dX4_next_0 rfl (lv_at hl 0 rfl) ?_
  refine w_get E w in_X4_next_X4 50 (cC_at_50 t a S) rfl 0 (by decide) fl_X4_next_10 rfl rfl dX4_next_1 ?_
  refine lv_iload_n hx hb dX4_next_4 rfl (lv_at hl 1 rfl) ?_
  obtain ⟨r3, S2, h1, hf⟩ := bd2_o hf
  refine w_callVi (As := [.int x1]) (rest := []) hX E w (c_X2_hasShop_0 l hX h1) (cwV 1 hts gX4_next_X2_hasShop rfl rfl rfl hd_X2_hasShop ⟨Nat.le_of_ble_eq_true rfl, Nat.le_of_ble_eq_true rfl⟩) (ci := 2) rfl (cC_at_0 t a S) rfl hl.1 rfl (Nat.le_of_ble_eq_true rfl) dX4_next_5 ⟨Nat.le_refl _, Nat.le_refl _⟩ (fun H locs w => ?_)
  refine lv_if_eq (tgt := 27) hx hb dX4_next_8 (by decide) (fun h4 => ?_) (fun h4 => ?_)
  · replace hf := it_t h4 hf
    exact k_X4_next_27 hX E w (lv_sub hl [0] rfl) hf
  · replace hf := it_f h4 hf
    refine lv_aload_n hx hb dX4_next_11 rfl (lv_at hl 0 rfl) ?_
    refine w_get E w in_X4_next_X4 50 (cC_at_50 t a S2) rfl 0 (by decide) fl_X4_next_10 rfl rfl dX4_next_12 ?_
    refine lv_iload_n hx hb dX4_next_15 rfl (lv_at hl 2 rfl) ?_
    obtain ⟨r7, S6, h5, hf⟩ := bd2_o hf
    refine w_callVi (As := [.int x2]) (rest := []) hX E w (c_X2_hasShop_0 l hX h5) (cwV 1 hts gX4_next_X2_hasShop rfl rfl rfl hd_X2_hasShop ⟨Nat.le_of_ble_eq_true rfl, Nat.le_of_ble_eq_true rfl⟩) (ci := 2) rfl (cC_at_0 t a S2) rfl hl.1 rfl (Nat.le_of_ble_eq_true rfl) dX4_next_16 ⟨Nat.le_refl _, Nat.le_refl _⟩ (fun H locs w => ?_)
    refine lv_if_eq (tgt := 27) hx hb dX4_next_19 (by decide) (fun h8 => ?_) (fun h8 => ?_)
    · replace hf := it_t h8 hf
      exact k_X4_next_27 hX E w (lv_sub hl [0] rfl) hf
    · replace hf := it_f h8 hf
      refine lv_iload_n hx hb dX4_next_22 rfl (lv_at hl 1 rfl) ?_
      refine lv_iload_n hx hb dX4_next_23 rfl (lv_at hl 2 rfl) ?_
      refine lv_icmp_ne (tgt := 36) hx hb dX4_next_24 (by decide) (fun h9 => ?_) (fun h9 => ?_)
      · replace hf := it_f h9 hf
        refine lv_aload_n hx hb dX4_next_36 rfl (lv_at hl 0 rfl) ?_
        refine w_get E w in_X4_next_X4 50 (cC_at_50 t a S6) rfl 0 (by decide) fl_X4_next_10 rfl rfl dX4_next_37 ?_
        refine lv_iload_n hx hb dX4_next_40 rfl (lv_at hl 1 rfl) ?_
        refine lv_iload_n hx hb dX4_next_41 rfl (lv_at hl 2 rfl) ?_
        obtain ⟨r12, S11, h10, hf⟩ := bd2_o hf
        refine w_callVi (As := [.int x1, .int x2]) (rest := []) hX E w (c_X2_areNear_0 l hX h10) (cwV 2 hts gX4_next_X2_areNear rfl rfl rfl hd_X2_areNear ⟨Nat.le_of_ble_eq_true rfl, Nat.le_of_ble_eq_true rfl⟩) (ci := 2) rfl (cC_at_0 t a S6) rfl hl.1 rfl (Nat.le_of_ble_eq_true rfl) dX4_next_42 ⟨Nat.le_refl _, Nat.le_refl _⟩ (fun H locs w => ?_)
        refine lv_iload_n hx hb dX4_next_45 rfl (lv_at hl 3 rfl) ?_
        refine lv_icmp_ne (tgt := 58) hx hb dX4_next_46 (by decide) (fun h13 => ?_) (fun h13 => ?_)
        · replace hf := it_f h13 hf
          refine lv_aload_n hx hb dX4_next_58 rfl (lv_at hl 0 rfl) ?_
          refine w_get E w in_X4_next_X4 50 (cC_at_50 t a S11) rfl 0 (by decide) fl_X4_next_10 rfl rfl dX4_next_59 ?_
          refine lv_iload_n hx hb dX4_next_62 rfl (lv_at hl 1 rfl) ?_
          refine lv_iload_n hx hb dX4_next_63 rfl (lv_at hl 2 rfl) ?_
          refine lv_iload_n hx hb dX4_next_64 rfl (lv_at hl 3 rfl) ?_
          obtain ⟨S15, h14, hf⟩ := bd1_o hf
          refine w_callVv (As := [.int x1, .int x2, .int x3]) (rest := []) hX E w (c_X2_setNear_0 l hX h14) (cwV 3 hts gX4_next_X2_setNear rfl rfl rfl hd_X2_setNear ⟨Nat.le_of_ble_eq_true rfl, Nat.le_of_ble_eq_true rfl⟩) (ci := 2) rfl (cC_at_0 t a S11) rfl hl.1 rfl (Nat.le_of_ble_eq_true rfl) dX4_next_65 ⟨Nat.le_refl _, Nat.le_refl _⟩ (fun H locs w => ?_)
          refine lv_iconst (v := 1) hx hb dX4_next_68 (by decide) ?_
          exact w_reti E w hf dX4_next_69
        · replace hf := it_t h13 hf
          refine lv_aload_n hx hb dX4_next_49 rfl (lv_at hl 0 rfl) ?_
          refine lv_bipush (v := (-3)) hx hb dX4_next_50 (by decide) ?_
          refine lv_bipush (v := (-3)) hx hb dX4_next_52 (by decide) ?_
          obtain ⟨r18, S17, h16, hf⟩ := bd2_o hf
          refine w_callVi (As := [.int (-3), .int (-3)]) (rest := []) hX E w (c_X4_refuse l hX h16) (cwV 2 hts gX4_next_X4_refuse rfl rfl rfl hd_X4_refuse ⟨Nat.le_of_ble_eq_true rfl, Nat.le_of_ble_eq_true rfl⟩) (ci := 4) rfl (cC_at_50 t a S11) rfl hl.1 rfl (Nat.le_of_ble_eq_true rfl) dX4_next_54 ⟨Nat.le_refl _, Nat.le_refl _⟩ (fun H locs w => ?_)
          exact w_reti E w hf dX4_next_57
      · replace hf := it_t h9 hf
        exact k_X4_next_27 hX E w (lv_sub hl [0] rfl) hf
theorem c_X4_next (l : Launch) {D : va_G} {t : Nat → ClassId} {a : Nat → Nat} {X : State → Prop} (hX : XOk (aW 56 a) X) {N : Nat} {S : ST} {x1 : Int32} {x2 : Int32} {x3 : Int32} {r : Int32} {S' : ST} (hf : f_X4_next N S x1 x2 x3 = some (r, S')) : Co l yX4_next wsX4_next rmX4_next D (cC t a) (aW 56 a) (tyC t) X [.ref (a 50), .int x1, .int x2, .int x3] S (Qi D (cC t a) (aW 56 a) (tyC t) r S') :=
  co_of (cc := cX4_next) (maxL := 4) (ret := (some .int)) (lv := [(0, .ref (a 50)), (1, .int x1), (2, .int x2), (3, .int x3)]) (by decide) rfl rfl (Nat.le_of_ble_eq_true rfl) rfl rfl (fun p e s m below meth c ls E hl w => k_X4_next_E hX E w hl hf)
-- X2_isFree_0
theorem in_X2_isFree_X2 : ∀ w ∈ u_ws RX2 TX2 16, w ∈ wsX2_isFree := by decide +kernel
theorem fl_X2_isFree_49 : Cond.fieldLink RX2 49 "NextDoor$Street" "freeOnes" "I" ∈ wsX2_isFree := by decide +kernel
abbrev rmX2_isFree_0 : Room := { frames := 0, cells := 0, slots := 0, locals := 0 }
set_option maxHeartbeats 4000000 in
set_option maxRecDepth 100000 in
theorem k_X2_isFree_0_E {p : Program} {l : Launch} {e : Env} {s : State} {m : MethodId} {args : Array Value} {below : List Frame} {meth : Method} {c : Code} {D : va_G} {t : Nat → ClassId} {a : Nat → Nat} {X : State → Prop} {N : Nat} {r : Int32} {S' : ST} (hX : XOk (aW 56 a) X) (E : EN p s m args meth c cX2_isFree RX2 wsX2_isFree (some .boolean) 2) {S : ST} {x1 : Int32} {H : Heap} {locs : List Loc} {ls : Array Slot} (w : Wd D (cC t a) (aW 56 a) (tyC t) X S s H locs) (hl : lv_has ls 2 [(0, .ref (a 0)), (1, .int x1)]) (hf : f_X2_isFree_0 N S x1 = some (r, S')) : W p l e rmX2_isFree_0 s m args below meth c H locs 0 0 (MQ below (Qi D (cC t a) (aW 56 a) (tyC t) r S') args s 0 0 (aW 56 a)) (F0 m 0 ls []) := by
  obtain ⟨⟨hx, hb, hml, hown, hts⟩, hr, hlk⟩ := id E
  unfold f_X2_isFree_0 at hf
  refine lv_aload_n hx hb dX2_isFree_0 rfl (lv_at hl 0 rfl) ?_
  refine w_get E w in_X2_isFree_X2 0 (cC_at_0 t a S) rfl 6 (by decide) fl_X2_isFree_49 rfl rfl dX2_isFree_1 ?_
  refine lv_iload_n hx hb dX2_isFree_4 rfl (lv_at hl 1 rfl) ?_
  refine lv_ishr hx hb dX2_isFree_5 ?_
  refine lv_iconst (v := 1) hx hb dX2_isFree_6 (by decide) ?_
  refine lv_iand hx hb dX2_isFree_7 ?_
  refine lv_if_eq (tgt := 15) hx hb dX2_isFree_8 (by decide) (fun h1 => ?_) (fun h1 => ?_)
  · replace hf := it_t h1 hf
    refine lv_iconst (v := 0) hx hb dX2_isFree_15 (by decide) ?_
    exact w_retz E w (by decide) hf dX2_isFree_16
  · replace hf := it_f h1 hf
    refine lv_iconst (v := 1) hx hb dX2_isFree_11 (by decide) ?_
    refine lv_goto (tgt := 16) hx hb dX2_isFree_12 (by decide) ?_
    exact w_retz E w (by decide) hf dX2_isFree_16
theorem c_X2_isFree_0 (l : Launch) {D : va_G} {t : Nat → ClassId} {a : Nat → Nat} {X : State → Prop} (hX : XOk (aW 56 a) X) {N : Nat} {S : ST} {x1 : Int32} {r : Int32} {S' : ST} (hf : f_X2_isFree_0 N S x1 = some (r, S')) : Co l yX2_isFree wsX2_isFree rmX2_isFree_0 D (cC t a) (aW 56 a) (tyC t) X [.ref (a 0), .int x1] S (Qi D (cC t a) (aW 56 a) (tyC t) r S') :=
  co_of (cc := cX2_isFree) (maxL := 2) (ret := (some .boolean)) (lv := [(0, .ref (a 0)), (1, .int x1)]) (by decide) rfl rfl (Nat.le_of_ble_eq_true rfl) rfl rfl (fun p e s m below meth c ls E hl w => k_X2_isFree_0_E hX E w hl hf)
-- X2_setFree_0
theorem in_X2_setFree_X2 : ∀ w ∈ u_ws RX2 TX2 16, w ∈ wsX2_setFree := by decide +kernel
theorem fl_X2_setFree_49 : Cond.fieldLink RX2 49 "NextDoor$Street" "freeOnes" "I" ∈ wsX2_setFree := by decide +kernel
abbrev rmX2_setFree_0 : Room := { frames := 0, cells := 0, slots := 0, locals := 0 }
set_option maxHeartbeats 4000000 in
set_option maxRecDepth 100000 in
theorem k_X2_setFree_0_26 {p : Program} {l : Launch} {e : Env} {s : State} {m : MethodId} {args : Array Value} {below : List Frame} {meth : Method} {c : Code} {D : va_G} {t : Nat → ClassId} {a : Nat → Nat} {X : State → Prop} {N : Nat} {S' : ST} (hX : XOk (aW 56 a) X) (E : EN p s m args meth c cX2_setFree RX2 wsX2_setFree none 3) {S : ST} {s1 : Int32} {H : Heap} {locs : List Loc} {ls : Array Slot} (w : Wd D (cC t a) (aW 56 a) (tyC t) X S s H locs) (hl : lv_has ls 3 []) (hf : b_X2_setFree_0_26 N S s1 = some S') : W p l e rmX2_setFree_0 s m args below meth c H locs 0 0 (MQ below (Qv D (cC t a) (aW 56 a) (tyC t) S') args s 0 0 (aW 56 a)) (F0 m 26 ls [.int s1, .ref (a 0)]) := by
  obtain ⟨⟨hx, hb, hml, hown, hts⟩, hr, hlk⟩ := id E
  unfold b_X2_setFree_0_26 at hf
  obtain ⟨S2, eS2, hf⟩ := nm_o hf
  refine w_put (S1 := S2) E w in_X2_setFree_X2 tyX2 tyX2_ok nmX2 0 (cC_at_0 t a S) rfl 6 (by decide) fl_X2_setFree_49 rfl rfl rfl rfl rfl (Nat.le_of_ble_eq_true rfl) ((cC_set_0_6 t a S s1).trans (congrArg (cC t a) eS2.symm)) dX2_setFree_26 (fun H locs w => ?_)
  exact w_retv E w hf dX2_setFree_29
set_option maxHeartbeats 4000000 in
set_option maxRecDepth 100000 in
theorem k_X2_setFree_0_E {p : Program} {l : Launch} {e : Env} {s : State} {m : MethodId} {args : Array Value} {below : List Frame} {meth : Method} {c : Code} {D : va_G} {t : Nat → ClassId} {a : Nat → Nat} {X : State → Prop} {N : Nat} {S' : ST} (hX : XOk (aW 56 a) X) (E : EN p s m args meth c cX2_setFree RX2 wsX2_setFree none 3) {S : ST} {x1 : Int32} {x2 : Int32} {H : Heap} {locs : List Loc} {ls : Array Slot} (w : Wd D (cC t a) (aW 56 a) (tyC t) X S s H locs) (hl : lv_has ls 3 [(0, .ref (a 0)), (1, .int x1), (2, .int x2)]) (hf : f_X2_setFree_0 N S x1 x2 = some S') : W p l e rmX2_setFree_0 s m args below meth c H locs 0 0 (MQ below (Qv D (cC t a) (aW 56 a) (tyC t) S') args s 0 0 (aW 56 a)) (F0 m 0 ls []) := by
  obtain ⟨⟨hx, hb, hml, hown, hts⟩, hr, hlk⟩ := id E
  unfold f_X2_setFree_0 at hf
  refine lv_aload_n hx hb dX2_setFree_0 rfl (lv_at hl 0 rfl) ?_
  refine lv_iload_n hx hb dX2_setFree_1 rfl (lv_at hl 2 rfl) ?_
  refine lv_if_eq (tgt := 16) hx hb dX2_setFree_2 (by decide) (fun h1 => ?_) (fun h1 => ?_)
  · replace hf := it_t h1 hf
    refine lv_aload_n hx hb dX2_setFree_16 rfl (lv_at hl 0 rfl) ?_
    refine w_get E w in_X2_setFree_X2 0 (cC_at_0 t a S) rfl 6 (by decide) fl_X2_setFree_49 rfl rfl dX2_setFree_17 ?_
    refine lv_iconst (v := 1) hx hb dX2_setFree_20 (by decide) ?_
    refine lv_iload_n hx hb dX2_setFree_21 rfl (lv_at hl 1 rfl) ?_
    refine lv_ishl hx hb dX2_setFree_22 ?_
    refine lv_iconst (v := (-1)) hx hb dX2_setFree_23 (by decide) ?_
    refine lv_ixor hx hb dX2_setFree_24 ?_
    refine lv_iand hx hb dX2_setFree_25 ?_
    exact k_X2_setFree_0_26 hX E w (lv_sub hl [] rfl) hf
  · replace hf := it_f h1 hf
    refine lv_aload_n hx hb dX2_setFree_5 rfl (lv_at hl 0 rfl) ?_
    refine w_get E w in_X2_setFree_X2 0 (cC_at_0 t a S) rfl 6 (by decide) fl_X2_setFree_49 rfl rfl dX2_setFree_6 ?_
    refine lv_iconst (v := 1) hx hb dX2_setFree_9 (by decide) ?_
    refine lv_iload_n hx hb dX2_setFree_10 rfl (lv_at hl 1 rfl) ?_
    refine lv_ishl hx hb dX2_setFree_11 ?_
    refine lv_ior hx hb dX2_setFree_12 ?_
    refine lv_goto (tgt := 26) hx hb dX2_setFree_13 (by decide) ?_
    exact k_X2_setFree_0_26 hX E w (lv_sub hl [] rfl) hf
theorem c_X2_setFree_0 (l : Launch) {D : va_G} {t : Nat → ClassId} {a : Nat → Nat} {X : State → Prop} (hX : XOk (aW 56 a) X) {N : Nat} {S : ST} {x1 : Int32} {x2 : Int32} {S' : ST} (hf : f_X2_setFree_0 N S x1 x2 = some S') : Co l yX2_setFree wsX2_setFree rmX2_setFree_0 D (cC t a) (aW 56 a) (tyC t) X [.ref (a 0), .int x1, .int x2] S (Qv D (cC t a) (aW 56 a) (tyC t) S') :=
  co_of (cc := cX2_setFree) (maxL := 3) (ret := none) (lv := [(0, .ref (a 0)), (1, .int x1), (2, .int x2)]) (by decide) rfl rfl (Nat.le_of_ble_eq_true rfl) rfl rfl (fun p e s m below meth c ls E hl w => k_X2_setFree_0_E hX E w hl hf)
-- X4_free
theorem in_X4_free_X4 : ∀ w ∈ u_ws RX4 TX4 9, w ∈ wsX4_free := by decide +kernel
theorem fl_X4_free_10 : Cond.fieldLink RX4 10 "NextDoor" "street" "LNextDoor$Street;" ∈ wsX4_free := by decide +kernel
theorem hd_X2_isFree : yX2_isFree.cls = RX2 ∧ yX2_isFree.cls ≠ "java/lang/invoke/MethodHandle" ∧ yX2_isFree.cls ≠ "java/lang/invoke/VarHandle" ∧ (parseMethodDescriptor yX2_isFree.desc).map (fun d => d.parameters.length) = some 1 := by decide +kernel
theorem hd_X2_setFree : yX2_setFree.cls = RX2 ∧ yX2_setFree.cls ≠ "java/lang/invoke/MethodHandle" ∧ yX2_setFree.cls ≠ "java/lang/invoke/VarHandle" ∧ (parseMethodDescriptor yX2_setFree.desc).map (fun d => d.parameters.length) = some 2 := by decide +kernel
abbrev rmX4_free : Room := { frames := 2, cells := 0, slots := 0, locals := 45 }
set_option maxHeartbeats 4000000 in
set_option maxRecDepth 100000 in
theorem k_X4_free_E {p : Program} {l : Launch} {e : Env} {s : State} {m : MethodId} {args : Array Value} {below : List Frame} {meth : Method} {c : Code} {D : va_G} {t : Nat → ClassId} {a : Nat → Nat} {X : State → Prop} {N : Nat} {r : Int32} {S' : ST} (hX : XOk (aW 56 a) X) (E : EN p s m args meth c cX4_free RX4 wsX4_free (some .int) 3) {S : ST} {x1 : Int32} {x2 : Int32} {H : Heap} {locs : List Loc} {ls : Array Slot} (w : Wd D (cC t a) (aW 56 a) (tyC t) X S s H locs) (hl : lv_has ls 3 [(0, .ref (a 50)), (1, .int x1), (2, .int x2)]) (hf : f_X4_free N S x1 x2 = some (r, S')) : W p l e rmX4_free s m args below meth c H locs 0 0 (MQ below (Qi D (cC t a) (aW 56 a) (tyC t) r S') args s 0 0 (aW 56 a)) (F0 m 0 ls []) := by
  obtain ⟨⟨hx, hb, hml, hown, hts⟩, hr, hlk⟩ := id E
  unfold f_X4_free at hf
  refine lv_aload_n hx hb dX4_free_0 rfl (lv_at hl 0 rfl) ?_
  refine w_get E w in_X4_free_X4 50 (cC_at_50 t a S) rfl 0 (by decide) fl_X4_free_10 rfl rfl dX4_free_1 ?_
  refine lv_iload_n hx hb dX4_free_4 rfl (lv_at hl 1 rfl) ?_
  obtain ⟨r3, S2, h1, hf⟩ := bd2_o hf
  refine w_callVi (As := [.int x1]) (rest := []) hX E w (c_X2_hasShop_0 l hX h1) (cwV 1 hts gX4_free_X2_hasShop rfl rfl rfl hd_X2_hasShop ⟨Nat.le_of_ble_eq_true rfl, Nat.le_of_ble_eq_true rfl⟩) (ci := 2) rfl (cC_at_0 t a S) rfl hl.1 rfl (Nat.le_of_ble_eq_true rfl) dX4_free_5 ⟨Nat.le_refl _, Nat.le_refl _⟩ (fun H locs w => ?_)
  refine lv_if_ne (tgt := 20) hx hb dX4_free_8 (by decide) (fun h4 => ?_) (fun h4 => ?_)
  · replace hf := it_f h4 hf
    refine lv_aload_n hx hb dX4_free_20 rfl (lv_at hl 0 rfl) ?_
    refine w_get E w in_X4_free_X4 50 (cC_at_50 t a S2) rfl 0 (by decide) fl_X4_free_10 rfl rfl dX4_free_21 ?_
    refine lv_iload_n hx hb dX4_free_24 rfl (lv_at hl 1 rfl) ?_
    obtain ⟨r7, S6, h5, hf⟩ := bd2_o hf
    refine w_callVi (As := [.int x1]) (rest := []) hX E w (c_X2_isFree_0 l hX h5) (cwV 1 hts gX4_free_X2_isFree rfl rfl rfl hd_X2_isFree ⟨Nat.le_of_ble_eq_true rfl, Nat.le_of_ble_eq_true rfl⟩) (ci := 2) rfl (cC_at_0 t a S2) rfl hl.1 rfl (Nat.le_of_ble_eq_true rfl) dX4_free_25 ⟨Nat.le_refl _, Nat.le_refl _⟩ (fun H locs w => ?_)
    refine lv_iload_n hx hb dX4_free_28 rfl (lv_at hl 2 rfl) ?_
    refine lv_icmp_ne (tgt := 41) hx hb dX4_free_29 (by decide) (fun h8 => ?_) (fun h8 => ?_)
    · replace hf := it_f h8 hf
      refine lv_aload_n hx hb dX4_free_41 rfl (lv_at hl 0 rfl) ?_
      refine w_get E w in_X4_free_X4 50 (cC_at_50 t a S6) rfl 0 (by decide) fl_X4_free_10 rfl rfl dX4_free_42 ?_
      refine lv_iload_n hx hb dX4_free_45 rfl (lv_at hl 1 rfl) ?_
      refine lv_iload_n hx hb dX4_free_46 rfl (lv_at hl 2 rfl) ?_
      obtain ⟨S10, h9, hf⟩ := bd1_o hf
      refine w_callVv (As := [.int x1, .int x2]) (rest := []) hX E w (c_X2_setFree_0 l hX h9) (cwV 2 hts gX4_free_X2_setFree rfl rfl rfl hd_X2_setFree ⟨Nat.le_of_ble_eq_true rfl, Nat.le_of_ble_eq_true rfl⟩) (ci := 2) rfl (cC_at_0 t a S6) rfl hl.1 rfl (Nat.le_of_ble_eq_true rfl) dX4_free_47 ⟨Nat.le_refl _, Nat.le_refl _⟩ (fun H locs w => ?_)
      refine lv_iconst (v := 1) hx hb dX4_free_50 (by decide) ?_
      exact w_reti E w hf dX4_free_51
    · replace hf := it_t h8 hf
      refine lv_aload_n hx hb dX4_free_32 rfl (lv_at hl 0 rfl) ?_
      refine lv_bipush (v := (-3)) hx hb dX4_free_33 (by decide) ?_
      refine lv_bipush (v := (-3)) hx hb dX4_free_35 (by decide) ?_
      obtain ⟨r13, S12, h11, hf⟩ := bd2_o hf
      refine w_callVi (As := [.int (-3), .int (-3)]) (rest := []) hX E w (c_X4_refuse l hX h11) (cwV 2 hts gX4_free_X4_refuse rfl rfl rfl hd_X4_refuse ⟨Nat.le_of_ble_eq_true rfl, Nat.le_of_ble_eq_true rfl⟩) (ci := 4) rfl (cC_at_50 t a S6) rfl hl.1 rfl (Nat.le_of_ble_eq_true rfl) dX4_free_37 ⟨Nat.le_refl _, Nat.le_refl _⟩ (fun H locs w => ?_)
      exact w_reti E w hf dX4_free_40
  · replace hf := it_t h4 hf
    refine lv_aload_n hx hb dX4_free_11 rfl (lv_at hl 0 rfl) ?_
    refine lv_bipush (v := (-2)) hx hb dX4_free_12 (by decide) ?_
    refine lv_bipush (v := (-2)) hx hb dX4_free_14 (by decide) ?_
    obtain ⟨r16, S15, h14, hf⟩ := bd2_o hf
    refine w_callVi (As := [.int (-2), .int (-2)]) (rest := []) hX E w (c_X4_refuse l hX h14) (cwV 2 hts gX4_free_X4_refuse rfl rfl rfl hd_X4_refuse ⟨Nat.le_of_ble_eq_true rfl, Nat.le_of_ble_eq_true rfl⟩) (ci := 4) rfl (cC_at_50 t a S2) rfl hl.1 rfl (Nat.le_of_ble_eq_true rfl) dX4_free_16 ⟨Nat.le_refl _, Nat.le_refl _⟩ (fun H locs w => ?_)
    exact w_reti E w hf dX4_free_19
theorem c_X4_free (l : Launch) {D : va_G} {t : Nat → ClassId} {a : Nat → Nat} {X : State → Prop} (hX : XOk (aW 56 a) X) {N : Nat} {S : ST} {x1 : Int32} {x2 : Int32} {r : Int32} {S' : ST} (hf : f_X4_free N S x1 x2 = some (r, S')) : Co l yX4_free wsX4_free rmX4_free D (cC t a) (aW 56 a) (tyC t) X [.ref (a 50), .int x1, .int x2] S (Qi D (cC t a) (aW 56 a) (tyC t) r S') :=
  co_of (cc := cX4_free) (maxL := 3) (ret := (some .int)) (lv := [(0, .ref (a 50)), (1, .int x1), (2, .int x2)]) (by decide) rfl rfl (Nat.le_of_ble_eq_true rfl) rfl rfl (fun p e s m below meth c ls E hl w => k_X4_free_E hX E w hl hf)
-- X4_put
theorem in_X4_put_X4 : ∀ w ∈ u_ws RX4 TX4 9, w ∈ wsX4_put := by decide +kernel
theorem fl_X4_put_10 : Cond.fieldLink RX4 10 "NextDoor" "street" "LNextDoor$Street;" ∈ wsX4_put := by decide +kernel
theorem in_X4_put_X2 : ∀ w ∈ u_ws RX2 TX2 16, w ∈ wsX4_put := by decide +kernel
theorem fl_X4_put_94 : Cond.fieldLink RX4 94 "NextDoor$Street" "purse" "I" ∈ wsX4_put := by decide +kernel
theorem fl_X4_put_97 : Cond.fieldLink RX4 97 "NextDoor$Street" "arms" "I" ∈ wsX4_put := by decide +kernel
abbrev rmX4_put : Room := { frames := 2, cells := 0, slots := 0, locals := 45 }
set_option maxHeartbeats 4000000 in
set_option maxRecDepth 100000 in
theorem k_X4_put_66 {p : Program} {l : Launch} {e : Env} {s : State} {m : MethodId} {args : Array Value} {below : List Frame} {meth : Method} {c : Code} {D : va_G} {t : Nat → ClassId} {a : Nat → Nat} {X : State → Prop} {N : Nat} {r : Int32} {S' : ST} (hX : XOk (aW 56 a) X) (E : EN p s m args meth c cX4_put RX4 wsX4_put (some .int) 4) {S : ST} {H : Heap} {locs : List Loc} {ls : Array Slot} (w : Wd D (cC t a) (aW 56 a) (tyC t) X S s H locs) (hl : lv_has ls 4 [(0, .ref (a 50))]) (hf : b_X4_put_66 N S = some (r, S')) : W p l e rmX4_put s m args below meth c H locs 0 0 (MQ below (Qi D (cC t a) (aW 56 a) (tyC t) r S') args s 0 0 (aW 56 a)) (F0 m 66 ls []) := by
  obtain ⟨⟨hx, hb, hml, hown, hts⟩, hr, hlk⟩ := id E
  unfold b_X4_put_66 at hf
  refine lv_aload_n hx hb dX4_put_66 rfl (lv_at hl 0 rfl) ?_
  refine lv_bipush (v := (-2)) hx hb dX4_put_67 (by decide) ?_
  refine lv_bipush (v := (-2)) hx hb dX4_put_69 (by decide) ?_
  obtain ⟨r15, S14, h13, hf⟩ := bd2_o hf
  refine w_callVi (As := [.int (-2), .int (-2)]) (rest := []) hX E w (c_X4_refuse l hX h13) (cwV 2 hts gX4_put_X4_refuse rfl rfl rfl hd_X4_refuse ⟨Nat.le_of_ble_eq_true rfl, Nat.le_of_ble_eq_true rfl⟩) (ci := 4) rfl (cC_at_50 t a S) rfl hl.1 rfl (Nat.le_of_ble_eq_true rfl) dX4_put_71 ⟨Nat.le_refl _, Nat.le_refl _⟩ (fun H locs w => ?_)
  exact w_reti E w hf dX4_put_74
set_option maxHeartbeats 4000000 in
set_option maxRecDepth 100000 in
theorem k_X4_put_33 {p : Program} {l : Launch} {e : Env} {s : State} {m : MethodId} {args : Array Value} {below : List Frame} {meth : Method} {c : Code} {D : va_G} {t : Nat → ClassId} {a : Nat → Nat} {X : State → Prop} {N : Nat} {r : Int32} {S' : ST} (hX : XOk (aW 56 a) X) (E : EN p s m args meth c cX4_put RX4 wsX4_put (some .int) 4) {S : ST} {x1 : Int32} {x2 : Int32} {H : Heap} {locs : List Loc} {ls : Array Slot} (w : Wd D (cC t a) (aW 56 a) (tyC t) X S s H locs) (hl : lv_has ls 4 [(0, .ref (a 50)), (1, .int x1), (2, .int x2)]) (hf : b_X4_put_33 N S x1 x2 = some (r, S')) : W p l e rmX4_put s m args below meth c H locs 0 0 (MQ below (Qi D (cC t a) (aW 56 a) (tyC t) r S') args s 0 0 (aW 56 a)) (F0 m 33 ls []) := by
  obtain ⟨⟨hx, hb, hml, hown, hts⟩, hr, hlk⟩ := id E
  unfold b_X4_put_33 at hf
  refine lv_iload_n hx hb dX4_put_33 rfl (lv_at hl 1 rfl) ?_
  refine lv_iconst (v := 1) hx hb dX4_put_34 (by decide) ?_
  refine lv_icmp_ne (tgt := 66) hx hb dX4_put_35 (by decide) (fun h7 => ?_) (fun h7 => ?_)
  · replace hf := it_f h7 hf
    exact k_X4_put_66 hX E w (lv_sub hl [0] rfl) hf
  · replace hf := it_t h7 hf
    refine lv_iload_n hx hb dX4_put_38 rfl (lv_at hl 2 rfl) ?_
    refine lv_iconst (v := 1) hx hb dX4_put_39 (by decide) ?_
    refine lv_bipush (v := 6) hx hb dX4_put_40 (by decide) ?_
    obtain ⟨r10, S9, h8, hf⟩ := bd2_o hf
    refine w_callSi (As := [.int x2, .int 1, .int 6]) (rest := []) hX E w (c_X4_isIn l hX h8) (va_cwS 3 hts gX4_put_X4_isIn rfl rfl rfl hd_X4_isIn ⟨Nat.le_of_ble_eq_true rfl, Nat.le_of_ble_eq_true rfl⟩) rfl hl.1 rfl (Nat.le_of_ble_eq_true rfl) dX4_put_42 ⟨Nat.le_refl _, Nat.le_refl _⟩ (fun H locs w => ?_)
    refine lv_if_eq (tgt := 66) hx hb dX4_put_45 (by decide) (fun h11 => ?_) (fun h11 => ?_)
    · replace hf := it_t h11 hf
      exact k_X4_put_66 hX E w (lv_sub hl [0] rfl) hf
    · replace hf := it_f h11 hf
      refine lv_aload_n hx hb dX4_put_48 rfl (lv_at hl 0 rfl) ?_
      refine w_get E w in_X4_put_X4 50 (cC_at_50 t a S9) rfl 0 (by decide) fl_X4_put_10 rfl rfl dX4_put_49 ?_
      refine w_get E w in_X4_put_X2 0 (cC_at_0 t a S9) rfl 8 (by decide) fl_X4_put_97 rfl rfl dX4_put_52 ?_
      refine lv_istore_n (lv' := [(3, .int (S9 0 8)), (0, .ref (a 50)), (1, .int x1), (2, .int x2)]) hx hb dX4_put_55 rfl hl (by decide) rfl (fun ls hl => ?_)
      refine lv_aload_n hx hb dX4_put_56 rfl (lv_at hl 1 rfl) ?_
      refine w_get E w in_X4_put_X4 50 (cC_at_50 t a S9) rfl 0 (by decide) fl_X4_put_10 rfl rfl dX4_put_57 ?_
      refine lv_iload_n hx hb dX4_put_60 rfl (lv_at hl 3 rfl) ?_
      obtain ⟨S12, eS12, hf⟩ := nm_o hf
      refine w_put (S1 := S12) E w in_X4_put_X2 tyX2 tyX2_ok nmX2 0 (cC_at_0 t a S9) rfl 8 (by decide) fl_X4_put_97 rfl rfl rfl rfl rfl (Nat.le_of_ble_eq_true rfl) ((cC_set_0_8 t a S9 x2).trans (congrArg (cC t a) eS12.symm)) dX4_put_61 (fun H locs w => ?_)
      refine lv_iload_n hx hb dX4_put_64 rfl (lv_at hl 0 rfl) ?_
      exact w_reti E w hf dX4_put_65
set_option maxHeartbeats 4000000 in
set_option maxRecDepth 100000 in
theorem k_X4_put_E {p : Program} {l : Launch} {e : Env} {s : State} {m : MethodId} {args : Array Value} {below : List Frame} {meth : Method} {c : Code} {D : va_G} {t : Nat → ClassId} {a : Nat → Nat} {X : State → Prop} {N : Nat} {r : Int32} {S' : ST} (hX : XOk (aW 56 a) X) (E : EN p s m args meth c cX4_put RX4 wsX4_put (some .int) 4) {S : ST} {x1 : Int32} {x2 : Int32} {H : Heap} {locs : List Loc} {ls : Array Slot} (w : Wd D (cC t a) (aW 56 a) (tyC t) X S s H locs) (hl : lv_has ls 4 [(0, .ref (a 50)), (1, .int x1), (2, .int x2)]) (hf : f_X4_put N S x1 x2 = some (r, S')) : W p l e rmX4_put s m args below meth c H locs 0 0 (MQ below (Qi D (cC t a) (aW 56 a) (tyC t) r S') args s 0 0 (aW 56 a)) (F0 m 0 ls []) := by
  obtain ⟨⟨hx, hb, hml, hown, hts⟩, hr, hlk⟩ := id E
  unfold f_X4_put at hf
  refine lv_iload_n hx hb dX4_put_0 rfl (lv_at hl 1 rfl) ?_
  refine lv_if_ne (tgt := 33) hx hb dX4_put_1 (by decide) (fun h1 => ?_) (fun h1 => ?_)
  · replace hf := it_f h1 hf
    exact k_X4_put_33 hX E w (lv_sub hl [0, 1, 2] rfl) hf
  · replace hf := it_t h1 hf
    refine lv_iload_n hx hb dX4_put_4 rfl (lv_at hl 2 rfl) ?_
    refine lv_iconst (v := 0) hx hb dX4_put_5 (by decide) ?_
    refine lv_sipush (v := 999) hx hb dX4_put_6 (by decide) ?_
    obtain ⟨r4, S3, h2, hf⟩ := bd2_o hf
    refine w_callSi (As := [.int x2, .int 0, .int 999]) (rest := []) hX E w (c_X4_isIn l hX h2) (va_cwS 3 hts gX4_put_X4_isIn rfl rfl rfl hd_X4_isIn ⟨Nat.le_of_ble_eq_true rfl, Nat.le_of_ble_eq_true rfl⟩) rfl hl.1 rfl (Nat.le_of_ble_eq_true rfl) dX4_put_9 ⟨Nat.le_refl _, Nat.le_refl _⟩ (fun H locs w => ?_)
    refine lv_if_eq (tgt := 33) hx hb dX4_put_12 (by decide) (fun h5 => ?_) (fun h5 => ?_)
    · replace hf := it_t h5 hf
      exact k_X4_put_33 hX E w (lv_sub hl [0, 1, 2] rfl) hf
    · replace hf := it_f h5 hf
      refine lv_aload_n hx hb dX4_put_15 rfl (lv_at hl 0 rfl) ?_
      refine w_get E w in_X4_put_X4 50 (cC_at_50 t a S3) rfl 0 (by decide) fl_X4_put_10 rfl rfl dX4_put_16 ?_
      refine w_get E w in_X4_put_X2 0 (cC_at_0 t a S3) rfl 7 (by decide) fl_X4_put_94 rfl rfl dX4_put_19 ?_
      refine lv_istore_n (lv' := [(3, .int (S3 0 7)), (0, .ref (a 50)), (1, .int x1), (2, .int x2)]) hx hb dX4_put_22 rfl hl (by decide) rfl (fun ls hl => ?_)
      refine lv_aload_n hx hb dX4_put_23 rfl (lv_at hl 1 rfl) ?_
      refine w_get E w in_X4_put_X4 50 (cC_at_50 t a S3) rfl 0 (by decide) fl_X4_put_10 rfl rfl dX4_put_24 ?_
      refine lv_iload_n hx hb dX4_put_27 rfl (lv_at hl 3 rfl) ?_
      obtain ⟨S6, eS6, hf⟩ := nm_o hf
      refine w_put (S1 := S6) E w in_X4_put_X2 tyX2 tyX2_ok nmX2 0 (cC_at_0 t a S3) rfl 7 (by decide) fl_X4_put_94 rfl rfl rfl rfl rfl (Nat.le_of_ble_eq_true rfl) ((cC_set_0_7 t a S3 x2).trans (congrArg (cC t a) eS6.symm)) dX4_put_28 (fun H locs w => ?_)
      refine lv_iload_n hx hb dX4_put_31 rfl (lv_at hl 0 rfl) ?_
      exact w_reti E w hf dX4_put_32
theorem c_X4_put (l : Launch) {D : va_G} {t : Nat → ClassId} {a : Nat → Nat} {X : State → Prop} (hX : XOk (aW 56 a) X) {N : Nat} {S : ST} {x1 : Int32} {x2 : Int32} {r : Int32} {S' : ST} (hf : f_X4_put N S x1 x2 = some (r, S')) : Co l yX4_put wsX4_put rmX4_put D (cC t a) (aW 56 a) (tyC t) X [.ref (a 50), .int x1, .int x2] S (Qi D (cC t a) (aW 56 a) (tyC t) r S') :=
  co_of (cc := cX4_put) (maxL := 4) (ret := (some .int)) (lv := [(0, .ref (a 50)), (1, .int x1), (2, .int x2)]) (by decide) rfl rfl (Nat.le_of_ble_eq_true rfl) rfl rfl (fun p e s m below meth c ls E hl w => k_X4_put_E hX E w hl hf)
-- X4_price
theorem in_X4_price_X4 : ∀ w ∈ u_ws RX4 TX4 9, w ∈ wsX4_price := by decide +kernel
theorem fl_X4_price_10 : Cond.fieldLink RX4 10 "NextDoor" "street" "LNextDoor$Street;" ∈ wsX4_price := by decide +kernel
theorem in_X4_price_X2 : ∀ w ∈ u_ws RX2 TX2 16, w ∈ wsX4_price := by decide +kernel
theorem fl_X4_price_100 : Cond.fieldLink RX4 100 "NextDoor$Street" "price" "[I" ∈ wsX4_price := by decide +kernel
abbrev rmX4_price : Room := { frames := 2, cells := 0, slots := 0, locals := 45 }
set_option maxHeartbeats 4000000 in
set_option maxRecDepth 100000 in
theorem k_X4_price_21 {p : Program} {l : Launch} {e : Env} {s : State} {m : MethodId} {args : Array Value} {below : List Frame} {meth : Method} {c : Code} {D : va_G} {t : Nat → ClassId} {a : Nat → Nat} {X : State → Prop} {N : Nat} {r : Int32} {S' : ST} (hX : XOk (aW 56 a) X) (E : EN p s m args meth c cX4_price RX4 wsX4_price (some .int) 4) {S : ST} {H : Heap} {locs : List Loc} {ls : Array Slot} (w : Wd D (cC t a) (aW 56 a) (tyC t) X S s H locs) (hl : lv_has ls 4 [(0, .ref (a 50))]) (hf : b_X4_price_21 N S = some (r, S')) : W p l e rmX4_price s m args below meth c H locs 0 0 (MQ below (Qi D (cC t a) (aW 56 a) (tyC t) r S') args s 0 0 (aW 56 a)) (F0 m 21 ls []) := by
  obtain ⟨⟨hx, hb, hml, hown, hts⟩, hr, hlk⟩ := id E
  unfold b_X4_price_21 at hf
  refine lv_aload_n hx hb dX4_price_21 rfl (lv_at hl 0 rfl) ?_
  refine lv_bipush (v := (-2)) hx hb dX4_price_22 (by decide) ?_
  refine lv_bipush (v := (-2)) hx hb dX4_price_24 (by decide) ?_
  obtain ⟨r14, S13, h12, hf⟩ := bd2_o hf
  refine w_callVi (As := [.int (-2), .int (-2)]) (rest := []) hX E w (c_X4_refuse l hX h12) (cwV 2 hts gX4_price_X4_refuse rfl rfl rfl hd_X4_refuse ⟨Nat.le_of_ble_eq_true rfl, Nat.le_of_ble_eq_true rfl⟩) (ci := 4) rfl (cC_at_50 t a S) rfl hl.1 rfl (Nat.le_of_ble_eq_true rfl) dX4_price_26 ⟨Nat.le_refl _, Nat.le_refl _⟩ (fun H locs w => ?_)
  exact w_reti E w hf dX4_price_29
set_option maxHeartbeats 4000000 in
set_option maxRecDepth 100000 in
theorem k_X4_price_E {p : Program} {l : Launch} {e : Env} {s : State} {m : MethodId} {args : Array Value} {below : List Frame} {meth : Method} {c : Code} {D : va_G} {t : Nat → ClassId} {a : Nat → Nat} {X : State → Prop} {N : Nat} {r : Int32} {S' : ST} (hX : XOk (aW 56 a) X) (E : EN p s m args meth c cX4_price RX4 wsX4_price (some .int) 4) {S : ST} {x1 : Int32} {x2 : Int32} {H : Heap} {locs : List Loc} {ls : Array Slot} (w : Wd D (cC t a) (aW 56 a) (tyC t) X S s H locs) (hl : lv_has ls 4 [(0, .ref (a 50)), (1, .int x1), (2, .int x2)]) (hf : f_X4_price N S x1 x2 = some (r, S')) : W p l e rmX4_price s m args below meth c H locs 0 0 (MQ below (Qi D (cC t a) (aW 56 a) (tyC t) r S') args s 0 0 (aW 56 a)) (F0 m 0 ls []) := by
  obtain ⟨⟨hx, hb, hml, hown, hts⟩, hr, hlk⟩ := id E
  unfold f_X4_price at hf
  refine lv_aload_n hx hb dX4_price_0 rfl (lv_at hl 0 rfl) ?_
  refine w_get E w in_X4_price_X4 50 (cC_at_50 t a S) rfl 0 (by decide) fl_X4_price_10 rfl rfl dX4_price_1 ?_
  refine lv_iload_n hx hb dX4_price_4 rfl (lv_at hl 1 rfl) ?_
  obtain ⟨r3, S2, h1, hf⟩ := bd2_o hf
  refine w_callVi (As := [.int x1]) (rest := []) hX E w (c_X2_hasShop_0 l hX h1) (cwV 1 hts gX4_price_X2_hasShop rfl rfl rfl hd_X2_hasShop ⟨Nat.le_of_ble_eq_true rfl, Nat.le_of_ble_eq_true rfl⟩) (ci := 2) rfl (cC_at_0 t a S) rfl hl.1 rfl (Nat.le_of_ble_eq_true rfl) dX4_price_5 ⟨Nat.le_refl _, Nat.le_refl _⟩ (fun H locs w => ?_)
  refine lv_if_eq (tgt := 21) hx hb dX4_price_8 (by decide) (fun h4 => ?_) (fun h4 => ?_)
  · replace hf := it_t h4 hf
    exact k_X4_price_21 hX E w (lv_sub hl [0] rfl) hf
  · replace hf := it_f h4 hf
    refine lv_iload_n hx hb dX4_price_11 rfl (lv_at hl 2 rfl) ?_
    refine lv_iconst (v := 0) hx hb dX4_price_12 (by decide) ?_
    refine lv_bipush (v := 20) hx hb dX4_price_13 (by decide) ?_
    obtain ⟨r7, S6, h5, hf⟩ := bd2_o hf
    refine w_callSi (As := [.int x2, .int 0, .int 20]) (rest := []) hX E w (c_X4_isIn l hX h5) (va_cwS 3 hts gX4_price_X4_isIn rfl rfl rfl hd_X4_isIn ⟨Nat.le_of_ble_eq_true rfl, Nat.le_of_ble_eq_true rfl⟩) rfl hl.1 rfl (Nat.le_of_ble_eq_true rfl) dX4_price_15 ⟨Nat.le_refl _, Nat.le_refl _⟩ (fun H locs w => ?_)
    refine lv_if_ne (tgt := 30) hx hb dX4_price_18 (by decide) (fun h8 => ?_) (fun h8 => ?_)
    · replace hf := it_f h8 hf
      refine lv_aload_n hx hb dX4_price_30 rfl (lv_at hl 0 rfl) ?_
      refine w_get E w in_X4_price_X4 50 (cC_at_50 t a S6) rfl 0 (by decide) fl_X4_price_10 rfl rfl dX4_price_31 ?_
      refine w_get E w in_X4_price_X2 0 (cC_at_0 t a S6) rfl 2 (by decide) fl_X4_price_100 rfl rfl dX4_price_34 ?_
      refine lv_iload_n hx hb dX4_price_37 rfl (lv_at hl 1 rfl) ?_
      obtain ⟨h9, hf⟩ := it_n hf
      refine w_ald E w 2 0 (cC_at_2 t a S6) rfl h9 rfl dX4_price_38 ?_
      refine lv_istore_n (lv' := [(3, .int (S6 2 x1.toNatClampNeg)), (0, .ref (a 50)), (1, .int x1), (2, .int x2)]) hx hb dX4_price_39 rfl hl (by decide) rfl (fun ls hl => ?_)
      refine lv_aload_n hx hb dX4_price_40 rfl (lv_at hl 1 rfl) ?_
      refine w_get E w in_X4_price_X4 50 (cC_at_50 t a S6) rfl 0 (by decide) fl_X4_price_10 rfl rfl dX4_price_41 ?_
      refine w_get E w in_X4_price_X2 0 (cC_at_0 t a S6) rfl 2 (by decide) fl_X4_price_100 rfl rfl dX4_price_44 ?_
      refine lv_iload_n hx hb dX4_price_47 rfl (lv_at hl 2 rfl) ?_
      refine lv_iload_n hx hb dX4_price_48 rfl (lv_at hl 3 rfl) ?_
      obtain ⟨h11, hf⟩ := it_n hf
      obtain ⟨S10, eS10, hf⟩ := nm_o hf
      refine w_ast (S1 := S10) E w 2 0 (cC_at_2 t a S6) rfl h11 rfl ((cC_st_2 t a S6 x1.toNatClampNeg x2).trans (congrArg (cC t a) eS10.symm)) dX4_price_49 (fun H locs w => ?_)
      refine lv_iload_n hx hb dX4_price_50 rfl (lv_at hl 0 rfl) ?_
      exact w_reti E w hf dX4_price_51
    · replace hf := it_t h8 hf
      exact k_X4_price_21 hX E w (lv_sub hl [0] rfl) hf
theorem c_X4_price (l : Launch) {D : va_G} {t : Nat → ClassId} {a : Nat → Nat} {X : State → Prop} (hX : XOk (aW 56 a) X) {N : Nat} {S : ST} {x1 : Int32} {x2 : Int32} {r : Int32} {S' : ST} (hf : f_X4_price N S x1 x2 = some (r, S')) : Co l yX4_price wsX4_price rmX4_price D (cC t a) (aW 56 a) (tyC t) X [.ref (a 50), .int x1, .int x2] S (Qi D (cC t a) (aW 56 a) (tyC t) r S') :=
  co_of (cc := cX4_price) (maxL := 4) (ret := (some .int)) (lv := [(0, .ref (a 50)), (1, .int x1), (2, .int x2)]) (by decide) rfl rfl (Nat.le_of_ble_eq_true rfl) rfl rfl (fun p e s m below meth c ls E hl w => k_X4_price_E hX E w hl hf)
-- X4_type
theorem in_X4_type_X4 : ∀ w ∈ u_ws RX4 TX4 9, w ∈ wsX4_type := by decide +kernel
theorem fl_X4_type_10 : Cond.fieldLink RX4 10 "NextDoor" "street" "LNextDoor$Street;" ∈ wsX4_type := by decide +kernel
theorem in_X4_type_X2 : ∀ w ∈ u_ws RX2 TX2 16, w ∈ wsX4_type := by decide +kernel
theorem fl_X4_type_103 : Cond.fieldLink RX4 103 "NextDoor$Street" "length" "I" ∈ wsX4_type := by decide +kernel
theorem fl_X4_type_106 : Cond.fieldLink RX4 106 "NextDoor$Street" "text" "[I" ∈ wsX4_type := by decide +kernel
abbrev rmX4_type : Room := { frames := 2, cells := 0, slots := 0, locals := 45 }
set_option maxHeartbeats 4000000 in
set_option maxRecDepth 100000 in
theorem k_X4_type_48 {p : Program} {l : Launch} {e : Env} {s : State} {m : MethodId} {args : Array Value} {below : List Frame} {meth : Method} {c : Code} {D : va_G} {t : Nat → ClassId} {a : Nat → Nat} {X : State → Prop} {N : Nat} {r : Int32} {S' : ST} (hX : XOk (aW 56 a) X) (E : EN p s m args meth c cX4_type RX4 wsX4_type (some .int) 5) : ∀ (n : Nat) {S : ST} {x1 : Int64} {x4 : Int32} {H : Heap} {locs : List Loc} {ls : Array Slot}, Wd D (cC t a) (aW 56 a) (tyC t) X S s H locs → lv_has ls 5 [(0, .ref (a 50)), (1, .long x1), (4, .int x4)] → b_X4_type_48 N n S x1 x4 = some (r, S') → W p l e rmX4_type s m args below meth c H locs 0 0 (MQ below (Qi D (cC t a) (aW 56 a) (tyC t) r S') args s 0 0 (aW 56 a)) (F0 m 48 ls []) := by
  obtain ⟨⟨hx, hb, hml, hown, hts⟩, hr, hlk⟩ := id E
  intro n
  induction n with
  | zero => intro S x1 x4 H locs ls w hl hf; cases hf
  | succ n ih =>
    intro S x1 x4 H locs ls w hl hf
    unfold b_X4_type_48 at hf
    refine lv_iload hx hb dX4_type_48 (lv_at hl 2 rfl) ?_
    refine lv_if_lt (tgt := 99) hx hb dX4_type_50 (by decide) (fun h12 => ?_) (fun h12 => ?_)
    · replace hf := it_t h12 hf
      refine lv_aload_n hx hb dX4_type_99 rfl (lv_at hl 0 rfl) ?_
      refine w_get E w in_X4_type_X4 50 (cC_at_50 t a S) rfl 0 (by decide) fl_X4_type_10 rfl rfl dX4_type_100 ?_
      refine w_get E w in_X4_type_X2 0 (cC_at_0 t a S) rfl 11 (by decide) fl_X4_type_103 rfl rfl dX4_type_103 ?_
      exact w_reti E w hf dX4_type_106
    · replace hf := it_f h12 hf
      refine lv_aload_n hx hb dX4_type_53 rfl (lv_at hl 0 rfl) ?_
      refine w_get E w in_X4_type_X4 50 (cC_at_50 t a S) rfl 0 (by decide) fl_X4_type_10 rfl rfl dX4_type_54 ?_
      refine w_get E w in_X4_type_X2 0 (cC_at_0 t a S) rfl 12 (by decide) fl_X4_type_106 rfl rfl dX4_type_57 ?_
      refine lv_aload_n hx hb dX4_type_60 rfl (lv_at hl 0 rfl) ?_
      refine w_get E w in_X4_type_X4 50 (cC_at_50 t a S) rfl 0 (by decide) fl_X4_type_10 rfl rfl dX4_type_61 ?_
      refine w_get E w in_X4_type_X2 0 (cC_at_0 t a S) rfl 11 (by decide) fl_X4_type_103 rfl rfl dX4_type_64 ?_
      refine lv_lload_n hx hb dX4_type_67 rfl (lv_at hl 1 rfl) ?_
      refine lv_bipush (v := 8) hx hb dX4_type_68 (by decide) ?_
      refine lv_iload hx hb dX4_type_70 (lv_at hl 2 rfl) ?_
      refine lv_imul hx hb dX4_type_72 ?_
      refine lv_lushr hx hb dX4_type_73 rfl ?_
      refine lv_l2i hx hb dX4_type_74 rfl ?_
      refine lv_sipush (v := 255) hx hb dX4_type_75 (by decide) ?_
      refine lv_iand hx hb dX4_type_78 ?_
      obtain ⟨h14, hf⟩ := it_n hf
      obtain ⟨S13, eS13, hf⟩ := nm_o hf
      refine w_ast (S1 := S13) E w 7 0 (cC_at_7 t a S) rfl h14 rfl ((cC_st_7 t a S ((S 0 11).toNatClampNeg) ((((((x1).toUInt64 >>> ((((8 * x4) : Int32)).toInt64.toUInt64 &&& Int64.toUInt64 63)).toInt64) : Int64).toInt32) &&& 255)).trans (congrArg (cC t a) eS13.symm)) dX4_type_79 (fun H locs w => ?_)
      refine lv_aload_n hx hb dX4_type_80 rfl (lv_at hl 0 rfl) ?_
      refine w_get E w in_X4_type_X4 50 (cC_at_50 t a S13) rfl 0 (by decide) fl_X4_type_10 rfl rfl dX4_type_81 ?_
      refine lv_dup hx hb dX4_type_84 rfl ?_
      refine w_get E w in_X4_type_X2 0 (cC_at_0 t a S13) rfl 11 (by decide) fl_X4_type_103 rfl rfl dX4_type_85 ?_
      refine lv_iconst (v := 1) hx hb dX4_type_88 (by decide) ?_
      refine lv_iadd hx hb dX4_type_89 ?_
      obtain ⟨S15, eS15, hf⟩ := nm_o hf
      refine w_put (S1 := S15) E w in_X4_type_X2 tyX2 tyX2_ok nmX2 0 (cC_at_0 t a S13) rfl 11 (by decide) fl_X4_type_103 rfl rfl rfl rfl rfl (Nat.le_of_ble_eq_true rfl) ((cC_set_0_11 t a S13 ((S13 0 11) + 1)).trans (congrArg (cC t a) eS15.symm)) dX4_type_90 (fun H locs w => ?_)
      refine lv_iinc (v := x4 + (-1)) (lv' := [(4, .int (x4 + (-1))), (0, .ref (a 50)), (1, .long x1)]) hx hb dX4_type_93 hl (k := 2) rfl rfl (by decide) rfl (fun ls hl => ?_)
      refine lv_goto (tgt := 48) hx hb dX4_type_96 (by decide) ?_
      exact ih w (lv_sub hl [1, 2, 0] rfl) hf
set_option maxHeartbeats 4000000 in
set_option maxRecDepth 100000 in
theorem k_X4_type_E {p : Program} {l : Launch} {e : Env} {s : State} {m : MethodId} {args : Array Value} {below : List Frame} {meth : Method} {c : Code} {D : va_G} {t : Nat → ClassId} {a : Nat → Nat} {X : State → Prop} {N : Nat} {r : Int32} {S' : ST} (hX : XOk (aW 56 a) X) (E : EN p s m args meth c cX4_type RX4 wsX4_type (some .int) 5) {S : ST} {x1 : Int64} {x3 : Int32} {H : Heap} {locs : List Loc} {ls : Array Slot} (w : Wd D (cC t a) (aW 56 a) (tyC t) X S s H locs) (hl : lv_has ls 5 [(0, .ref (a 50)), (1, .long x1), (3, .int x3)]) (hf : f_X4_type N S x1 x3 = some (r, S')) : W p l e rmX4_type s m args below meth c H locs 0 0 (MQ below (Qi D (cC t a) (aW 56 a) (tyC t) r S') args s 0 0 (aW 56 a)) (F0 m 0 ls []) := by
  obtain ⟨⟨hx, hb, hml, hown, hts⟩, hr, hlk⟩ := id E
  unfold f_X4_type at hf
  refine lv_iload_n hx hb dX4_type_0 rfl (lv_at hl 2 rfl) ?_
  refine lv_iconst (v := 1) hx hb dX4_type_1 (by decide) ?_
  refine lv_bipush (v := 8) hx hb dX4_type_2 (by decide) ?_
  obtain ⟨r3, S2, h1, hf⟩ := bd2_o hf
  refine w_callSi (As := [.int x3, .int 1, .int 8]) (rest := []) hX E w (c_X4_isIn l hX h1) (va_cwS 3 hts gX4_type_X4_isIn rfl rfl rfl hd_X4_isIn ⟨Nat.le_of_ble_eq_true rfl, Nat.le_of_ble_eq_true rfl⟩) rfl hl.1 rfl (Nat.le_of_ble_eq_true rfl) dX4_type_4 ⟨Nat.le_refl _, Nat.le_refl _⟩ (fun H locs w => ?_)
  refine lv_if_ne (tgt := 19) hx hb dX4_type_7 (by decide) (fun h4 => ?_) (fun h4 => ?_)
  · replace hf := it_f h4 hf
    refine lv_aload_n hx hb dX4_type_19 rfl (lv_at hl 0 rfl) ?_
    refine w_get E w in_X4_type_X4 50 (cC_at_50 t a S2) rfl 0 (by decide) fl_X4_type_10 rfl rfl dX4_type_20 ?_
    refine w_get E w in_X4_type_X2 0 (cC_at_0 t a S2) rfl 11 (by decide) fl_X4_type_103 rfl rfl dX4_type_23 ?_
    refine lv_iload_n hx hb dX4_type_26 rfl (lv_at hl 2 rfl) ?_
    refine lv_iadd hx hb dX4_type_27 ?_
    refine lv_sipush (v := 200) hx hb dX4_type_28 (by decide) ?_
    refine lv_icmp_le (tgt := 43) hx hb dX4_type_31 (by decide) (fun h5 => ?_) (fun h5 => ?_)
    · replace hf := it_t h5 hf
      refine lv_iload_n hx hb dX4_type_43 rfl (lv_at hl 2 rfl) ?_
      refine lv_iconst (v := 1) hx hb dX4_type_44 (by decide) ?_
      refine lv_isub hx hb dX4_type_45 ?_
      refine lv_istore (lv' := [(4, .int (x3 - 1)), (0, .ref (a 50)), (1, .long x1), (3, .int x3)]) hx hb dX4_type_46 hl (by decide) rfl (fun ls hl => ?_)
      exact k_X4_type_48 hX E N w (lv_sub hl [1, 2, 0] rfl) hf
    · replace hf := it_f h5 hf
      refine lv_aload_n hx hb dX4_type_34 rfl (lv_at hl 0 rfl) ?_
      refine lv_bipush (v := (-4)) hx hb dX4_type_35 (by decide) ?_
      refine lv_bipush (v := (-4)) hx hb dX4_type_37 (by decide) ?_
      obtain ⟨r8, S7, h6, hf⟩ := bd2_o hf
      refine w_callVi (As := [.int (-4), .int (-4)]) (rest := []) hX E w (c_X4_refuse l hX h6) (cwV 2 hts gX4_type_X4_refuse rfl rfl rfl hd_X4_refuse ⟨Nat.le_of_ble_eq_true rfl, Nat.le_of_ble_eq_true rfl⟩) (ci := 4) rfl (cC_at_50 t a S2) rfl hl.1 rfl (Nat.le_of_ble_eq_true rfl) dX4_type_39 ⟨Nat.le_refl _, Nat.le_refl _⟩ (fun H locs w => ?_)
      exact w_reti E w hf dX4_type_42
  · replace hf := it_t h4 hf
    refine lv_aload_n hx hb dX4_type_10 rfl (lv_at hl 0 rfl) ?_
    refine lv_bipush (v := (-2)) hx hb dX4_type_11 (by decide) ?_
    refine lv_bipush (v := (-2)) hx hb dX4_type_13 (by decide) ?_
    obtain ⟨r11, S10, h9, hf⟩ := bd2_o hf
    refine w_callVi (As := [.int (-2), .int (-2)]) (rest := []) hX E w (c_X4_refuse l hX h9) (cwV 2 hts gX4_type_X4_refuse rfl rfl rfl hd_X4_refuse ⟨Nat.le_of_ble_eq_true rfl, Nat.le_of_ble_eq_true rfl⟩) (ci := 4) rfl (cC_at_50 t a S2) rfl hl.1 rfl (Nat.le_of_ble_eq_true rfl) dX4_type_15 ⟨Nat.le_refl _, Nat.le_refl _⟩ (fun H locs w => ?_)
    exact w_reti E w hf dX4_type_18
theorem c_X4_type (l : Launch) {D : va_G} {t : Nat → ClassId} {a : Nat → Nat} {X : State → Prop} (hX : XOk (aW 56 a) X) {N : Nat} {S : ST} {x1 : Int64} {x3 : Int32} {r : Int32} {S' : ST} (hf : f_X4_type N S x1 x3 = some (r, S')) : Co l yX4_type wsX4_type rmX4_type D (cC t a) (aW 56 a) (tyC t) X [.ref (a 50), .long x1, .int x3] S (Qi D (cC t a) (aW 56 a) (tyC t) r S') :=
  co_of (cc := cX4_type) (maxL := 5) (ret := (some .int)) (lv := [(0, .ref (a 50)), (1, .long x1), (3, .int x3)]) (by decide) rfl rfl (Nat.le_of_ble_eq_true rfl) rfl rfl (fun p e s m below meth c ls E hl w => k_X4_type_E hX E w hl hf)
-- X4_clear
theorem in_X4_clear_X4 : ∀ w ∈ u_ws RX4 TX4 9, w ∈ wsX4_clear := by decide +kernel
theorem fl_X4_clear_10 : Cond.fieldLink RX4 10 "NextDoor" "street" "LNextDoor$Street;" ∈ wsX4_clear := by decide +kernel
theorem in_X4_clear_X2 : ∀ w ∈ u_ws RX2 TX2 16, w ∈ wsX4_clear := by decide +kernel
theorem fl_X4_clear_103 : Cond.fieldLink RX4 103 "NextDoor$Street" "length" "I" ∈ wsX4_clear := by decide +kernel
abbrev rmX4_clear : Room := { frames := 0, cells := 0, slots := 0, locals := 0 }
set_option maxHeartbeats 4000000 in
set_option maxRecDepth 100000 in
theorem k_X4_clear_E {p : Program} {l : Launch} {e : Env} {s : State} {m : MethodId} {args : Array Value} {below : List Frame} {meth : Method} {c : Code} {D : va_G} {t : Nat → ClassId} {a : Nat → Nat} {X : State → Prop} {N : Nat} {r : Int32} {S' : ST} (hX : XOk (aW 56 a) X) (E : EN p s m args meth c cX4_clear RX4 wsX4_clear (some .int) 2) {S : ST} {H : Heap} {locs : List Loc} {ls : Array Slot} (w : Wd D (cC t a) (aW 56 a) (tyC t) X S s H locs) (hl : lv_has ls 2 [(0, .ref (a 50))]) (hf : f_X4_clear N S = some (r, S')) : W p l e rmX4_clear s m args below meth c H locs 0 0 (MQ below (Qi D (cC t a) (aW 56 a) (tyC t) r S') args s 0 0 (aW 56 a)) (F0 m 0 ls []) := by
  obtain ⟨⟨hx, hb, hml, hown, hts⟩, hr, hlk⟩ := id E
  unfold f_X4_clear at hf
  refine lv_aload_n hx hb dX4_clear_0 rfl (lv_at hl 0 rfl) ?_
  refine w_get E w in_X4_clear_X4 50 (cC_at_50 t a S) rfl 0 (by decide) fl_X4_clear_10 rfl rfl dX4_clear_1 ?_
  refine w_get E w in_X4_clear_X2 0 (cC_at_0 t a S) rfl 11 (by decide) fl_X4_clear_103 rfl rfl dX4_clear_4 ?_
  refine lv_istore_n (lv' := [(1, .int (S 0 11)), (0, .ref (a 50))]) hx hb dX4_clear_7 rfl hl (by decide) rfl (fun ls hl => ?_)
  refine lv_aload_n hx hb dX4_clear_8 rfl (lv_at hl 1 rfl) ?_
  refine w_get E w in_X4_clear_X4 50 (cC_at_50 t a S) rfl 0 (by decide) fl_X4_clear_10 rfl rfl dX4_clear_9 ?_
  refine lv_iconst (v := 0) hx hb dX4_clear_12 (by decide) ?_
  obtain ⟨S1, eS1, hf⟩ := nm_o hf
  refine w_put (S1 := S1) E w in_X4_clear_X2 tyX2 tyX2_ok nmX2 0 (cC_at_0 t a S) rfl 11 (by decide) fl_X4_clear_103 rfl rfl rfl rfl rfl (Nat.le_of_ble_eq_true rfl) ((cC_set_0_11 t a S 0).trans (congrArg (cC t a) eS1.symm)) dX4_clear_13 (fun H locs w => ?_)
  refine lv_iload_n hx hb dX4_clear_16 rfl (lv_at hl 0 rfl) ?_
  exact w_reti E w hf dX4_clear_17
theorem c_X4_clear (l : Launch) {D : va_G} {t : Nat → ClassId} {a : Nat → Nat} {X : State → Prop} (hX : XOk (aW 56 a) X) {N : Nat} {S : ST} {r : Int32} {S' : ST} (hf : f_X4_clear N S = some (r, S')) : Co l yX4_clear wsX4_clear rmX4_clear D (cC t a) (aW 56 a) (tyC t) X [.ref (a 50)] S (Qi D (cC t a) (aW 56 a) (tyC t) r S') :=
  co_of (cc := cX4_clear) (maxL := 2) (ret := (some .int)) (lv := [(0, .ref (a 50))]) (by decide) rfl rfl (Nat.le_of_ble_eq_true rfl) rfl rfl (fun p e s m below meth c ls E hl w => k_X4_clear_E hX E w hl hf)
-- X3_waysOn
theorem in_X3_waysOn_X3 : ∀ w ∈ u_ws RX3 TX3 7, w ∈ wsX3_waysOn := by decide +kernel
theorem fl_X3_waysOn_27 : Cond.fieldLink RX3 27 "NextDoor$Walk" "street" "LNextDoor$Street;" ∈ wsX3_waysOn := by decide +kernel
theorem in_X3_waysOn_X2 : ∀ w ∈ u_ws RX2 TX2 16, w ∈ wsX3_waysOn := by decide +kernel
theorem fl_X3_waysOn_82 : Cond.fieldLink RX3 82 "NextDoor$Street" "near" "[I" ∈ wsX3_waysOn := by decide +kernel
theorem fl_X3_waysOn_9 : Cond.fieldLink RX3 9 "NextDoor$Walk" "shopAt" "[I" ∈ wsX3_waysOn := by decide +kernel
theorem fl_X3_waysOn_79 : Cond.fieldLink RX3 79 "NextDoor$Street" "freeOnes" "I" ∈ wsX3_waysOn := by decide +kernel
abbrev rmX3_waysOn : Room := { frames := 0, cells := 0, slots := 0, locals := 0 }
set_option maxHeartbeats 4000000 in
set_option maxRecDepth 100000 in
theorem k_X3_waysOn_E {p : Program} {l : Launch} {e : Env} {s : State} {m : MethodId} {args : Array Value} {below : List Frame} {meth : Method} {c : Code} {D : va_G} {t : Nat → ClassId} {a : Nat → Nat} {X : State → Prop} {N : Nat} {r : Int32} {S' : ST} (hX : XOk (aW 56 a) X) (E : EN p s m args meth c cX3_waysOn RX3 wsX3_waysOn (some .int) 2) {S : ST} {x1 : Int32} {H : Heap} {locs : List Loc} {ls : Array Slot} (w : Wd D (cC t a) (aW 56 a) (tyC t) X S s H locs) (hl : lv_has ls 2 [(0, .ref (a 40)), (1, .int x1)]) (hf : f_X3_waysOn N S x1 = some (r, S')) : W p l e rmX3_waysOn s m args below meth c H locs 0 0 (MQ below (Qi D (cC t a) (aW 56 a) (tyC t) r S') args s 0 0 (aW 56 a)) (F0 m 0 ls []) := by
  obtain ⟨⟨hx, hb, hml, hown, hts⟩, hr, hlk⟩ := id E
  unfold f_X3_waysOn at hf
  refine lv_iload_n hx hb dX3_waysOn_0 rfl (lv_at hl 1 rfl) ?_
  refine lv_if_gt (tgt := 14) hx hb dX3_waysOn_1 (by decide) (fun h1 => ?_) (fun h1 => ?_)
  · replace hf := it_t h1 hf
    refine lv_aload_n hx hb dX3_waysOn_14 rfl (lv_at hl 0 rfl) ?_
    refine w_get E w in_X3_waysOn_X3 40 (cC_at_40 t a S) rfl 0 (by decide) fl_X3_waysOn_27 rfl rfl dX3_waysOn_15 ?_
    refine w_get E w in_X3_waysOn_X2 0 (cC_at_0 t a S) rfl 5 (by decide) fl_X3_waysOn_82 rfl rfl dX3_waysOn_18 ?_
    refine lv_aload_n hx hb dX3_waysOn_21 rfl (lv_at hl 0 rfl) ?_
    refine w_get E w in_X3_waysOn_X3 40 (cC_at_40 t a S) rfl 1 (by decide) fl_X3_waysOn_9 rfl rfl dX3_waysOn_22 ?_
    refine lv_iload_n hx hb dX3_waysOn_25 rfl (lv_at hl 1 rfl) ?_
    refine lv_iconst (v := 1) hx hb dX3_waysOn_26 (by decide) ?_
    refine lv_isub hx hb dX3_waysOn_27 ?_
    obtain ⟨h2, hf⟩ := it_n hf
    refine w_ald E w 41 0 (cC_at_41 t a S) rfl h2 rfl dX3_waysOn_28 ?_
    obtain ⟨h3, hf⟩ := it_n hf
    refine w_ald E w 5 0 (cC_at_5 t a S) rfl h3 rfl dX3_waysOn_29 ?_
    exact w_reti E w hf dX3_waysOn_30
  · replace hf := it_f h1 hf
    refine lv_aload_n hx hb dX3_waysOn_4 rfl (lv_at hl 0 rfl) ?_
    refine w_get E w in_X3_waysOn_X3 40 (cC_at_40 t a S) rfl 0 (by decide) fl_X3_waysOn_27 rfl rfl dX3_waysOn_5 ?_
    refine w_get E w in_X3_waysOn_X2 0 (cC_at_0 t a S) rfl 6 (by decide) fl_X3_waysOn_79 rfl rfl dX3_waysOn_8 ?_
    refine lv_goto (tgt := 30) hx hb dX3_waysOn_11 (by decide) ?_
    exact w_reti E w hf dX3_waysOn_30
theorem c_X3_waysOn (l : Launch) {D : va_G} {t : Nat → ClassId} {a : Nat → Nat} {X : State → Prop} (hX : XOk (aW 56 a) X) {N : Nat} {S : ST} {x1 : Int32} {r : Int32} {S' : ST} (hf : f_X3_waysOn N S x1 = some (r, S')) : Co l yX3_waysOn wsX3_waysOn rmX3_waysOn D (cC t a) (aW 56 a) (tyC t) X [.ref (a 40), .int x1] S (Qi D (cC t a) (aW 56 a) (tyC t) r S') :=
  co_of (cc := cX3_waysOn) (maxL := 2) (ret := (some .int)) (lv := [(0, .ref (a 40)), (1, .int x1)]) (by decide) rfl rfl (Nat.le_of_ble_eq_true rfl) rfl rfl (fun p e s m below meth c ls E hl w => k_X3_waysOn_E hX E w hl hf)
-- J6_bitCount_0f7a4
theorem ct_J6_bitCount_0f7a4_265 : Cond.constant RJ6 265 1431655765 ∈ wsJ6_bitCount_0f7a4 := by decide +kernel
theorem ct_J6_bitCount_0f7a4_266 : Cond.constant RJ6 266 858993459 ∈ wsJ6_bitCount_0f7a4 := by decide +kernel
theorem ct_J6_bitCount_0f7a4_267 : Cond.constant RJ6 267 252645135 ∈ wsJ6_bitCount_0f7a4 := by decide +kernel
abbrev rmJ6_bitCount_0f7a4 : Room := { frames := 0, cells := 0, slots := 0, locals := 0 }
set_option maxHeartbeats 4000000 in
set_option maxRecDepth 100000 in
theorem k_J6_bitCount_0f7a4_E {p : Program} {l : Launch} {e : Env} {s : State} {m : MethodId} {args : Array Value} {below : List Frame} {meth : Method} {c : Code} {D : va_G} {t : Nat → ClassId} {a : Nat → Nat} {X : State → Prop} {N : Nat} {r : Int32} {S' : ST} (hX : XOk (aW 56 a) X) (E : EN p s m args meth c cJ6_bitCount_0f7a4 RJ6 wsJ6_bitCount_0f7a4 (some .int) 1) {S : ST} {x0 : Int32} {H : Heap} {locs : List Loc} {ls : Array Slot} (w : Wd D (cC t a) (aW 56 a) (tyC t) X S s H locs) (hl : lv_has ls 1 [(0, .int x0)]) (hf : f_J6_bitCount_0f7a4 N S x0 = some (r, S')) : W p l e rmJ6_bitCount_0f7a4 s m args below meth c H locs 0 0 (MQ below (Qi D (cC t a) (aW 56 a) (tyC t) r S') args s 0 0 (aW 56 a)) (F0 m 0 ls []) := by
  obtain ⟨⟨hx, hb, hml, hown, hts⟩, hr, hlk⟩ := id E
  unfold f_J6_bitCount_0f7a4 at hf
  refine lv_iload_n hx hb dJ6_bitCount_0f7a4_0 rfl (lv_at hl 0 rfl) ?_
  refine lv_iload_n hx hb dJ6_bitCount_0f7a4_1 rfl (lv_at hl 0 rfl) ?_
  refine lv_iconst (v := 1) hx hb dJ6_bitCount_0f7a4_2 (by decide) ?_
  refine lv_iushr hx hb dJ6_bitCount_0f7a4_3 rfl ?_
  refine lv_ldcw hx hb hown (hts _ ct_J6_bitCount_0f7a4_265) dJ6_bitCount_0f7a4_4 ?_
  refine lv_iand hx hb dJ6_bitCount_0f7a4_7 ?_
  refine lv_isub hx hb dJ6_bitCount_0f7a4_8 ?_
  refine lv_istore_n (lv' := [(0, .int (x0 - ((((x0).toUInt32 >>> (((1 : Int32)).toUInt32 &&& Int32.toUInt32 31)).toInt32) &&& 1431655765)))]) hx hb dJ6_bitCount_0f7a4_9 rfl hl (by decide) rfl (fun ls hl => ?_)
  refine lv_iload_n hx hb dJ6_bitCount_0f7a4_10 rfl (lv_at hl 0 rfl) ?_
  refine lv_ldcw hx hb hown (hts _ ct_J6_bitCount_0f7a4_266) dJ6_bitCount_0f7a4_11 ?_
  refine lv_iand hx hb dJ6_bitCount_0f7a4_14 ?_
  refine lv_iload_n hx hb dJ6_bitCount_0f7a4_15 rfl (lv_at hl 0 rfl) ?_
  refine lv_iconst (v := 2) hx hb dJ6_bitCount_0f7a4_16 (by decide) ?_
  refine lv_iushr hx hb dJ6_bitCount_0f7a4_17 rfl ?_
  refine lv_ldcw hx hb hown (hts _ ct_J6_bitCount_0f7a4_266) dJ6_bitCount_0f7a4_18 ?_
  refine lv_iand hx hb dJ6_bitCount_0f7a4_21 ?_
  refine lv_iadd hx hb dJ6_bitCount_0f7a4_22 ?_
  refine lv_istore_n (lv' := [(0, .int (((x0 - ((((x0).toUInt32 >>> (((1 : Int32)).toUInt32 &&& Int32.toUInt32 31)).toInt32) &&& 1431655765)) &&& 858993459) + (((((x0 - ((((x0).toUInt32 >>> (((1 : Int32)).toUInt32 &&& Int32.toUInt32 31)).toInt32) &&& 1431655765))).toUInt32 >>> (((2 : Int32)).toUInt32 &&& Int32.toUInt32 31)).toInt32) &&& 858993459)))]) hx hb dJ6_bitCount_0f7a4_23 rfl hl (by decide) rfl (fun ls hl => ?_)
  refine lv_iload_n hx hb dJ6_bitCount_0f7a4_24 rfl (lv_at hl 0 rfl) ?_
  refine lv_iload_n hx hb dJ6_bitCount_0f7a4_25 rfl (lv_at hl 0 rfl) ?_
  refine lv_iconst (v := 4) hx hb dJ6_bitCount_0f7a4_26 (by decide) ?_
  refine lv_iushr hx hb dJ6_bitCount_0f7a4_27 rfl ?_
  refine lv_iadd hx hb dJ6_bitCount_0f7a4_28 ?_
  refine lv_ldcw hx hb hown (hts _ ct_J6_bitCount_0f7a4_267) dJ6_bitCount_0f7a4_29 ?_
  refine lv_iand hx hb dJ6_bitCount_0f7a4_32 ?_
  refine lv_istore_n (lv' := [(0, .int (((((x0 - ((((x0).toUInt32 >>> (((1 : Int32)).toUInt32 &&& Int32.toUInt32 31)).toInt32) &&& 1431655765)) &&& 858993459) + (((((x0 - ((((x0).toUInt32 >>> (((1 : Int32)).toUInt32 &&& Int32.toUInt32 31)).toInt32) &&& 1431655765))).toUInt32 >>> (((2 : Int32)).toUInt32 &&& Int32.toUInt32 31)).toInt32) &&& 858993459)) + ((((((x0 - ((((x0).toUInt32 >>> (((1 : Int32)).toUInt32 &&& Int32.toUInt32 31)).toInt32) &&& 1431655765)) &&& 858993459) + (((((x0 - ((((x0).toUInt32 >>> (((1 : Int32)).toUInt32 &&& Int32.toUInt32 31)).toInt32) &&& 1431655765))).toUInt32 >>> (((2 : Int32)).toUInt32 &&& Int32.toUInt32 31)).toInt32) &&& 858993459))).toUInt32 >>> (((4 : Int32)).toUInt32 &&& Int32.toUInt32 31)).toInt32)) &&& 252645135))]) hx hb dJ6_bitCount_0f7a4_33 rfl hl (by decide) rfl (fun ls hl => ?_)
  refine lv_iload_n hx hb dJ6_bitCount_0f7a4_34 rfl (lv_at hl 0 rfl) ?_
  refine lv_iload_n hx hb dJ6_bitCount_0f7a4_35 rfl (lv_at hl 0 rfl) ?_
  refine lv_bipush (v := 8) hx hb dJ6_bitCount_0f7a4_36 (by decide) ?_
  refine lv_iushr hx hb dJ6_bitCount_0f7a4_38 rfl ?_
  refine lv_iadd hx hb dJ6_bitCount_0f7a4_39 ?_
  refine lv_istore_n (lv' := [(0, .int ((((((x0 - ((((x0).toUInt32 >>> (((1 : Int32)).toUInt32 &&& Int32.toUInt32 31)).toInt32) &&& 1431655765)) &&& 858993459) + (((((x0 - ((((x0).toUInt32 >>> (((1 : Int32)).toUInt32 &&& Int32.toUInt32 31)).toInt32) &&& 1431655765))).toUInt32 >>> (((2 : Int32)).toUInt32 &&& Int32.toUInt32 31)).toInt32) &&& 858993459)) + ((((((x0 - ((((x0).toUInt32 >>> (((1 : Int32)).toUInt32 &&& Int32.toUInt32 31)).toInt32) &&& 1431655765)) &&& 858993459) + (((((x0 - ((((x0).toUInt32 >>> (((1 : Int32)).toUInt32 &&& Int32.toUInt32 31)).toInt32) &&& 1431655765))).toUInt32 >>> (((2 : Int32)).toUInt32 &&& Int32.toUInt32 31)).toInt32) &&& 858993459))).toUInt32 >>> (((4 : Int32)).toUInt32 &&& Int32.toUInt32 31)).toInt32)) &&& 252645135) + ((((((((x0 - ((((x0).toUInt32 >>> (((1 : Int32)).toUInt32 &&& Int32.toUInt32 31)).toInt32) &&& 1431655765)) &&& 858993459) + (((((x0 - ((((x0).toUInt32 >>> (((1 : Int32)).toUInt32 &&& Int32.toUInt32 31)).toInt32) &&& 1431655765))).toUInt32 >>> (((2 : Int32)).toUInt32 &&& Int32.toUInt32 31)).toInt32) &&& 858993459)) + ((((((x0 - ((((x0).toUInt32 >>> (((1 : Int32)).toUInt32 &&& Int32.toUInt32 31)).toInt32) &&& 1431655765)) &&& 858993459) + (((((x0 - ((((x0).toUInt32 >>> (((1 : Int32)).toUInt32 &&& Int32.toUInt32 31)).toInt32) &&& 1431655765))).toUInt32 >>> (((2 : Int32)).toUInt32 &&& Int32.toUInt32 31)).toInt32) &&& 858993459))).toUInt32 >>> (((4 : Int32)).toUInt32 &&& Int32.toUInt32 31)).toInt32)) &&& 252645135)).toUInt32 >>> (((8 : Int32)).toUInt32 &&& Int32.toUInt32 31)).toInt32)))]) hx hb dJ6_bitCount_0f7a4_40 rfl hl (by decide) rfl (fun ls hl => ?_)
  refine lv_iload_n hx hb dJ6_bitCount_0f7a4_41 rfl (lv_at hl 0 rfl) ?_
  refine lv_iload_n hx hb dJ6_bitCount_0f7a4_42 rfl (lv_at hl 0 rfl) ?_
  refine lv_bipush (v := 16) hx hb dJ6_bitCount_0f7a4_43 (by decide) ?_
  refine lv_iushr hx hb dJ6_bitCount_0f7a4_45 rfl ?_
  refine lv_iadd hx hb dJ6_bitCount_0f7a4_46 ?_
  refine lv_istore_n (lv' := [(0, .int (((((((x0 - ((((x0).toUInt32 >>> (((1 : Int32)).toUInt32 &&& Int32.toUInt32 31)).toInt32) &&& 1431655765)) &&& 858993459) + (((((x0 - ((((x0).toUInt32 >>> (((1 : Int32)).toUInt32 &&& Int32.toUInt32 31)).toInt32) &&& 1431655765))).toUInt32 >>> (((2 : Int32)).toUInt32 &&& Int32.toUInt32 31)).toInt32) &&& 858993459)) + ((((((x0 - ((((x0).toUInt32 >>> (((1 : Int32)).toUInt32 &&& Int32.toUInt32 31)).toInt32) &&& 1431655765)) &&& 858993459) + (((((x0 - ((((x0).toUInt32 >>> (((1 : Int32)).toUInt32 &&& Int32.toUInt32 31)).toInt32) &&& 1431655765))).toUInt32 >>> (((2 : Int32)).toUInt32 &&& Int32.toUInt32 31)).toInt32) &&& 858993459))).toUInt32 >>> (((4 : Int32)).toUInt32 &&& Int32.toUInt32 31)).toInt32)) &&& 252645135) + ((((((((x0 - ((((x0).toUInt32 >>> (((1 : Int32)).toUInt32 &&& Int32.toUInt32 31)).toInt32) &&& 1431655765)) &&& 858993459) + (((((x0 - ((((x0).toUInt32 >>> (((1 : Int32)).toUInt32 &&& Int32.toUInt32 31)).toInt32) &&& 1431655765))).toUInt32 >>> (((2 : Int32)).toUInt32 &&& Int32.toUInt32 31)).toInt32) &&& 858993459)) + ((((((x0 - ((((x0).toUInt32 >>> (((1 : Int32)).toUInt32 &&& Int32.toUInt32 31)).toInt32) &&& 1431655765)) &&& 858993459) + (((((x0 - ((((x0).toUInt32 >>> (((1 : Int32)).toUInt32 &&& Int32.toUInt32 31)).toInt32) &&& 1431655765))).toUInt32 >>> (((2 : Int32)).toUInt32 &&& Int32.toUInt32 31)).toInt32) &&& 858993459))).toUInt32 >>> (((4 : Int32)).toUInt32 &&& Int32.toUInt32 31)).toInt32)) &&& 252645135)).toUInt32 >>> (((8 : Int32)).toUInt32 &&& Int32.toUInt32 31)).toInt32)) + (((((((((x0 - ((((x0).toUInt32 >>> (((1 : Int32)).toUInt32 &&& Int32.toUInt32 31)).toInt32) &&& 1431655765)) &&& 858993459) + (((((x0 - ((((x0).toUInt32 >>> (((1 : Int32)).toUInt32 &&& Int32.toUInt32 31)).toInt32) &&& 1431655765))).toUInt32 >>> (((2 : Int32)).toUInt32 &&& Int32.toUInt32 31)).toInt32) &&& 858993459)) + ((((((x0 - ((((x0).toUInt32 >>> (((1 : Int32)).toUInt32 &&& Int32.toUInt32 31)).toInt32) &&& 1431655765)) &&& 858993459) + (((((x0 - ((((x0).toUInt32 >>> (((1 : Int32)).toUInt32 &&& Int32.toUInt32 31)).toInt32) &&& 1431655765))).toUInt32 >>> (((2 : Int32)).toUInt32 &&& Int32.toUInt32 31)).toInt32) &&& 858993459))).toUInt32 >>> (((4 : Int32)).toUInt32 &&& Int32.toUInt32 31)).toInt32)) &&& 252645135) + ((((((((x0 - ((((x0).toUInt32 >>> (((1 : Int32)).toUInt32 &&& Int32.toUInt32 31)).toInt32) &&& 1431655765)) &&& 858993459) + (((((x0 - ((((x0).toUInt32 >>> (((1 : Int32)).toUInt32 &&& Int32.toUInt32 31)).toInt32) &&& 1431655765))).toUInt32 >>> (((2 : Int32)).toUInt32 &&& Int32.toUInt32 31)).toInt32) &&& 858993459)) + ((((((x0 - ((((x0).toUInt32 >>> (((1 : Int32)).toUInt32 &&& Int32.toUInt32 31)).toInt32) &&& 1431655765)) &&& 858993459) + (((((x0 - ((((x0).toUInt32 >>> (((1 : Int32)).toUInt32 &&& Int32.toUInt32 31)).toInt32) &&& 1431655765))).toUInt32 >>> (((2 : Int32)).toUInt32 &&& Int32.toUInt32 31)).toInt32) &&& 858993459))).toUInt32 >>> (((4 : Int32)).toUInt32 &&& Int32.toUInt32 31)).toInt32)) &&& 252645135)).toUInt32 >>> (((8 : Int32)).toUInt32 &&& Int32.toUInt32 31)).toInt32))).toUInt32 >>> (((16 : Int32)).toUInt32 &&& Int32.toUInt32 31)).toInt32)))]) hx hb dJ6_bitCount_0f7a4_47 rfl hl (by decide) rfl (fun ls hl => ?_)
  refine lv_iload_n hx hb dJ6_bitCount_0f7a4_48 rfl (lv_at hl 0 rfl) ?_
  refine lv_bipush (v := 63) hx hb dJ6_bitCount_0f7a4_49 (by decide) ?_
  refine lv_iand hx hb dJ6_bitCount_0f7a4_51 ?_
  exact w_reti E w hf dJ6_bitCount_0f7a4_52
theorem c_J6_bitCount_0f7a4 (l : Launch) {D : va_G} {t : Nat → ClassId} {a : Nat → Nat} {X : State → Prop} (hX : XOk (aW 56 a) X) {N : Nat} {S : ST} {x0 : Int32} {r : Int32} {S' : ST} (hf : f_J6_bitCount_0f7a4 N S x0 = some (r, S')) : Co l yJ6_bitCount_0f7a4 wsJ6_bitCount_0f7a4 rmJ6_bitCount_0f7a4 D (cC t a) (aW 56 a) (tyC t) X [.int x0] S (Qi D (cC t a) (aW 56 a) (tyC t) r S') :=
  co_of (cc := cJ6_bitCount_0f7a4) (maxL := 1) (ret := (some .int)) (lv := [(0, .int x0)]) (by decide) rfl rfl (Nat.le_of_ble_eq_true rfl) rfl rfl (fun p e s m below meth c ls E hl w => k_J6_bitCount_0f7a4_E hX E w hl hf)
-- X2_sellsTo_0
theorem in_X2_sellsTo_X2 : ∀ w ∈ u_ws RX2 TX2 16, w ∈ wsX2_sellsTo := by decide +kernel
theorem fl_X2_sellsTo_9 : Cond.fieldLink RX2 9 "NextDoor$Street" "kind" "[I" ∈ wsX2_sellsTo := by decide +kernel
abbrev rmX2_sellsTo_0 : Room := { frames := 0, cells := 0, slots := 0, locals := 0 }
set_option maxHeartbeats 4000000 in
set_option maxRecDepth 100000 in
theorem k_X2_sellsTo_0_E {p : Program} {l : Launch} {e : Env} {s : State} {m : MethodId} {args : Array Value} {below : List Frame} {meth : Method} {c : Code} {D : va_G} {t : Nat → ClassId} {a : Nat → Nat} {X : State → Prop} {N : Nat} {r : Int32} {S' : ST} (hX : XOk (aW 56 a) X) (E : EN p s m args meth c cX2_sellsTo RX2 wsX2_sellsTo (some .boolean) 3) {S : ST} {x1 : Int32} {x2 : Int32} {H : Heap} {locs : List Loc} {ls : Array Slot} (w : Wd D (cC t a) (aW 56 a) (tyC t) X S s H locs) (hl : lv_has ls 3 [(0, .ref (a 0)), (1, .int x1), (2, .int x2)]) (hf : f_X2_sellsTo_0 N S x1 x2 = some (r, S')) : W p l e rmX2_sellsTo_0 s m args below meth c H locs 0 0 (MQ below (Qi D (cC t a) (aW 56 a) (tyC t) r S') args s 0 0 (aW 56 a)) (F0 m 0 ls []) := by
  obtain ⟨⟨hx, hb, hml, hown, hts⟩, hr, hlk⟩ := id E
  unfold f_X2_sellsTo_0 at hf
  refine lv_aload_n hx hb dX2_sellsTo_0 rfl (lv_at hl 0 rfl) ?_
  refine w_get E w in_X2_sellsTo_X2 0 (cC_at_0 t a S) rfl 1 (by decide) fl_X2_sellsTo_9 rfl rfl dX2_sellsTo_1 ?_
  refine lv_iload_n hx hb dX2_sellsTo_4 rfl (lv_at hl 1 rfl) ?_
  obtain ⟨h1, hf⟩ := it_n hf
  refine w_ald E w 1 0 (cC_at_1 t a S) rfl h1 rfl dX2_sellsTo_5 ?_
  refine lv_iconst (v := 5) hx hb dX2_sellsTo_6 (by decide) ?_
  refine lv_icmp_ne (tgt := 15) hx hb dX2_sellsTo_7 (by decide) (fun h2 => ?_) (fun h2 => ?_)
  · replace hf := it_f h2 hf
    refine lv_iconst (v := 1) hx hb dX2_sellsTo_15 (by decide) ?_
    refine lv_goto (tgt := 20) hx hb dX2_sellsTo_16 (by decide) ?_
    exact w_retz E w (by decide) hf dX2_sellsTo_20
  · replace hf := it_t h2 hf
    refine lv_iload_n hx hb dX2_sellsTo_10 rfl (lv_at hl 2 rfl) ?_
    refine lv_iconst (v := 2) hx hb dX2_sellsTo_11 (by decide) ?_
    refine lv_icmp_lt (tgt := 19) hx hb dX2_sellsTo_12 (by decide) (fun h3 => ?_) (fun h3 => ?_)
    · replace hf := it_t h3 hf
      refine lv_iconst (v := 0) hx hb dX2_sellsTo_19 (by decide) ?_
      exact w_retz E w (by decide) hf dX2_sellsTo_20
    · replace hf := it_f h3 hf
      refine lv_iconst (v := 1) hx hb dX2_sellsTo_15 (by decide) ?_
      refine lv_goto (tgt := 20) hx hb dX2_sellsTo_16 (by decide) ?_
      exact w_retz E w (by decide) hf dX2_sellsTo_20
theorem c_X2_sellsTo_0 (l : Launch) {D : va_G} {t : Nat → ClassId} {a : Nat → Nat} {X : State → Prop} (hX : XOk (aW 56 a) X) {N : Nat} {S : ST} {x1 : Int32} {x2 : Int32} {r : Int32} {S' : ST} (hf : f_X2_sellsTo_0 N S x1 x2 = some (r, S')) : Co l yX2_sellsTo wsX2_sellsTo rmX2_sellsTo_0 D (cC t a) (aW 56 a) (tyC t) X [.ref (a 0), .int x1, .int x2] S (Qi D (cC t a) (aW 56 a) (tyC t) r S') :=
  co_of (cc := cX2_sellsTo) (maxL := 3) (ret := (some .boolean)) (lv := [(0, .ref (a 0)), (1, .int x1), (2, .int x2)]) (by decide) rfl rfl (Nat.le_of_ble_eq_true rfl) rfl rfl (fun p e s m below meth c ls E hl w => k_X2_sellsTo_0_E hX E w hl hf)
-- X2_minutesTaken_0
theorem in_X2_minutesTaken_X2 : ∀ w ∈ u_ws RX2 TX2 16, w ∈ wsX2_minutesTaken := by decide +kernel
theorem fl_X2_minutesTaken_9 : Cond.fieldLink RX2 9 "NextDoor$Street" "kind" "[I" ∈ wsX2_minutesTaken := by decide +kernel
theorem fl_X2_minutesTaken_18 : Cond.fieldLink RX2 18 "NextDoor$Street" "minutes" "[I" ∈ wsX2_minutesTaken := by decide +kernel
abbrev rmX2_minutesTaken_0 : Room := { frames := 0, cells := 0, slots := 0, locals := 0 }
set_option maxHeartbeats 4000000 in
set_option maxRecDepth 100000 in
theorem k_X2_minutesTaken_0_E {p : Program} {l : Launch} {e : Env} {s : State} {m : MethodId} {args : Array Value} {below : List Frame} {meth : Method} {c : Code} {D : va_G} {t : Nat → ClassId} {a : Nat → Nat} {X : State → Prop} {N : Nat} {r : Int32} {S' : ST} (hX : XOk (aW 56 a) X) (E : EN p s m args meth c cX2_minutesTaken RX2 wsX2_minutesTaken (some .int) 2) {S : ST} {x1 : Int32} {H : Heap} {locs : List Loc} {ls : Array Slot} (w : Wd D (cC t a) (aW 56 a) (tyC t) X S s H locs) (hl : lv_has ls 2 [(0, .ref (a 0)), (1, .int x1)]) (hf : f_X2_minutesTaken_0 N S x1 = some (r, S')) : W p l e rmX2_minutesTaken_0 s m args below meth c H locs 0 0 (MQ below (Qi D (cC t a) (aW 56 a) (tyC t) r S') args s 0 0 (aW 56 a)) (F0 m 0 ls []) := by
  obtain ⟨⟨hx, hb, hml, hown, hts⟩, hr, hlk⟩ := id E
  unfold f_X2_minutesTaken_0 at hf
  refine lv_aload_n hx hb dX2_minutesTaken_0 rfl (lv_at hl 0 rfl) ?_
  refine w_get E w in_X2_minutesTaken_X2 0 (cC_at_0 t a S) rfl 1 (by decide) fl_X2_minutesTaken_9 rfl rfl dX2_minutesTaken_1 ?_
  refine lv_iload_n hx hb dX2_minutesTaken_4 rfl (lv_at hl 1 rfl) ?_
  obtain ⟨h1, hf⟩ := it_n hf
  refine w_ald E w 1 0 (cC_at_1 t a S) rfl h1 rfl dX2_minutesTaken_5 ?_
  refine lv_iconst (v := 3) hx hb dX2_minutesTaken_6 (by decide) ?_
  refine lv_icmp_ne (tgt := 21) hx hb dX2_minutesTaken_7 (by decide) (fun h2 => ?_) (fun h2 => ?_)
  · replace hf := it_f h2 hf
    refine lv_aload_n hx hb dX2_minutesTaken_21 rfl (lv_at hl 0 rfl) ?_
    refine w_get E w in_X2_minutesTaken_X2 0 (cC_at_0 t a S) rfl 3 (by decide) fl_X2_minutesTaken_18 rfl rfl dX2_minutesTaken_22 ?_
    refine lv_iload_n hx hb dX2_minutesTaken_25 rfl (lv_at hl 1 rfl) ?_
    obtain ⟨h3, hf⟩ := it_n hf
    refine w_ald E w 3 0 (cC_at_3 t a S) rfl h3 rfl dX2_minutesTaken_26 ?_
    exact w_reti E w hf dX2_minutesTaken_27
  · replace hf := it_t h2 hf
    refine lv_iconst (v := 2) hx hb dX2_minutesTaken_10 (by decide) ?_
    refine lv_aload_n hx hb dX2_minutesTaken_11 rfl (lv_at hl 0 rfl) ?_
    refine w_get E w in_X2_minutesTaken_X2 0 (cC_at_0 t a S) rfl 3 (by decide) fl_X2_minutesTaken_18 rfl rfl dX2_minutesTaken_12 ?_
    refine lv_iload_n hx hb dX2_minutesTaken_15 rfl (lv_at hl 1 rfl) ?_
    obtain ⟨h4, hf⟩ := it_n hf
    refine w_ald E w 3 0 (cC_at_3 t a S) rfl h4 rfl dX2_minutesTaken_16 ?_
    refine lv_imul hx hb dX2_minutesTaken_17 ?_
    refine lv_goto (tgt := 27) hx hb dX2_minutesTaken_18 (by decide) ?_
    exact w_reti E w hf dX2_minutesTaken_27
theorem c_X2_minutesTaken_0 (l : Launch) {D : va_G} {t : Nat → ClassId} {a : Nat → Nat} {X : State → Prop} (hX : XOk (aW 56 a) X) {N : Nat} {S : ST} {x1 : Int32} {r : Int32} {S' : ST} (hf : f_X2_minutesTaken_0 N S x1 = some (r, S')) : Co l yX2_minutesTaken wsX2_minutesTaken rmX2_minutesTaken_0 D (cC t a) (aW 56 a) (tyC t) X [.ref (a 0), .int x1] S (Qi D (cC t a) (aW 56 a) (tyC t) r S') :=
  co_of (cc := cX2_minutesTaken) (maxL := 2) (ret := (some .int)) (lv := [(0, .ref (a 0)), (1, .int x1)]) (by decide) rfl rfl (Nat.le_of_ble_eq_true rfl) rfl rfl (fun p e s m below meth c ls E hl w => k_X2_minutesTaken_0_E hX E w hl hf)
