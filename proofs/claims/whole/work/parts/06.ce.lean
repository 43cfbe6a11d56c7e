-- X2_takeAllOf_30_0
theorem cp_7_37_200 (t : Nat → ClassId) (a : Nat → Nat) (S : ST) : (cC t a S).set 37 (a 37, .inl (t 0, 200, .inl (va_cpy (S 7) (S 37) 0 0 200))) = cC t a (cpS S 7 37 0 0 200) := rfl
theorem cp_8_38_6 (t : Nat → ClassId) (a : Nat → Nat) (S : ST) : (cC t a S).set 38 (a 38, .inl (t 0, 6, .inl (va_cpy (S 8) (S 38) 0 0 6))) = cC t a (cpS S 8 38 0 0 6) := rfl
theorem cp_9_39_6 (t : Nat → ClassId) (a : Nat → Nat) (S : ST) : (cC t a S).set 39 (a 39, .inl (t 0, 6, .inl (va_cpy (S 9) (S 39) 0 0 6))) = cC t a (cpS S 9 39 0 0 6) := rfl
abbrev rmX2_takeAllOf_30_0 : Room := { frames := 2, cells := 0, slots := 0, locals := 101 }
set_option maxHeartbeats 4000000 in
set_option maxRecDepth 100000 in
theorem k_X2_takeAllOf_30_0_E {p : Program} {l : Launch} {e : Env} {s : State} {m : MethodId} {args : Array Value} {below : List Frame} {meth : Method} {c : Code} {D : va_G} {t : Nat → ClassId} {a : Nat → Nat} {X : State → Prop} {N : Nat} {S' : ST} (hX : XOk (aW 56 a) X) (E : EN p s m args meth c cX2_takeAllOf RX2 wsX2_takeAllOf none 2) {S : ST} {H : Heap} {locs : List Loc} {ls : Array Slot} (w : Wd D (cC t a) (aW 56 a) (tyC t) X S s H locs) (hl : lv_has ls 2 [(0, .ref (a 30)), (1, .ref (a 0))]) (hf : f_X2_takeAllOf_30_0 N S = some S') : W p l e rmX2_takeAllOf_30_0 s m args below meth c H locs 0 0 (MQ below (Qv D (cC t a) (aW 56 a) (tyC t) S') args s 0 0 (aW 56 a)) (F0 m 0 ls []) := by
  obtain ⟨⟨hx, hb, hml, hown, hts⟩, hr, hlk⟩ := id E
  unfold f_X2_takeAllOf_30_0 at hf
  refine lv_aload_n hx hb dX2_takeAllOf_0 rfl (lv_at hl 0 rfl) ?_
  refine lv_aload_n hx hb dX2_takeAllOf_1 rfl (lv_at hl 1 rfl) ?_
  obtain ⟨S2, h1, hf⟩ := bd1_o hf
  refine w_callVv (As := [.ref (a 0)]) (rest := []) hX E w (c_X2_takeShopsOf_30_0 l hX h1) (cwV 1 hts gX2_takeAllOf_X2_takeShopsOf rfl rfl rfl hd_X2_takeShopsOf ⟨Nat.le_of_ble_eq_true rfl, Nat.le_of_ble_eq_true rfl⟩) (ci := 2) rfl (cC_at_30 t a S) rfl hl.1 rfl (Nat.le_of_ble_eq_true rfl) dX2_takeAllOf_2 ⟨Nat.le_refl _, Nat.le_refl _⟩ (fun H locs w => ?_)
  refine lv_aload_n hx hb dX2_takeAllOf_5 rfl (lv_at hl 0 rfl) ?_
  refine lv_aload_n hx hb dX2_takeAllOf_6 rfl (lv_at hl 1 rfl) ?_
  refine w_get E w in_X2_takeAllOf_X2 0 (cC_at_0 t a S2) rfl 7 (by decide) fl_X2_takeAllOf_27 rfl rfl dX2_takeAllOf_7 ?_
  obtain ⟨S3, eS3, hf⟩ := nm_o hf
  refine w_put (S1 := S3) E w in_X2_takeAllOf_X2 tyX2 tyX2_ok nmX2 30 (cC_at_30 t a S2) rfl 7 (by decide) fl_X2_takeAllOf_27 rfl rfl rfl rfl rfl (Nat.le_of_ble_eq_true rfl) ((cC_set_30_7 t a S2 (S2 0 7)).trans (congrArg (cC t a) eS3.symm)) dX2_takeAllOf_10 (fun H locs w => ?_)
  refine lv_aload_n hx hb dX2_takeAllOf_13 rfl (lv_at hl 0 rfl) ?_
  refine lv_aload_n hx hb dX2_takeAllOf_14 rfl (lv_at hl 1 rfl) ?_
  refine w_get E w in_X2_takeAllOf_X2 0 (cC_at_0 t a S3) rfl 8 (by decide) fl_X2_takeAllOf_31 rfl rfl dX2_takeAllOf_15 ?_
  obtain ⟨S4, eS4, hf⟩ := nm_o hf
  refine w_put (S1 := S4) E w in_X2_takeAllOf_X2 tyX2 tyX2_ok nmX2 30 (cC_at_30 t a S3) rfl 8 (by decide) fl_X2_takeAllOf_31 rfl rfl rfl rfl rfl (Nat.le_of_ble_eq_true rfl) ((cC_set_30_8 t a S3 (S3 0 8)).trans (congrArg (cC t a) eS4.symm)) dX2_takeAllOf_18 (fun H locs w => ?_)
  refine lv_aload_n hx hb dX2_takeAllOf_21 rfl (lv_at hl 0 rfl) ?_
  refine lv_aload_n hx hb dX2_takeAllOf_22 rfl (lv_at hl 1 rfl) ?_
  refine w_get E w in_X2_takeAllOf_X2 0 (cC_at_0 t a S4) rfl 11 (by decide) fl_X2_takeAllOf_55 rfl rfl dX2_takeAllOf_23 ?_
  obtain ⟨S5, eS5, hf⟩ := nm_o hf
  refine w_put (S1 := S5) E w in_X2_takeAllOf_X2 tyX2 tyX2_ok nmX2 30 (cC_at_30 t a S4) rfl 11 (by decide) fl_X2_takeAllOf_55 rfl rfl rfl rfl rfl (Nat.le_of_ble_eq_true rfl) ((cC_set_30_11 t a S4 (S4 0 11)).trans (congrArg (cC t a) eS5.symm)) dX2_takeAllOf_26 (fun H locs w => ?_)
  refine lv_aload_n hx hb dX2_takeAllOf_29 rfl (lv_at hl 1 rfl) ?_
  refine w_get E w in_X2_takeAllOf_X2 0 (cC_at_0 t a S5) rfl 12 (by decide) fl_X2_takeAllOf_37 rfl rfl dX2_takeAllOf_30 ?_
  refine lv_iconst (v := 0) hx hb dX2_takeAllOf_33 (by decide) ?_
  refine lv_aload_n hx hb dX2_takeAllOf_34 rfl (lv_at hl 0 rfl) ?_
  refine w_get E w in_X2_takeAllOf_X2 30 (cC_at_30 t a S5) rfl 12 (by decide) fl_X2_takeAllOf_37 rfl rfl dX2_takeAllOf_35 ?_
  refine lv_iconst (v := 0) hx hb dX2_takeAllOf_38 (by decide) ?_
  refine lv_sipush (v := 200) hx hb dX2_takeAllOf_39 (by decide) ?_
  obtain ⟨S6, eS6, hf⟩ := nm_o hf
  refine w_copy (S1 := S6) E w ac1_X2_takeAllOf_61 ac2_X2_takeAllOf ac3_X2_takeAllOf ac4_X2_takeAllOf hl.1 7 37 0 (cC_at_7 t a S5) (cC_at_37 t a S5) rfl 200 ix_200 (by decide) (by decide) (by decide) ((cp_7_37_200 t a S5).trans (congrArg (cC t a) eS6.symm)) (Nat.le_of_ble_eq_true rfl) (by decide) dX2_takeAllOf_42 (fun H locs w => ?_)
  refine lv_aload_n hx hb dX2_takeAllOf_45 rfl (lv_at hl 0 rfl) ?_
  refine lv_aload_n hx hb dX2_takeAllOf_46 rfl (lv_at hl 1 rfl) ?_
  refine w_get E w in_X2_takeAllOf_X2 0 (cC_at_0 t a S6) rfl 13 (by decide) fl_X2_takeAllOf_58 rfl rfl dX2_takeAllOf_47 ?_
  obtain ⟨S7, eS7, hf⟩ := nm_o hf
  refine w_put (S1 := S7) E w in_X2_takeAllOf_X2 tyX2 tyX2_ok nmX2 30 (cC_at_30 t a S6) rfl 13 (by decide) fl_X2_takeAllOf_58 rfl rfl rfl rfl rfl (Nat.le_of_ble_eq_true rfl) ((cC_set_30_13 t a S6 (S6 0 13)).trans (congrArg (cC t a) eS7.symm)) dX2_takeAllOf_50 (fun H locs w => ?_)
  refine lv_aload_n hx hb dX2_takeAllOf_53 rfl (lv_at hl 1 rfl) ?_
  refine w_get E w in_X2_takeAllOf_X2 0 (cC_at_0 t a S7) rfl 14 (by decide) fl_X2_takeAllOf_40 rfl rfl dX2_takeAllOf_54 ?_
  refine lv_iconst (v := 0) hx hb dX2_takeAllOf_57 (by decide) ?_
  refine lv_aload_n hx hb dX2_takeAllOf_58 rfl (lv_at hl 0 rfl) ?_
  refine w_get E w in_X2_takeAllOf_X2 30 (cC_at_30 t a S7) rfl 14 (by decide) fl_X2_takeAllOf_40 rfl rfl dX2_takeAllOf_59 ?_
  refine lv_iconst (v := 0) hx hb dX2_takeAllOf_62 (by decide) ?_
  refine lv_bipush (v := 6) hx hb dX2_takeAllOf_63 (by decide) ?_
  obtain ⟨S8, eS8, hf⟩ := nm_o hf
  refine w_copy (S1 := S8) E w ac1_X2_takeAllOf_61 ac2_X2_takeAllOf ac3_X2_takeAllOf ac4_X2_takeAllOf hl.1 8 38 0 (cC_at_8 t a S7) (cC_at_38 t a S7) rfl 6 ix_6 (by decide) (by decide) (by decide) ((cp_8_38_6 t a S7).trans (congrArg (cC t a) eS8.symm)) (Nat.le_of_ble_eq_true rfl) (by decide) dX2_takeAllOf_65 (fun H locs w => ?_)
  refine lv_aload_n hx hb dX2_takeAllOf_68 rfl (lv_at hl 1 rfl) ?_
  refine w_get E w in_X2_takeAllOf_X2 0 (cC_at_0 t a S8) rfl 15 (by decide) fl_X2_takeAllOf_43 rfl rfl dX2_takeAllOf_69 ?_
  refine lv_iconst (v := 0) hx hb dX2_takeAllOf_72 (by decide) ?_
  refine lv_aload_n hx hb dX2_takeAllOf_73 rfl (lv_at hl 0 rfl) ?_
  refine w_get E w in_X2_takeAllOf_X2 30 (cC_at_30 t a S8) rfl 15 (by decide) fl_X2_takeAllOf_43 rfl rfl dX2_takeAllOf_74 ?_
  refine lv_iconst (v := 0) hx hb dX2_takeAllOf_77 (by decide) ?_
  refine lv_bipush (v := 6) hx hb dX2_takeAllOf_78 (by decide) ?_
  obtain ⟨S9, eS9, hf⟩ := nm_o hf
  refine w_copy (S1 := S9) E w ac1_X2_takeAllOf_61 ac2_X2_takeAllOf ac3_X2_takeAllOf ac4_X2_takeAllOf hl.1 9 39 0 (cC_at_9 t a S8) (cC_at_39 t a S8) rfl 6 ix_6 (by decide) (by decide) (by decide) ((cp_9_39_6 t a S8).trans (congrArg (cC t a) eS9.symm)) (Nat.le_of_ble_eq_true rfl) (by decide) dX2_takeAllOf_80 (fun H locs w => ?_)
  exact w_retv E w hf dX2_takeAllOf_83
theorem c_X2_takeAllOf_30_0 (l : Launch) {D : va_G} {t : Nat → ClassId} {a : Nat → Nat} {X : State → Prop} (hX : XOk (aW 56 a) X) {N : Nat} {S : ST} {S' : ST} (hf : f_X2_takeAllOf_30_0 N S = some S') : Co l yX2_takeAllOf wsX2_takeAllOf rmX2_takeAllOf_30_0 D (cC t a) (aW 56 a) (tyC t) X [.ref (a 30), .ref (a 0)] S (Qv D (cC t a) (aW 56 a) (tyC t) S') :=
  co_of (cc := cX2_takeAllOf) (maxL := 2) (ret := none) (lv := [(0, .ref (a 30)), (1, .ref (a 0))]) (by decide) rfl rfl (Nat.le_of_ble_eq_true rfl) rfl rfl (fun p e s m below meth c ls E hl w => k_X2_takeAllOf_30_0_E hX E w hl hf)
-- X4_image
theorem in_X4_image_X4 : ∀ w ∈ u_ws RX4 TX4 9, w ∈ wsX4_image := by decide +kernel
theorem fl_X4_image_16 : Cond.fieldLink RX4 16 "NextDoor" "images" "[LNextDoor$Street;" ∈ wsX4_image := by decide +kernel
theorem fl_X4_image_10 : Cond.fieldLink RX4 10 "NextDoor" "street" "LNextDoor$Street;" ∈ wsX4_image := by decide +kernel
theorem hd_X2_takeAllOf : yX2_takeAllOf.cls = RX2 ∧ yX2_takeAllOf.cls ≠ "java/lang/invoke/MethodHandle" ∧ yX2_takeAllOf.cls ≠ "java/lang/invoke/VarHandle" ∧ (parseMethodDescriptor yX2_takeAllOf.desc).map (fun d => d.parameters.length) = some 1 := by decide +kernel
theorem fl_X4_image_20 : Cond.fieldLink RX4 20 "NextDoor" "kept" "[Z" ∈ wsX4_image := by decide +kernel
abbrev rmX4_image : Room := { frames := 3, cells := 0, slots := 0, locals := 122 }
set_option maxHeartbeats 4000000 in
set_option maxRecDepth 100000 in
theorem k_X4_image_E {p : Program} {l : Launch} {e : Env} {s : State} {m : MethodId} {args : Array Value} {below : List Frame} {meth : Method} {c : Code} {D : va_G} {t : Nat → ClassId} {a : Nat → Nat} {X : State → Prop} {N : Nat} {r : Int32} {S' : ST} (hX : XOk (aW 56 a) X) (E : EN p s m args meth c cX4_image RX4 wsX4_image (some .int) 2) {S : ST} {x1 : Int32} {H : Heap} {locs : List Loc} {ls : Array Slot} (w : Wd D (cC t a) (aW 56 a) (tyC t) X S s H locs) (hl : lv_has ls 2 [(0, .ref (a 50)), (1, .int x1)]) (hf : f_X4_image N S x1 = some (r, S')) : W p l e rmX4_image s m args below meth c H locs 0 0 (MQ below (Qi D (cC t a) (aW 56 a) (tyC t) r S') args s 0 0 (aW 56 a)) (F0 m 0 ls []) := by
  obtain ⟨⟨hx, hb, hml, hown, hts⟩, hr, hlk⟩ := id E
  unfold f_X4_image at hf
  refine lv_iload_n hx hb dX4_image_0 rfl (lv_at hl 1 rfl) ?_
  refine lv_iconst (v := 0) hx hb dX4_image_1 (by decide) ?_
  refine lv_iconst (v := 1) hx hb dX4_image_2 (by decide) ?_
  obtain ⟨r3, S2, h1, hf⟩ := bd2_o hf
  refine w_callSi (As := [.int x1, .int 0, .int 1]) (rest := []) hX E w (c_X4_isIn l hX h1) (va_cwS 3 hts gX4_image_X4_isIn rfl rfl rfl hd_X4_isIn ⟨Nat.le_of_ble_eq_true rfl, Nat.le_of_ble_eq_true rfl⟩) rfl hl.1 rfl (Nat.le_of_ble_eq_true rfl) dX4_image_3 ⟨Nat.le_refl _, Nat.le_refl _⟩ (fun H locs w => ?_)
  refine lv_if_ne (tgt := 18) hx hb dX4_image_6 (by decide) (fun h4 => ?_) (fun h4 => ?_)
  · replace hf := it_f h4 hf
    refine lv_aload_n hx hb dX4_image_18 rfl (lv_at hl 0 rfl) ?_
    refine w_get E w in_X4_image_X4 50 (cC_at_50 t a S2) rfl 1 (by decide) fl_X4_image_16 rfl rfl dX4_image_19 ?_
    refine lv_iload_n hx hb dX4_image_22 rfl (lv_at hl 1 rfl) ?_
    obtain ⟨h5, hf⟩ := it_n hf
    by_cases h6 : x1.toNatClampNeg = 0
    · replace hf := it_t h6 hf
      refine w_aldq E w 51 2 (cC_at_51 t a S2) rfl h5 (by rw [h6]; rfl) dX4_image_23 ?_
      refine lv_aload_n hx hb dX4_image_24 rfl (lv_at hl 0 rfl) ?_
      refine w_get E w in_X4_image_X4 50 (cC_at_50 t a S2) rfl 0 (by decide) fl_X4_image_10 rfl rfl dX4_image_25 ?_
      obtain ⟨S8, h7, hf⟩ := bd1_o hf
      refine w_callVv (As := [.ref (a 0)]) (rest := []) hX E w (c_X2_takeAllOf_20_0 l hX h7) (cwV 1 hts gX4_image_X2_takeAllOf rfl rfl rfl hd_X2_takeAllOf ⟨Nat.le_of_ble_eq_true rfl, Nat.le_of_ble_eq_true rfl⟩) (ci := 2) rfl (cC_at_20 t a S2) rfl hl.1 rfl (Nat.le_of_ble_eq_true rfl) dX4_image_28 ⟨Nat.le_refl _, Nat.le_refl _⟩ (fun H locs w => ?_)
      refine lv_aload_n hx hb dX4_image_31 rfl (lv_at hl 0 rfl) ?_
      refine w_get E w in_X4_image_X4 50 (cC_at_50 t a S8) rfl 2 (by decide) fl_X4_image_20 rfl rfl dX4_image_32 ?_
      refine lv_iload_n hx hb dX4_image_35 rfl (lv_at hl 1 rfl) ?_
      refine lv_iconst (v := 1) hx hb dX4_image_36 (by decide) ?_
      obtain ⟨h10, hf⟩ := it_n hf
      obtain ⟨S9, eS9, hf⟩ := nm_o hf
      refine w_zast (S1 := S9) E w 52 1 (cC_at_52 t a S8) rfl h10 rfl (by decide) ((cC_st_52 t a S8 x1.toNatClampNeg 1).trans (congrArg (cC t a) eS9.symm)) dX4_image_37 (fun H locs w => ?_)
      refine lv_iconst (v := 1) hx hb dX4_image_38 (by decide) ?_
      exact w_reti E w hf dX4_image_39
    · replace hf := it_f h6 hf
      refine w_aldq E w 51 2 (cC_at_51 t a S2) rfl h5 (by rw [show x1.toNatClampNeg = 1 by have h9 := not_or.mp h5; omega]; rfl) dX4_image_23 ?_
      refine lv_aload_n hx hb dX4_image_24 rfl (lv_at hl 0 rfl) ?_
      refine w_get E w in_X4_image_X4 50 (cC_at_50 t a S2) rfl 0 (by decide) fl_X4_image_10 rfl rfl dX4_image_25 ?_
      obtain ⟨S12, h11, hf⟩ := bd1_o hf
      refine w_callVv (As := [.ref (a 0)]) (rest := []) hX E w (c_X2_takeAllOf_30_0 l hX h11) (cwV 1 hts gX4_image_X2_takeAllOf rfl rfl rfl hd_X2_takeAllOf ⟨Nat.le_of_ble_eq_true rfl, Nat.le_of_ble_eq_true rfl⟩) (ci := 2) rfl (cC_at_30 t a S2) rfl hl.1 rfl (Nat.le_of_ble_eq_true rfl) dX4_image_28 ⟨Nat.le_refl _, Nat.le_refl _⟩ (fun H locs w => ?_)
      refine lv_aload_n hx hb dX4_image_31 rfl (lv_at hl 0 rfl) ?_
      refine w_get E w in_X4_image_X4 50 (cC_at_50 t a S12) rfl 2 (by decide) fl_X4_image_20 rfl rfl dX4_image_32 ?_
      refine lv_iload_n hx hb dX4_image_35 rfl (lv_at hl 1 rfl) ?_
      refine lv_iconst (v := 1) hx hb dX4_image_36 (by decide) ?_
      obtain ⟨h14, hf⟩ := it_n hf
      obtain ⟨S13, eS13, hf⟩ := nm_o hf
      refine w_zast (S1 := S13) E w 52 1 (cC_at_52 t a S12) rfl h14 rfl (by decide) ((cC_st_52 t a S12 x1.toNatClampNeg 1).trans (congrArg (cC t a) eS13.symm)) dX4_image_37 (fun H locs w => ?_)
      refine lv_iconst (v := 1) hx hb dX4_image_38 (by decide) ?_
      exact w_reti E w hf dX4_image_39
  · replace hf := it_t h4 hf
    refine lv_aload_n hx hb dX4_image_9 rfl (lv_at hl 0 rfl) ?_
    refine lv_bipush (v := (-2)) hx hb dX4_image_10 (by decide) ?_
    refine lv_bipush (v := (-2)) hx hb dX4_image_12 (by decide) ?_
    obtain ⟨r17, S16, h15, hf⟩ := bd2_o hf
    refine w_callVi (As := [.int (-2), .int (-2)]) (rest := []) hX E w (c_X4_refuse l hX h15) (cwV 2 hts gX4_image_X4_refuse rfl rfl rfl hd_X4_refuse ⟨Nat.le_of_ble_eq_true rfl, Nat.le_of_ble_eq_true rfl⟩) (ci := 4) rfl (cC_at_50 t a S2) rfl hl.1 rfl (Nat.le_of_ble_eq_true rfl) dX4_image_14 ⟨Nat.le_refl _, Nat.le_refl _⟩ (fun H locs w => ?_)
    exact w_reti E w hf dX4_image_17
theorem c_X4_image (l : Launch) {D : va_G} {t : Nat → ClassId} {a : Nat → Nat} {X : State → Prop} (hX : XOk (aW 56 a) X) {N : Nat} {S : ST} {x1 : Int32} {r : Int32} {S' : ST} (hf : f_X4_image N S x1 = some (r, S')) : Co l yX4_image wsX4_image rmX4_image D (cC t a) (aW 56 a) (tyC t) X [.ref (a 50), .int x1] S (Qi D (cC t a) (aW 56 a) (tyC t) r S') :=
  co_of (cc := cX4_image) (maxL := 2) (ret := (some .int)) (lv := [(0, .ref (a 50)), (1, .int x1)]) (by decide) rfl rfl (Nat.le_of_ble_eq_true rfl) rfl rfl (fun p e s m below meth c ls E hl w => k_X4_image_E hX E w hl hf)
-- X2_takeShopsOf_0_20
theorem cp_21_1_6 (t : Nat → ClassId) (a : Nat → Nat) (S : ST) : (cC t a S).set 1 (a 1, .inl (t 0, 6, .inl (va_cpy (S 21) (S 1) 0 0 6))) = cC t a (cpS S 21 1 0 0 6) := rfl
theorem cp_22_2_6 (t : Nat → ClassId) (a : Nat → Nat) (S : ST) : (cC t a S).set 2 (a 2, .inl (t 0, 6, .inl (va_cpy (S 22) (S 2) 0 0 6))) = cC t a (cpS S 22 2 0 0 6) := rfl
theorem cp_23_3_6 (t : Nat → ClassId) (a : Nat → Nat) (S : ST) : (cC t a S).set 3 (a 3, .inl (t 0, 6, .inl (va_cpy (S 23) (S 3) 0 0 6))) = cC t a (cpS S 23 3 0 0 6) := rfl
theorem cp_24_4_6 (t : Nat → ClassId) (a : Nat → Nat) (S : ST) : (cC t a S).set 4 (a 4, .inl (t 0, 6, .inl (va_cpy (S 24) (S 4) 0 0 6))) = cC t a (cpS S 24 4 0 0 6) := rfl
theorem cp_25_5_6 (t : Nat → ClassId) (a : Nat → Nat) (S : ST) : (cC t a S).set 5 (a 5, .inl (t 0, 6, .inl (va_cpy (S 25) (S 5) 0 0 6))) = cC t a (cpS S 25 5 0 0 6) := rfl
theorem cp_26_6_12 (t : Nat → ClassId) (a : Nat → Nat) (S : ST) : (cC t a S).set 6 (a 6, .inl (t 0, 12, .inl (va_cpy (S 26) (S 6) 0 0 12))) = cC t a (cpS S 26 6 0 0 12) := rfl
abbrev rmX2_takeShopsOf_0_20 : Room := { frames := 1, cells := 0, slots := 0, locals := 80 }
set_option maxHeartbeats 4000000 in
set_option maxRecDepth 100000 in
theorem k_X2_takeShopsOf_0_20_E {p : Program} {l : Launch} {e : Env} {s : State} {m : MethodId} {args : Array Value} {below : List Frame} {meth : Method} {c : Code} {D : va_G} {t : Nat → ClassId} {a : Nat → Nat} {X : State → Prop} {N : Nat} {S' : ST} (hX : XOk (aW 56 a) X) (E : EN p s m args meth c cX2_takeShopsOf RX2 wsX2_takeShopsOf none 2) {S : ST} {H : Heap} {locs : List Loc} {ls : Array Slot} (w : Wd D (cC t a) (aW 56 a) (tyC t) X S s H locs) (hl : lv_has ls 2 [(0, .ref (a 0)), (1, .ref (a 20))]) (hf : f_X2_takeShopsOf_0_20 N S = some S') : W p l e rmX2_takeShopsOf_0_20 s m args below meth c H locs 0 0 (MQ below (Qv D (cC t a) (aW 56 a) (tyC t) S') args s 0 0 (aW 56 a)) (F0 m 0 ls []) := by
  obtain ⟨⟨hx, hb, hml, hown, hts⟩, hr, hlk⟩ := id E
  unfold f_X2_takeShopsOf_0_20 at hf
  refine lv_aload_n hx hb dX2_takeShopsOf_0 rfl (lv_at hl 0 rfl) ?_
  refine lv_aload_n hx hb dX2_takeShopsOf_1 rfl (lv_at hl 1 rfl) ?_
  refine w_get E w in_X2_takeShopsOf_X2 20 (cC_at_20 t a S) rfl 0 (by decide) fl_X2_takeShopsOf_46 rfl rfl dX2_takeShopsOf_2 ?_
  obtain ⟨S1, eS1, hf⟩ := nm_o hf
  refine w_put (S1 := S1) E w in_X2_takeShopsOf_X2 tyX2 tyX2_ok nmX2 0 (cC_at_0 t a S) rfl 0 (by decide) fl_X2_takeShopsOf_46 rfl rfl rfl rfl rfl (Nat.le_of_ble_eq_true rfl) ((cC_set_0_0 t a S (S 20 0)).trans (congrArg (cC t a) eS1.symm)) dX2_takeShopsOf_5 (fun H locs w => ?_)
  refine lv_aload_n hx hb dX2_takeShopsOf_8 rfl (lv_at hl 1 rfl) ?_
  refine w_get E w in_X2_takeShopsOf_X2 20 (cC_at_20 t a S1) rfl 1 (by decide) fl_X2_takeShopsOf_9 rfl rfl dX2_takeShopsOf_9 ?_
  refine lv_iconst (v := 0) hx hb dX2_takeShopsOf_12 (by decide) ?_
  refine lv_aload_n hx hb dX2_takeShopsOf_13 rfl (lv_at hl 0 rfl) ?_
  refine w_get E w in_X2_takeShopsOf_X2 0 (cC_at_0 t a S1) rfl 1 (by decide) fl_X2_takeShopsOf_9 rfl rfl dX2_takeShopsOf_14 ?_
  refine lv_iconst (v := 0) hx hb dX2_takeShopsOf_17 (by decide) ?_
  refine lv_bipush (v := 6) hx hb dX2_takeShopsOf_18 (by decide) ?_
  obtain ⟨S2, eS2, hf⟩ := nm_o hf
  refine w_copy (S1 := S2) E w ac1_X2_takeShopsOf_61 ac2_X2_takeShopsOf ac3_X2_takeShopsOf ac4_X2_takeShopsOf hl.1 21 1 0 (cC_at_21 t a S1) (cC_at_1 t a S1) rfl 6 ix_6 (by decide) (by decide) (by decide) ((cp_21_1_6 t a S1).trans (congrArg (cC t a) eS2.symm)) (Nat.le_of_ble_eq_true rfl) (by decide) dX2_takeShopsOf_20 (fun H locs w => ?_)
  refine lv_aload_n hx hb dX2_takeShopsOf_23 rfl (lv_at hl 1 rfl) ?_
  refine w_get E w in_X2_takeShopsOf_X2 20 (cC_at_20 t a S2) rfl 2 (by decide) fl_X2_takeShopsOf_15 rfl rfl dX2_takeShopsOf_24 ?_
  refine lv_iconst (v := 0) hx hb dX2_takeShopsOf_27 (by decide) ?_
  refine lv_aload_n hx hb dX2_takeShopsOf_28 rfl (lv_at hl 0 rfl) ?_
  refine w_get E w in_X2_takeShopsOf_X2 0 (cC_at_0 t a S2) rfl 2 (by decide) fl_X2_takeShopsOf_15 rfl rfl dX2_takeShopsOf_29 ?_
  refine lv_iconst (v := 0) hx hb dX2_takeShopsOf_32 (by decide) ?_
  refine lv_bipush (v := 6) hx hb dX2_takeShopsOf_33 (by decide) ?_
  obtain ⟨S3, eS3, hf⟩ := nm_o hf
  refine w_copy (S1 := S3) E w ac1_X2_takeShopsOf_61 ac2_X2_takeShopsOf ac3_X2_takeShopsOf ac4_X2_takeShopsOf hl.1 22 2 0 (cC_at_22 t a S2) (cC_at_2 t a S2) rfl 6 ix_6 (by decide) (by decide) (by decide) ((cp_22_2_6 t a S2).trans (congrArg (cC t a) eS3.symm)) (Nat.le_of_ble_eq_true rfl) (by decide) dX2_takeShopsOf_35 (fun H locs w => ?_)
  refine lv_aload_n hx hb dX2_takeShopsOf_38 rfl (lv_at hl 1 rfl) ?_
  refine w_get E w in_X2_takeShopsOf_X2 20 (cC_at_20 t a S3) rfl 3 (by decide) fl_X2_takeShopsOf_18 rfl rfl dX2_takeShopsOf_39 ?_
  refine lv_iconst (v := 0) hx hb dX2_takeShopsOf_42 (by decide) ?_
  refine lv_aload_n hx hb dX2_takeShopsOf_43 rfl (lv_at hl 0 rfl) ?_
  refine w_get E w in_X2_takeShopsOf_X2 0 (cC_at_0 t a S3) rfl 3 (by decide) fl_X2_takeShopsOf_18 rfl rfl dX2_takeShopsOf_44 ?_
  refine lv_iconst (v := 0) hx hb dX2_takeShopsOf_47 (by decide) ?_
  refine lv_bipush (v := 6) hx hb dX2_takeShopsOf_48 (by decide) ?_
  obtain ⟨S4, eS4, hf⟩ := nm_o hf
  refine w_copy (S1 := S4) E w ac1_X2_takeShopsOf_61 ac2_X2_takeShopsOf ac3_X2_takeShopsOf ac4_X2_takeShopsOf hl.1 23 3 0 (cC_at_23 t a S3) (cC_at_3 t a S3) rfl 6 ix_6 (by decide) (by decide) (by decide) ((cp_23_3_6 t a S3).trans (congrArg (cC t a) eS4.symm)) (Nat.le_of_ble_eq_true rfl) (by decide) dX2_takeShopsOf_50 (fun H locs w => ?_)
  refine lv_aload_n hx hb dX2_takeShopsOf_53 rfl (lv_at hl 1 rfl) ?_
  refine w_get E w in_X2_takeShopsOf_X2 20 (cC_at_20 t a S4) rfl 4 (by decide) fl_X2_takeShopsOf_21 rfl rfl dX2_takeShopsOf_54 ?_
  refine lv_iconst (v := 0) hx hb dX2_takeShopsOf_57 (by decide) ?_
  refine lv_aload_n hx hb dX2_takeShopsOf_58 rfl (lv_at hl 0 rfl) ?_
  refine w_get E w in_X2_takeShopsOf_X2 0 (cC_at_0 t a S4) rfl 4 (by decide) fl_X2_takeShopsOf_21 rfl rfl dX2_takeShopsOf_59 ?_
  refine lv_iconst (v := 0) hx hb dX2_takeShopsOf_62 (by decide) ?_
  refine lv_bipush (v := 6) hx hb dX2_takeShopsOf_63 (by decide) ?_
  obtain ⟨S5, eS5, hf⟩ := nm_o hf
  refine w_copy (S1 := S5) E w ac1_X2_takeShopsOf_61 ac2_X2_takeShopsOf ac3_X2_takeShopsOf ac4_X2_takeShopsOf hl.1 24 4 0 (cC_at_24 t a S4) (cC_at_4 t a S4) rfl 6 ix_6 (by decide) (by decide) (by decide) ((cp_24_4_6 t a S4).trans (congrArg (cC t a) eS5.symm)) (Nat.le_of_ble_eq_true rfl) (by decide) dX2_takeShopsOf_65 (fun H locs w => ?_)
  refine lv_aload_n hx hb dX2_takeShopsOf_68 rfl (lv_at hl 1 rfl) ?_
  refine w_get E w in_X2_takeShopsOf_X2 20 (cC_at_20 t a S5) rfl 5 (by decide) fl_X2_takeShopsOf_24 rfl rfl dX2_takeShopsOf_69 ?_
  refine lv_iconst (v := 0) hx hb dX2_takeShopsOf_72 (by decide) ?_
  refine lv_aload_n hx hb dX2_takeShopsOf_73 rfl (lv_at hl 0 rfl) ?_
  refine w_get E w in_X2_takeShopsOf_X2 0 (cC_at_0 t a S5) rfl 5 (by decide) fl_X2_takeShopsOf_24 rfl rfl dX2_takeShopsOf_74 ?_
  refine lv_iconst (v := 0) hx hb dX2_takeShopsOf_77 (by decide) ?_
  refine lv_bipush (v := 6) hx hb dX2_takeShopsOf_78 (by decide) ?_
  obtain ⟨S6, eS6, hf⟩ := nm_o hf
  refine w_copy (S1 := S6) E w ac1_X2_takeShopsOf_61 ac2_X2_takeShopsOf ac3_X2_takeShopsOf ac4_X2_takeShopsOf hl.1 25 5 0 (cC_at_25 t a S5) (cC_at_5 t a S5) rfl 6 ix_6 (by decide) (by decide) (by decide) ((cp_25_5_6 t a S5).trans (congrArg (cC t a) eS6.symm)) (Nat.le_of_ble_eq_true rfl) (by decide) dX2_takeShopsOf_80 (fun H locs w => ?_)
  refine lv_aload_n hx hb dX2_takeShopsOf_83 rfl (lv_at hl 0 rfl) ?_
  refine lv_aload_n hx hb dX2_takeShopsOf_84 rfl (lv_at hl 1 rfl) ?_
  refine w_get E w in_X2_takeShopsOf_X2 20 (cC_at_20 t a S6) rfl 6 (by decide) fl_X2_takeShopsOf_49 rfl rfl dX2_takeShopsOf_85 ?_
  obtain ⟨S7, eS7, hf⟩ := nm_o hf
  refine w_put (S1 := S7) E w in_X2_takeShopsOf_X2 tyX2 tyX2_ok nmX2 0 (cC_at_0 t a S6) rfl 6 (by decide) fl_X2_takeShopsOf_49 rfl rfl rfl rfl rfl (Nat.le_of_ble_eq_true rfl) ((cC_set_0_6 t a S6 (S6 20 6)).trans (congrArg (cC t a) eS7.symm)) dX2_takeShopsOf_88 (fun H locs w => ?_)
  refine lv_aload_n hx hb dX2_takeShopsOf_91 rfl (lv_at hl 0 rfl) ?_
  refine lv_aload_n hx hb dX2_takeShopsOf_92 rfl (lv_at hl 1 rfl) ?_
  refine w_get E w in_X2_takeShopsOf_X2 20 (cC_at_20 t a S7) rfl 9 (by decide) fl_X2_takeShopsOf_52 rfl rfl dX2_takeShopsOf_93 ?_
  obtain ⟨S8, eS8, hf⟩ := nm_o hf
  refine w_put (S1 := S8) E w in_X2_takeShopsOf_X2 tyX2 tyX2_ok nmX2 0 (cC_at_0 t a S7) rfl 9 (by decide) fl_X2_takeShopsOf_52 rfl rfl rfl rfl rfl (Nat.le_of_ble_eq_true rfl) ((cC_set_0_9 t a S7 (S7 20 9)).trans (congrArg (cC t a) eS8.symm)) dX2_takeShopsOf_96 (fun H locs w => ?_)
  refine lv_aload_n hx hb dX2_takeShopsOf_99 rfl (lv_at hl 1 rfl) ?_
  refine w_get E w in_X2_takeShopsOf_X2 20 (cC_at_20 t a S8) rfl 10 (by decide) fl_X2_takeShopsOf_34 rfl rfl dX2_takeShopsOf_100 ?_
  refine lv_iconst (v := 0) hx hb dX2_takeShopsOf_103 (by decide) ?_
  refine lv_aload_n hx hb dX2_takeShopsOf_104 rfl (lv_at hl 0 rfl) ?_
  refine w_get E w in_X2_takeShopsOf_X2 0 (cC_at_0 t a S8) rfl 10 (by decide) fl_X2_takeShopsOf_34 rfl rfl dX2_takeShopsOf_105 ?_
  refine lv_iconst (v := 0) hx hb dX2_takeShopsOf_108 (by decide) ?_
  refine lv_bipush (v := 12) hx hb dX2_takeShopsOf_109 (by decide) ?_
  obtain ⟨S9, eS9, hf⟩ := nm_o hf
  refine w_copy (S1 := S9) E w ac1_X2_takeShopsOf_61 ac2_X2_takeShopsOf ac3_X2_takeShopsOf ac4_X2_takeShopsOf hl.1 26 6 0 (cC_at_26 t a S8) (cC_at_6 t a S8) rfl 12 ix_12 (by decide) (by decide) (by decide) ((cp_26_6_12 t a S8).trans (congrArg (cC t a) eS9.symm)) (Nat.le_of_ble_eq_true rfl) (by decide) dX2_takeShopsOf_111 (fun H locs w => ?_)
  exact w_retv E w hf dX2_takeShopsOf_114
theorem c_X2_takeShopsOf_0_20 (l : Launch) {D : va_G} {t : Nat → ClassId} {a : Nat → Nat} {X : State → Prop} (hX : XOk (aW 56 a) X) {N : Nat} {S : ST} {S' : ST} (hf : f_X2_takeShopsOf_0_20 N S = some S') : Co l yX2_takeShopsOf wsX2_takeShopsOf rmX2_takeShopsOf_0_20 D (cC t a) (aW 56 a) (tyC t) X [.ref (a 0), .ref (a 20)] S (Qv D (cC t a) (aW 56 a) (tyC t) S') :=
  co_of (cc := cX2_takeShopsOf) (maxL := 2) (ret := none) (lv := [(0, .ref (a 0)), (1, .ref (a 20))]) (by decide) rfl rfl (Nat.le_of_ble_eq_true rfl) rfl rfl (fun p e s m below meth c ls E hl w => k_X2_takeShopsOf_0_20_E hX E w hl hf)
-- X2_takeAllOf_0_20
theorem cp_27_7_200 (t : Nat → ClassId) (a : Nat → Nat) (S : ST) : (cC t a S).set 7 (a 7, .inl (t 0, 200, .inl (va_cpy (S 27) (S 7) 0 0 200))) = cC t a (cpS S 27 7 0 0 200) := rfl
theorem cp_28_8_6 (t : Nat → ClassId) (a : Nat → Nat) (S : ST) : (cC t a S).set 8 (a 8, .inl (t 0, 6, .inl (va_cpy (S 28) (S 8) 0 0 6))) = cC t a (cpS S 28 8 0 0 6) := rfl
theorem cp_29_9_6 (t : Nat → ClassId) (a : Nat → Nat) (S : ST) : (cC t a S).set 9 (a 9, .inl (t 0, 6, .inl (va_cpy (S 29) (S 9) 0 0 6))) = cC t a (cpS S 29 9 0 0 6) := rfl
abbrev rmX2_takeAllOf_0_20 : Room := { frames := 2, cells := 0, slots := 0, locals := 101 }
set_option maxHeartbeats 4000000 in
set_option maxRecDepth 100000 in
theorem k_X2_takeAllOf_0_20_E {p : Program} {l : Launch} {e : Env} {s : State} {m : MethodId} {args : Array Value} {below : List Frame} {meth : Method} {c : Code} {D : va_G} {t : Nat → ClassId} {a : Nat → Nat} {X : State → Prop} {N : Nat} {S' : ST} (hX : XOk (aW 56 a) X) (E : EN p s m args meth c cX2_takeAllOf RX2 wsX2_takeAllOf none 2) {S : ST} {H : Heap} {locs : List Loc} {ls : Array Slot} (w : Wd D (cC t a) (aW 56 a) (tyC t) X S s H locs) (hl : lv_has ls 2 [(0, .ref (a 0)), (1, .ref (a 20))]) (hf : f_X2_takeAllOf_0_20 N S = some S') : W p l e rmX2_takeAllOf_0_20 s m args below meth c H locs 0 0 (MQ below (Qv D (cC t a) (aW 56 a) (tyC t) S') args s 0 0 (aW 56 a)) (F0 m 0 ls []) := by
  obtain ⟨⟨hx, hb, hml, hown, hts⟩, hr, hlk⟩ := id E
  unfold f_X2_takeAllOf_0_20 at hf
  refine lv_aload_n hx hb dX2_takeAllOf_0 rfl (lv_at hl 0 rfl) ?_
  refine lv_aload_n hx hb dX2_takeAllOf_1 rfl (lv_at hl 1 rfl) ?_
  obtain ⟨S2, h1, hf⟩ := bd1_o hf
  refine w_callVv (As := [.ref (a 20)]) (rest := []) hX E w (c_X2_takeShopsOf_0_20 l hX h1) (cwV 1 hts gX2_takeAllOf_X2_takeShopsOf rfl rfl rfl hd_X2_takeShopsOf ⟨Nat.le_of_ble_eq_true rfl, Nat.le_of_ble_eq_true rfl⟩) (ci := 2) rfl (cC_at_0 t a S) rfl hl.1 rfl (Nat.le_of_ble_eq_true rfl) dX2_takeAllOf_2 ⟨Nat.le_refl _, Nat.le_refl _⟩ (fun H locs w => ?_)
  refine lv_aload_n hx hb dX2_takeAllOf_5 rfl (lv_at hl 0 rfl) ?_
  refine lv_aload_n hx hb dX2_takeAllOf_6 rfl (lv_at hl 1 rfl) ?_
  refine w_get E w in_X2_takeAllOf_X2 20 (cC_at_20 t a S2) rfl 7 (by decide) fl_X2_takeAllOf_27 rfl rfl dX2_takeAllOf_7 ?_
  obtain ⟨S3, eS3, hf⟩ := nm_o hf
  refine w_put (S1 := S3) E w in_X2_takeAllOf_X2 tyX2 tyX2_ok nmX2 0 (cC_at_0 t a S2) rfl 7 (by decide) fl_X2_takeAllOf_27 rfl rfl rfl rfl rfl (Nat.le_of_ble_eq_true rfl) ((cC_set_0_7 t a S2 (S2 20 7)).trans (congrArg (cC t a) eS3.symm)) dX2_takeAllOf_10 (fun H locs w => ?_)
  refine lv_aload_n hx hb dX2_takeAllOf_13 rfl (lv_at hl 0 rfl) ?_
  refine lv_aload_n hx hb dX2_takeAllOf_14 rfl (lv_at hl 1 rfl) ?_
  refine w_get E w in_X2_takeAllOf_X2 20 (cC_at_20 t a S3) rfl 8 (by decide) fl_X2_takeAllOf_31 rfl rfl dX2_takeAllOf_15 ?_
  obtain ⟨S4, eS4, hf⟩ := nm_o hf
  refine w_put (S1 := S4) E w in_X2_takeAllOf_X2 tyX2 tyX2_ok nmX2 0 (cC_at_0 t a S3) rfl 8 (by decide) fl_X2_takeAllOf_31 rfl rfl rfl rfl rfl (Nat.le_of_ble_eq_true rfl) ((cC_set_0_8 t a S3 (S3 20 8)).trans (congrArg (cC t a) eS4.symm)) dX2_takeAllOf_18 (fun H locs w => ?_)
  refine lv_aload_n hx hb dX2_takeAllOf_21 rfl (lv_at hl 0 rfl) ?_
  refine lv_aload_n hx hb dX2_takeAllOf_22 rfl (lv_at hl 1 rfl) ?_
  refine w_get E w in_X2_takeAllOf_X2 20 (cC_at_20 t a S4) rfl 11 (by decide) fl_X2_takeAllOf_55 rfl rfl dX2_takeAllOf_23 ?_
  obtain ⟨S5, eS5, hf⟩ := nm_o hf
  refine w_put (S1 := S5) E w in_X2_takeAllOf_X2 tyX2 tyX2_ok nmX2 0 (cC_at_0 t a S4) rfl 11 (by decide) fl_X2_takeAllOf_55 rfl rfl rfl rfl rfl (Nat.le_of_ble_eq_true rfl) ((cC_set_0_11 t a S4 (S4 20 11)).trans (congrArg (cC t a) eS5.symm)) dX2_takeAllOf_26 (fun H locs w => ?_)
  refine lv_aload_n hx hb dX2_takeAllOf_29 rfl (lv_at hl 1 rfl) ?_
  refine w_get E w in_X2_takeAllOf_X2 20 (cC_at_20 t a S5) rfl 12 (by decide) fl_X2_takeAllOf_37 rfl rfl dX2_takeAllOf_30 ?_
  refine lv_iconst (v := 0) hx hb dX2_takeAllOf_33 (by decide) ?_
  refine lv_aload_n hx hb dX2_takeAllOf_34 rfl (lv_at hl 0 rfl) ?_
  refine w_get E w in_X2_takeAllOf_X2 0 (cC_at_0 t a S5) rfl 12 (by decide) fl_X2_takeAllOf_37 rfl rfl dX2_takeAllOf_35 ?_
  refine lv_iconst (v := 0) hx hb dX2_takeAllOf_38 (by decide) ?_
  refine lv_sipush (v := 200) hx hb dX2_takeAllOf_39 (by decide) ?_
  obtain ⟨S6, eS6, hf⟩ := nm_o hf
  refine w_copy (S1 := S6) E w ac1_X2_takeAllOf_61 ac2_X2_takeAllOf ac3_X2_takeAllOf ac4_X2_takeAllOf hl.1 27 7 0 (cC_at_27 t a S5) (cC_at_7 t a S5) rfl 200 ix_200 (by decide) (by decide) (by decide) ((cp_27_7_200 t a S5).trans (congrArg (cC t a) eS6.symm)) (Nat.le_of_ble_eq_true rfl) (by decide) dX2_takeAllOf_42 (fun H locs w => ?_)
  refine lv_aload_n hx hb dX2_takeAllOf_45 rfl (lv_at hl 0 rfl) ?_
  refine lv_aload_n hx hb dX2_takeAllOf_46 rfl (lv_at hl 1 rfl) ?_
  refine w_get E w in_X2_takeAllOf_X2 20 (cC_at_20 t a S6) rfl 13 (by decide) fl_X2_takeAllOf_58 rfl rfl dX2_takeAllOf_47 ?_
  obtain ⟨S7, eS7, hf⟩ := nm_o hf
  refine w_put (S1 := S7) E w in_X2_takeAllOf_X2 tyX2 tyX2_ok nmX2 0 (cC_at_0 t a S6) rfl 13 (by decide) fl_X2_takeAllOf_58 rfl rfl rfl rfl rfl (Nat.le_of_ble_eq_true rfl) ((cC_set_0_13 t a S6 (S6 20 13)).trans (congrArg (cC t a) eS7.symm)) dX2_takeAllOf_50 (fun H locs w => ?_)
  refine lv_aload_n hx hb dX2_takeAllOf_53 rfl (lv_at hl 1 rfl) ?_
  refine w_get E w in_X2_takeAllOf_X2 20 (cC_at_20 t a S7) rfl 14 (by decide) fl_X2_takeAllOf_40 rfl rfl dX2_takeAllOf_54 ?_
  refine lv_iconst (v := 0) hx hb dX2_takeAllOf_57 (by decide) ?_
  refine lv_aload_n hx hb dX2_takeAllOf_58 rfl (lv_at hl 0 rfl) ?_
  refine w_get E w in_X2_takeAllOf_X2 0 (cC_at_0 t a S7) rfl 14 (by decide) fl_X2_takeAllOf_40 rfl rfl dX2_takeAllOf_59 ?_
  refine lv_iconst (v := 0) hx hb dX2_takeAllOf_62 (by decide) ?_
  refine lv_bipush (v := 6) hx hb dX2_takeAllOf_63 (by decide) ?_
  obtain ⟨S8, eS8, hf⟩ := nm_o hf
  refine w_copy (S1 := S8) E w ac1_X2_takeAllOf_61 ac2_X2_takeAllOf ac3_X2_takeAllOf ac4_X2_takeAllOf hl.1 28 8 0 (cC_at_28 t a S7) (cC_at_8 t a S7) rfl 6 ix_6 (by decide) (by decide) (by decide) ((cp_28_8_6 t a S7).trans (congrArg (cC t a) eS8.symm)) (Nat.le_of_ble_eq_true rfl) (by decide) dX2_takeAllOf_65 (fun H locs w => ?_)
  refine lv_aload_n hx hb dX2_takeAllOf_68 rfl (lv_at hl 1 rfl) ?_
  refine w_get E w in_X2_takeAllOf_X2 20 (cC_at_20 t a S8) rfl 15 (by decide) fl_X2_takeAllOf_43 rfl rfl dX2_takeAllOf_69 ?_
  refine lv_iconst (v := 0) hx hb dX2_takeAllOf_72 (by decide) ?_
  refine lv_aload_n hx hb dX2_takeAllOf_73 rfl (lv_at hl 0 rfl) ?_
  refine w_get E w in_X2_takeAllOf_X2 0 (cC_at_0 t a S8) rfl 15 (by decide) fl_X2_takeAllOf_43 rfl rfl dX2_takeAllOf_74 ?_
  refine lv_iconst (v := 0) hx hb dX2_takeAllOf_77 (by decide) ?_
  refine lv_bipush (v := 6) hx hb dX2_takeAllOf_78 (by decide) ?_
  obtain ⟨S9, eS9, hf⟩ := nm_o hf
  refine w_copy (S1 := S9) E w ac1_X2_takeAllOf_61 ac2_X2_takeAllOf ac3_X2_takeAllOf ac4_X2_takeAllOf hl.1 29 9 0 (cC_at_29 t a S8) (cC_at_9 t a S8) rfl 6 ix_6 (by decide) (by decide) (by decide) ((cp_29_9_6 t a S8).trans (congrArg (cC t a) eS9.symm)) (Nat.le_of_ble_eq_true rfl) (by decide) dX2_takeAllOf_80 (fun H locs w => ?_)
  exact w_retv E w hf dX2_takeAllOf_83
theorem c_X2_takeAllOf_0_20 (l : Launch) {D : va_G} {t : Nat → ClassId} {a : Nat → Nat} {X : State → Prop} (hX : XOk (aW 56 a) X) {N : Nat} {S : ST} {S' : ST} (hf : f_X2_takeAllOf_0_20 N S = some S') : Co l yX2_takeAllOf wsX2_takeAllOf rmX2_takeAllOf_0_20 D (cC t a) (aW 56 a) (tyC t) X [.ref (a 0), .ref (a 20)] S (Qv D (cC t a) (aW 56 a) (tyC t) S') :=
  co_of (cc := cX2_takeAllOf) (maxL := 2) (ret := none) (lv := [(0, .ref (a 0)), (1, .ref (a 20))]) (by decide) rfl rfl (Nat.le_of_ble_eq_true rfl) rfl rfl (fun p e s m below meth c ls E hl w => k_X2_takeAllOf_0_20_E hX E w hl hf)
-- X2_takeShopsOf_0_30
theorem cp_31_1_6 (t : Nat → ClassId) (a : Nat → Nat) (S : ST) : (cC t a S).set 1 (a 1, .inl (t 0, 6, .inl (va_cpy (S 31) (S 1) 0 0 6))) = cC t a (cpS S 31 1 0 0 6) := rfl
theorem cp_32_2_6 (t : Nat → ClassId) (a : Nat → Nat) (S : ST) : (cC t a S).set 2 (a 2, .inl (t 0, 6, .inl (va_cpy (S 32) (S 2) 0 0 6))) = cC t a (cpS S 32 2 0 0 6) := rfl
theorem cp_33_3_6 (t : Nat → ClassId) (a : Nat → Nat) (S : ST) : (cC t a S).set 3 (a 3, .inl (t 0, 6, .inl (va_cpy (S 33) (S 3) 0 0 6))) = cC t a (cpS S 33 3 0 0 6) := rfl
theorem cp_34_4_6 (t : Nat → ClassId) (a : Nat → Nat) (S : ST) : (cC t a S).set 4 (a 4, .inl (t 0, 6, .inl (va_cpy (S 34) (S 4) 0 0 6))) = cC t a (cpS S 34 4 0 0 6) := rfl
theorem cp_35_5_6 (t : Nat → ClassId) (a : Nat → Nat) (S : ST) : (cC t a S).set 5 (a 5, .inl (t 0, 6, .inl (va_cpy (S 35) (S 5) 0 0 6))) = cC t a (cpS S 35 5 0 0 6) := rfl
theorem cp_36_6_12 (t : Nat → ClassId) (a : Nat → Nat) (S : ST) : (cC t a S).set 6 (a 6, .inl (t 0, 12, .inl (va_cpy (S 36) (S 6) 0 0 12))) = cC t a (cpS S 36 6 0 0 12) := rfl
abbrev rmX2_takeShopsOf_0_30 : Room := { frames := 1, cells := 0, slots := 0, locals := 80 }
set_option maxHeartbeats 4000000 in
set_option maxRecDepth 100000 in
theorem k_X2_takeShopsOf_0_30_E {p : Program} {l : Launch} {e : Env} {s : State} {m : MethodId} {args : Array Value} {below : List Frame} {meth : Method} {c : Code} {D : va_G} {t : Nat → ClassId} {a : Nat → Nat} {X : State → Prop} {N : Nat} {S' : ST} (hX : XOk (aW 56 a) X) (E : EN p s m args meth c cX2_takeShopsOf RX2 wsX2_takeShopsOf none 2) {S : ST} {H : Heap} {locs : List Loc} {ls : Array Slot} (w : Wd D (cC t a) (aW 56 a) (tyC t) X S s H locs) (hl : lv_has ls 2 [(0, .ref (a 0)), (1, .ref (a 30))]) (hf : f_X2_takeShopsOf_0_30 N S = some S') : W p l e rmX2_takeShopsOf_0_30 s m args below meth c H locs 0 0 (MQ below (Qv D (cC t a) (aW 56 a) (tyC t) S') args s 0 0 (aW 56 a)) (F0 m 0 ls []) := by
  obtain ⟨⟨hx, hb, hml, hown, hts⟩, hr, hlk⟩ := id E
  unfold f_X2_takeShopsOf_0_30 at hf
  refine lv_aload_n hx hb dX2_takeShopsOf_0 rfl (lv_at hl 0 rfl) ?_
  refine lv_aload_n hx hb dX2_takeShopsOf_1 rfl (lv_at hl 1 rfl) ?_
  refine w_get E w in_X2_takeShopsOf_X2 30 (cC_at_30 t a S) rfl 0 (by decide) fl_X2_takeShopsOf_46 rfl rfl dX2_takeShopsOf_2 ?_
  obtain ⟨S1, eS1, hf⟩ := nm_o hf
  refine w_put (S1 := S1) E w in_X2_takeShopsOf_X2 tyX2 tyX2_ok nmX2 0 (cC_at_0 t a S) rfl 0 (by decide) fl_X2_takeShopsOf_46 rfl rfl rfl rfl rfl (Nat.le_of_ble_eq_true rfl) ((cC_set_0_0 t a S (S 30 0)).trans (congrArg (cC t a) eS1.symm)) dX2_takeShopsOf_5 (fun H locs w => ?_)
  refine lv_aload_n hx hb dX2_takeShopsOf_8 rfl (lv_at hl 1 rfl) ?_
  refine w_get E w in_X2_takeShopsOf_X2 30 (cC_at_30 t a S1) rfl 1 (by decide) fl_X2_takeShopsOf_9 rfl rfl dX2_takeShopsOf_9 ?_
  refine lv_iconst (v := 0) hx hb dX2_takeShopsOf_12 (by decide) ?_
  refine lv_aload_n hx hb dX2_takeShopsOf_13 rfl (lv_at hl 0 rfl) ?_
  refine w_get E w in_X2_takeShopsOf_X2 0 (cC_at_0 t a S1) rfl 1 (by decide) fl_X2_takeShopsOf_9 rfl rfl dX2_takeShopsOf_14 ?_
  refine lv_iconst (v := 0) hx hb dX2_takeShopsOf_17 (by decide) ?_
  refine lv_bipush (v := 6) hx hb dX2_takeShopsOf_18 (by decide) ?_
  obtain ⟨S2, eS2, hf⟩ := nm_o hf
  refine w_copy (S1 := S2) E w ac1_X2_takeShopsOf_61 ac2_X2_takeShopsOf ac3_X2_takeShopsOf ac4_X2_takeShopsOf hl.1 31 1 0 (cC_at_31 t a S1) (cC_at_1 t a S1) rfl 6 ix_6 (by decide) (by decide) (by decide) ((cp_31_1_6 t a S1).trans (congrArg (cC t a) eS2.symm)) (Nat.le_of_ble_eq_true rfl) (by decide) dX2_takeShopsOf_20 (fun H locs w => ?_)
  refine lv_aload_n hx hb dX2_takeShopsOf_23 rfl (lv_at hl 1 rfl) ?_
  refine w_get E w in_X2_takeShopsOf_X2 30 (cC_at_30 t a S2) rfl 2 (by decide) fl_X2_takeShopsOf_15 rfl rfl dX2_takeShopsOf_24 ?_
  refine lv_iconst (v := 0) hx hb dX2_takeShopsOf_27 (by decide) ?_
  refine lv_aload_n hx hb dX2_takeShopsOf_28 rfl (lv_at hl 0 rfl) ?_
  refine w_get E w in_X2_takeShopsOf_X2 0 (cC_at_0 t a S2) rfl 2 (by decide) fl_X2_takeShopsOf_15 rfl rfl dX2_takeShopsOf_29 ?_
  refine lv_iconst (v := 0) hx hb dX2_takeShopsOf_32 (by decide) ?_
  refine lv_bipush (v := 6) hx hb dX2_takeShopsOf_33 (by decide) ?_
  obtain ⟨S3, eS3, hf⟩ := nm_o hf
  refine w_copy (S1 := S3) E w ac1_X2_takeShopsOf_61 ac2_X2_takeShopsOf ac3_X2_takeShopsOf ac4_X2_takeShopsOf hl.1 32 2 0 (cC_at_32 t a S2) (cC_at_2 t a S2) rfl 6 ix_6 (by decide) (by decide) (by decide) ((cp_32_2_6 t a S2).trans (congrArg (cC t a) eS3.symm)) (Nat.le_of_ble_eq_true rfl) (by decide) dX2_takeShopsOf_35 (fun H locs w => ?_)
  refine lv_aload_n hx hb dX2_takeShopsOf_38 rfl (lv_at hl 1 rfl) ?_
  refine w_get E w in_X2_takeShopsOf_X2 30 (cC_at_30 t a S3) rfl 3 (by decide) fl_X2_takeShopsOf_18 rfl rfl dX2_takeShopsOf_39 ?_
  refine lv_iconst (v := 0) hx hb dX2_takeShopsOf_42 (by decide) ?_
  refine lv_aload_n hx hb dX2_takeShopsOf_43 rfl (lv_at hl 0 rfl) ?_
  refine w_get E w in_X2_takeShopsOf_X2 0 (cC_at_0 t a S3) rfl 3 (by decide) fl_X2_takeShopsOf_18 rfl rfl dX2_takeShopsOf_44 ?_
  refine lv_iconst (v := 0) hx hb dX2_takeShopsOf_47 (by decide) ?_
  refine lv_bipush (v := 6) hx hb dX2_takeShopsOf_48 (by decide) ?_
  obtain ⟨S4, eS4, hf⟩ := nm_o hf
  refine w_copy (S1 := S4) E w ac1_X2_takeShopsOf_61 ac2_X2_takeShopsOf ac3_X2_takeShopsOf ac4_X2_takeShopsOf hl.1 33 3 0 (cC_at_33 t a S3) (cC_at_3 t a S3) rfl 6 ix_6 (by decide) (by decide) (by decide) ((cp_33_3_6 t a S3).trans (congrArg (cC t a) eS4.symm)) (Nat.le_of_ble_eq_true rfl) (by decide) dX2_takeShopsOf_50 (fun H locs w => ?_)
  refine lv_aload_n hx hb dX2_takeShopsOf_53 rfl (lv_at hl 1 rfl) ?_
  refine w_get E w in_X2_takeShopsOf_X2 30 (cC_at_30 t a S4) rfl 4 (by decide) fl_X2_takeShopsOf_21 rfl rfl dX2_takeShopsOf_54 ?_
  refine lv_iconst (v := 0) hx hb dX2_takeShopsOf_57 (by decide) ?_
  refine lv_aload_n hx hb dX2_takeShopsOf_58 rfl (lv_at hl 0 rfl) ?_
  refine w_get E w in_X2_takeShopsOf_X2 0 (cC_at_0 t a S4) rfl 4 (by decide) fl_X2_takeShopsOf_21 rfl rfl dX2_takeShopsOf_59 ?_
  refine lv_iconst (v := 0) hx hb dX2_takeShopsOf_62 (by decide) ?_
  refine lv_bipush (v := 6) hx hb dX2_takeShopsOf_63 (by decide) ?_
  obtain ⟨S5, eS5, hf⟩ := nm_o hf
  refine w_copy (S1 := S5) E w ac1_X2_takeShopsOf_61 ac2_X2_takeShopsOf ac3_X2_takeShopsOf ac4_X2_takeShopsOf hl.1 34 4 0 (cC_at_34 t a S4) (cC_at_4 t a S4) rfl 6 ix_6 (by decide) (by decide) (by decide) ((cp_34_4_6 t a S4).trans (congrArg (cC t a) eS5.symm)) (Nat.le_of_ble_eq_true rfl) (by decide) dX2_takeShopsOf_65 (fun H locs w => ?_)
  refine lv_aload_n hx hb dX2_takeShopsOf_68 rfl (lv_at hl 1 rfl) ?_
  refine w_get E w in_X2_takeShopsOf_X2 30 (cC_at_30 t a S5) rfl 5 (by decide) fl_X2_takeShopsOf_24 rfl rfl dX2_takeShopsOf_69 ?_
  refine lv_iconst (v := 0) hx hb dX2_takeShopsOf_72 (by decide) ?_
  refine lv_aload_n hx hb dX2_takeShopsOf_73 rfl (lv_at hl 0 rfl) ?_
  refine w_get E w in_X2_takeShopsOf_X2 0 (cC_at_0 t a S5) rfl 5 (by decide) fl_X2_takeShopsOf_24 rfl rfl dX2_takeShopsOf_74 ?_
  refine lv_iconst (v := 0) hx hb dX2_takeShopsOf_77 (by decide) ?_
  refine lv_bipush (v := 6) hx hb dX2_takeShopsOf_78 (by decide) ?_
  obtain ⟨S6, eS6, hf⟩ := nm_o hf
  refine w_copy (S1 := S6) E w ac1_X2_takeShopsOf_61 ac2_X2_takeShopsOf ac3_X2_takeShopsOf ac4_X2_takeShopsOf hl.1 35 5 0 (cC_at_35 t a S5) (cC_at_5 t a S5) rfl 6 ix_6 (by decide) (by decide) (by decide) ((cp_35_5_6 t a S5).trans (congrArg (cC t a) eS6.symm)) (Nat.le_of_ble_eq_true rfl) (by decide) dX2_takeShopsOf_80 (fun H locs w => ?_)
  refine lv_aload_n hx hb dX2_takeShopsOf_83 rfl (lv_at hl 0 rfl) ?_
  refine lv_aload_n hx hb dX2_takeShopsOf_84 rfl (lv_at hl 1 rfl) ?_
  refine w_get E w in_X2_takeShopsOf_X2 30 (cC_at_30 t a S6) rfl 6 (by decide) fl_X2_takeShopsOf_49 rfl rfl dX2_takeShopsOf_85 ?_
  obtain ⟨S7, eS7, hf⟩ := nm_o hf
  refine w_put (S1 := S7) E w in_X2_takeShopsOf_X2 tyX2 tyX2_ok nmX2 0 (cC_at_0 t a S6) rfl 6 (by decide) fl_X2_takeShopsOf_49 rfl rfl rfl rfl rfl (Nat.le_of_ble_eq_true rfl) ((cC_set_0_6 t a S6 (S6 30 6)).trans (congrArg (cC t a) eS7.symm)) dX2_takeShopsOf_88 (fun H locs w => ?_)
  refine lv_aload_n hx hb dX2_takeShopsOf_91 rfl (lv_at hl 0 rfl) ?_
  refine lv_aload_n hx hb dX2_takeShopsOf_92 rfl (lv_at hl 1 rfl) ?_
  refine w_get E w in_X2_takeShopsOf_X2 30 (cC_at_30 t a S7) rfl 9 (by decide) fl_X2_takeShopsOf_52 rfl rfl dX2_takeShopsOf_93 ?_
  obtain ⟨S8, eS8, hf⟩ := nm_o hf
  refine w_put (S1 := S8) E w in_X2_takeShopsOf_X2 tyX2 tyX2_ok nmX2 0 (cC_at_0 t a S7) rfl 9 (by decide) fl_X2_takeShopsOf_52 rfl rfl rfl rfl rfl (Nat.le_of_ble_eq_true rfl) ((cC_set_0_9 t a S7 (S7 30 9)).trans (congrArg (cC t a) eS8.symm)) dX2_takeShopsOf_96 (fun H locs w => ?_)
  refine lv_aload_n hx hb dX2_takeShopsOf_99 rfl (lv_at hl 1 rfl) ?_
  refine w_get E w in_X2_takeShopsOf_X2 30 (cC_at_30 t a S8) rfl 10 (by decide) fl_X2_takeShopsOf_34 rfl rfl dX2_takeShopsOf_100 ?_
  refine lv_iconst (v := 0) hx hb dX2_takeShopsOf_103 (by decide) ?_
  refine lv_aload_n hx hb dX2_takeShopsOf_104 rfl (lv_at hl 0 rfl) ?_
  refine w_get E w in_X2_takeShopsOf_X2 0 (cC_at_0 t a S8) rfl 10 (by decide) fl_X2_takeShopsOf_34 rfl rfl dX2_takeShopsOf_105 ?_
  refine lv_iconst (v := 0) hx hb dX2_takeShopsOf_108 (by decide) ?_
  refine lv_bipush (v := 12) hx hb dX2_takeShopsOf_109 (by decide) ?_
  obtain ⟨S9, eS9, hf⟩ := nm_o hf
  refine w_copy (S1 := S9) E w ac1_X2_takeShopsOf_61 ac2_X2_takeShopsOf ac3_X2_takeShopsOf ac4_X2_takeShopsOf hl.1 36 6 0 (cC_at_36 t a S8) (cC_at_6 t a S8) rfl 12 ix_12 (by decide) (by decide) (by decide) ((cp_36_6_12 t a S8).trans (congrArg (cC t a) eS9.symm)) (Nat.le_of_ble_eq_true rfl) (by decide) dX2_takeShopsOf_111 (fun H locs w => ?_)
  exact w_retv E w hf dX2_takeShopsOf_114
theorem c_X2_takeShopsOf_0_30 (l : Launch) {D : va_G} {t : Nat → ClassId} {a : Nat → Nat} {X : State → Prop} (hX : XOk (aW 56 a) X) {N : Nat} {S : ST} {S' : ST} (hf : f_X2_takeShopsOf_0_30 N S = some S') : Co l yX2_takeShopsOf wsX2_takeShopsOf rmX2_takeShopsOf_0_30 D (cC t a) (aW 56 a) (tyC t) X [.ref (a 0), .ref (a 30)] S (Qv D (cC t a) (aW 56 a) (tyC t) S') :=
  co_of (cc := cX2_takeShopsOf) (maxL := 2) (ret := none) (lv := [(0, .ref (a 0)), (1, .ref (a 30))]) (by decide) rfl rfl (Nat.le_of_ble_eq_true rfl) rfl rfl (fun p e s m below meth c ls E hl w => k_X2_takeShopsOf_0_30_E hX E w hl hf)
-- X2_takeAllOf_0_30
theorem cp_37_7_200 (t : Nat → ClassId) (a : Nat → Nat) (S : ST) : (cC t a S).set 7 (a 7, .inl (t 0, 200, .inl (va_cpy (S 37) (S 7) 0 0 200))) = cC t a (cpS S 37 7 0 0 200) := rfl
theorem cp_38_8_6 (t : Nat → ClassId) (a : Nat → Nat) (S : ST) : (cC t a S).set 8 (a 8, .inl (t 0, 6, .inl (va_cpy (S 38) (S 8) 0 0 6))) = cC t a (cpS S 38 8 0 0 6) := rfl
theorem cp_39_9_6 (t : Nat → ClassId) (a : Nat → Nat) (S : ST) : (cC t a S).set 9 (a 9, .inl (t 0, 6, .inl (va_cpy (S 39) (S 9) 0 0 6))) = cC t a (cpS S 39 9 0 0 6) := rfl
abbrev rmX2_takeAllOf_0_30 : Room := { frames := 2, cells := 0, slots := 0, locals := 101 }
set_option maxHeartbeats 4000000 in
set_option maxRecDepth 100000 in
theorem k_X2_takeAllOf_0_30_E {p : Program} {l : Launch} {e : Env} {s : State} {m : MethodId} {args : Array Value} {below : List Frame} {meth : Method} {c : Code} {D : va_G} {t : Nat → ClassId} {a : Nat → Nat} {X : State → Prop} {N : Nat} {S' : ST} (hX : XOk (aW 56 a) X) (E : EN p s m args meth c cX2_takeAllOf RX2 wsX2_takeAllOf none 2) {S : ST} {H : Heap} {locs : List Loc} {ls : Array Slot} (w : Wd D (cC t a) (aW 56 a) (tyC t) X S s H locs) (hl : lv_has ls 2 [(0, .ref (a 0)), (1, .ref (a 30))]) (hf : f_X2_takeAllOf_0_30 N S = some S') : W p l e rmX2_takeAllOf_0_30 s m args below meth c H locs 0 0 (MQ below (Qv D (cC t a) (aW 56 a) (tyC t) S') args s 0 0 (aW 56 a)) (F0 m 0 ls []) := by
  obtain ⟨⟨hx, hb, hml, hown, hts⟩, hr, hlk⟩ := id E
  unfold f_X2_takeAllOf_0_30 at hf
  refine lv_aload_n hx hb dX2_takeAllOf_0 rfl (lv_at hl 0 rfl) ?_
  refine lv_aload_n hx hb dX2_takeAllOf_1 rfl (lv_at hl 1 rfl) ?_
  obtain ⟨S2, h1, hf⟩ := bd1_o hf
  refine w_callVv (As := [.ref (a 30)]) (rest := []) hX E w (c_X2_takeShopsOf_0_30 l hX h1) (cwV 1 hts gX2_takeAllOf_X2_takeShopsOf rfl rfl rfl hd_X2_takeShopsOf ⟨Nat.le_of_ble_eq_true rfl, Nat.le_of_ble_eq_true rfl⟩) (ci := 2) rfl (cC_at_0 t a S) rfl hl.1 rfl (Nat.le_of_ble_eq_true rfl) dX2_takeAllOf_2 ⟨Nat.le_refl _, Nat.le_refl _⟩ (fun H locs w => ?_)
  refine lv_aload_n hx hb dX2_takeAllOf_5 rfl (lv_at hl 0 rfl) ?_
  refine lv_aload_n hx hb dX2_takeAllOf_6 rfl (lv_at hl 1 rfl) ?_
  refine w_get E w in_X2_takeAllOf_X2 30 (cC_at_30 t a S2) rfl 7 (by decide) fl_X2_takeAllOf_27 rfl rfl dX2_takeAllOf_7 ?_
  obtain ⟨S3, eS3, hf⟩ := nm_o hf
  refine w_put (S1 := S3) E w in_X2_takeAllOf_X2 tyX2 tyX2_ok nmX2 0 (cC_at_0 t a S2) rfl 7 (by decide) fl_X2_takeAllOf_27 rfl rfl rfl rfl rfl (Nat.le_of_ble_eq_true rfl) ((cC_set_0_7 t a S2 (S2 30 7)).trans (congrArg (cC t a) eS3.symm)) dX2_takeAllOf_10 (fun H locs w => ?_)
  refine lv_aload_n hx hb dX2_takeAllOf_13 rfl (lv_at hl 0 rfl) ?_
  refine lv_aload_n hx hb dX2_takeAllOf_14 rfl (lv_at hl 1 rfl) ?_
  refine w_get E w in_X2_takeAllOf_X2 30 (cC_at_30 t a S3) rfl 8 (by decide) fl_X2_takeAllOf_31 rfl rfl dX2_takeAllOf_15 ?_
  obtain ⟨S4, eS4, hf⟩ := nm_o hf
  refine w_put (S1 := S4) E w in_X2_takeAllOf_X2 tyX2 tyX2_ok nmX2 0 (cC_at_0 t a S3) rfl 8 (by decide) fl_X2_takeAllOf_31 rfl rfl rfl rfl rfl (Nat.le_of_ble_eq_true rfl) ((cC_set_0_8 t a S3 (S3 30 8)).trans (congrArg (cC t a) eS4.symm)) dX2_takeAllOf_18 (fun H locs w => ?_)
  refine lv_aload_n hx hb dX2_takeAllOf_21 rfl (lv_at hl 0 rfl) ?_
  refine lv_aload_n hx hb dX2_takeAllOf_22 rfl (lv_at hl 1 rfl) ?_
  refine w_get E w in_X2_takeAllOf_X2 30 (cC_at_30 t a S4) rfl 11 (by decide) fl_X2_takeAllOf_55 rfl rfl dX2_takeAllOf_23 ?_
  obtain ⟨S5, eS5, hf⟩ := nm_o hf
  refine w_put (S1 := S5) E w in_X2_takeAllOf_X2 tyX2 tyX2_ok nmX2 0 (cC_at_0 t a S4) rfl 11 (by decide) fl_X2_takeAllOf_55 rfl rfl rfl rfl rfl (Nat.le_of_ble_eq_true rfl) ((cC_set_0_11 t a S4 (S4 30 11)).trans (congrArg (cC t a) eS5.symm)) dX2_takeAllOf_26 (fun H locs w => ?_)
  refine lv_aload_n hx hb dX2_takeAllOf_29 rfl (lv_at hl 1 rfl) ?_
  refine w_get E w in_X2_takeAllOf_X2 30 (cC_at_30 t a S5) rfl 12 (by decide) fl_X2_takeAllOf_37 rfl rfl dX2_takeAllOf_30 ?_
  refine lv_iconst (v := 0) hx hb dX2_takeAllOf_33 (by decide) ?_
  refine lv_aload_n hx hb dX2_takeAllOf_34 rfl (lv_at hl 0 rfl) ?_
  refine w_get E w in_X2_takeAllOf_X2 0 (cC_at_0 t a S5) rfl 12 (by decide) fl_X2_takeAllOf_37 rfl rfl dX2_takeAllOf_35 ?_
  refine lv_iconst (v := 0) hx hb dX2_takeAllOf_38 (by decide) ?_
  refine lv_sipush (v := 200) hx hb dX2_takeAllOf_39 (by decide) ?_
  obtain ⟨S6, eS6, hf⟩ := nm_o hf
  refine w_copy (S1 := S6) E w ac1_X2_takeAllOf_61 ac2_X2_takeAllOf ac3_X2_takeAllOf ac4_X2_takeAllOf hl.1 37 7 0 (cC_at_37 t a S5) (cC_at_7 t a S5) rfl 200 ix_200 (by decide) (by decide) (by decide) ((cp_37_7_200 t a S5).trans (congrArg (cC t a) eS6.symm)) (Nat.le_of_ble_eq_true rfl) (by decide) dX2_takeAllOf_42 (fun H locs w => ?_)
  refine lv_aload_n hx hb dX2_takeAllOf_45 rfl (lv_at hl 0 rfl) ?_
  refine lv_aload_n hx hb dX2_takeAllOf_46 rfl (lv_at hl 1 rfl) ?_
  refine w_get E w in_X2_takeAllOf_X2 30 (cC_at_30 t a S6) rfl 13 (by decide) fl_X2_takeAllOf_58 rfl rfl dX2_takeAllOf_47 ?_
  obtain ⟨S7, eS7, hf⟩ := nm_o hf
  refine w_put (S1 := S7) E w in_X2_takeAllOf_X2 tyX2 tyX2_ok nmX2 0 (cC_at_0 t a S6) rfl 13 (by decide) fl_X2_takeAllOf_58 rfl rfl rfl rfl rfl (Nat.le_of_ble_eq_true rfl) ((cC_set_0_13 t a S6 (S6 30 13)).trans (congrArg (cC t a) eS7.symm)) dX2_takeAllOf_50 (fun H locs w => ?_)
  refine lv_aload_n hx hb dX2_takeAllOf_53 rfl (lv_at hl 1 rfl) ?_
  refine w_get E w in_X2_takeAllOf_X2 30 (cC_at_30 t a S7) rfl 14 (by decide) fl_X2_takeAllOf_40 rfl rfl dX2_takeAllOf_54 ?_
  refine lv_iconst (v := 0) hx hb dX2_takeAllOf_57 (by decide) ?_
  refine lv_aload_n hx hb dX2_takeAllOf_58 rfl (lv_at hl 0 rfl) ?_
  refine w_get E w in_X2_takeAllOf_X2 0 (cC_at_0 t a S7) rfl 14 (by decide) fl_X2_takeAllOf_40 rfl rfl dX2_takeAllOf_59 ?_
  refine lv_iconst (v := 0) hx hb dX2_takeAllOf_62 (by decide) ?_
  refine lv_bipush (v := 6) hx hb dX2_takeAllOf_63 (by decide) ?_
  obtain ⟨S8, eS8, hf⟩ := nm_o hf
  refine w_copy (S1 := S8) E w ac1_X2_takeAllOf_61 ac2_X2_takeAllOf ac3_X2_takeAllOf ac4_X2_takeAllOf hl.1 38 8 0 (cC_at_38 t a S7) (cC_at_8 t a S7) rfl 6 ix_6 (by decide) (by decide) (by decide) ((cp_38_8_6 t a S7).trans (congrArg (cC t a) eS8.symm)) (Nat.le_of_ble_eq_true rfl) (by decide) dX2_takeAllOf_65 (fun H locs w => ?_)
  refine lv_aload_n hx hb dX2_takeAllOf_68 rfl (lv_at hl 1 rfl) ?_
  refine w_get E w in_X2_takeAllOf_X2 30 (cC_at_30 t a S8) rfl 15 (by decide) fl_X2_takeAllOf_43 rfl rfl dX2_takeAllOf_69 ?_
  refine lv_iconst (v := 0) hx hb dX2_takeAllOf_72 (by decide) ?_
  refine lv_aload_n hx hb dX2_takeAllOf_73 rfl (lv_at hl 0 rfl) ?_
  refine w_get E w in_X2_takeAllOf_X2 0 (cC_at_0 t a S8) rfl 15 (by decide) fl_X2_takeAllOf_43 rfl rfl dX2_takeAllOf_74 ?_
  refine lv_iconst (v := 0) hx hb dX2_takeAllOf_77 (by decide) ?_
  refine lv_bipush (v := 6) hx hb dX2_takeAllOf_78 (by decide) ?_
  obtain ⟨S9, eS9, hf⟩ := nm_o hf
  refine w_copy (S1 := S9) E w ac1_X2_takeAllOf_61 ac2_X2_takeAllOf ac3_X2_takeAllOf ac4_X2_takeAllOf hl.1 39 9 0 (cC_at_39 t a S8) (cC_at_9 t a S8) rfl 6 ix_6 (by decide) (by decide) (by decide) ((cp_39_9_6 t a S8).trans (congrArg (cC t a) eS9.symm)) (Nat.le_of_ble_eq_true rfl) (by decide) dX2_takeAllOf_80 (fun H locs w => ?_)
  exact w_retv E w hf dX2_takeAllOf_83
theorem c_X2_takeAllOf_0_30 (l : Launch) {D : va_G} {t : Nat → ClassId} {a : Nat → Nat} {X : State → Prop} (hX : XOk (aW 56 a) X) {N : Nat} {S : ST} {S' : ST} (hf : f_X2_takeAllOf_0_30 N S = some S') : Co l yX2_takeAllOf wsX2_takeAllOf rmX2_takeAllOf_0_30 D (cC t a) (aW 56 a) (tyC t) X [.ref (a 0), .ref (a 30)] S (Qv D (cC t a) (aW 56 a) (tyC t) S') :=
  co_of (cc := cX2_takeAllOf) (maxL := 2) (ret := none) (lv := [(0, .ref (a 0)), (1, .ref (a 30))]) (by decide) rfl rfl (Nat.le_of_ble_eq_true rfl) rfl rfl (fun p e s m below meth c ls E hl w => k_X2_takeAllOf_0_30_E hX E w hl hf)
-- X4_from
theorem in_X4_from_X4 : ∀ w ∈ u_ws RX4 TX4 9, w ∈ wsX4_from := by decide +kernel
theorem fl_X4_from_20 : Cond.fieldLink RX4 20 "NextDoor" "kept" "[Z" ∈ wsX4_from := by decide +kernel
theorem fl_X4_from_10 : Cond.fieldLink RX4 10 "NextDoor" "street" "LNextDoor$Street;" ∈ wsX4_from := by decide +kernel
theorem fl_X4_from_16 : Cond.fieldLink RX4 16 "NextDoor" "images" "[LNextDoor$Street;" ∈ wsX4_from := by decide +kernel
abbrev rmX4_from : Room := { frames := 3, cells := 0, slots := 0, locals := 122 }
set_option maxHeartbeats 4000000 in
set_option maxRecDepth 100000 in
theorem k_X4_from_E {p : Program} {l : Launch} {e : Env} {s : State} {m : MethodId} {args : Array Value} {below : List Frame} {meth : Method} {c : Code} {D : va_G} {t : Nat → ClassId} {a : Nat → Nat} {X : State → Prop} {N : Nat} {r : Int32} {S' : ST} (hX : XOk (aW 56 a) X) (E : EN p s m args meth c cX4_from RX4 wsX4_from (some .int) 2) {S : ST} {x1 : Int32} {H : Heap} {locs : List Loc} {ls : Array Slot} (w : Wd D (cC t a) (aW 56 a) (tyC t) X S s H locs) (hl : lv_has ls 2 [(0, .ref (a 50)), (1, .int x1)]) (hf : f_X4_from N S x1 = some (r, S')) : W p l e rmX4_from s m args below meth c H locs 0 0 (MQ below (Qi D (cC t a) (aW 56 a) (tyC t) r S') args s 0 0 (aW 56 a)) (F0 m 0 ls []) := by
  obtain ⟨⟨hx, hb, hml, hown, hts⟩, hr, hlk⟩ := id E
  unfold f_X4_from at hf
  refine lv_iload_n hx hb dX4_from_0 rfl (lv_at hl 1 rfl) ?_
  refine lv_iconst (v := 0) hx hb dX4_from_1 (by decide) ?_
  refine lv_iconst (v := 1) hx hb dX4_from_2 (by decide) ?_
  obtain ⟨r3, S2, h1, hf⟩ := bd2_o hf
  refine w_callSi (As := [.int x1, .int 0, .int 1]) (rest := []) hX E w (c_X4_isIn l hX h1) (va_cwS 3 hts gX4_from_X4_isIn rfl rfl rfl hd_X4_isIn ⟨Nat.le_of_ble_eq_true rfl, Nat.le_of_ble_eq_true rfl⟩) rfl hl.1 rfl (Nat.le_of_ble_eq_true rfl) dX4_from_3 ⟨Nat.le_refl _, Nat.le_refl _⟩ (fun H locs w => ?_)
  refine lv_if_ne (tgt := 18) hx hb dX4_from_6 (by decide) (fun h4 => ?_) (fun h4 => ?_)
  · replace hf := it_f h4 hf
    refine lv_aload_n hx hb dX4_from_18 rfl (lv_at hl 0 rfl) ?_
    refine w_get E w in_X4_from_X4 50 (cC_at_50 t a S2) rfl 2 (by decide) fl_X4_from_20 rfl rfl dX4_from_19 ?_
    refine lv_iload_n hx hb dX4_from_22 rfl (lv_at hl 1 rfl) ?_
    obtain ⟨h5, hf⟩ := it_n hf
    refine w_zald E w 52 1 (cC_at_52 t a S2) rfl h5 rfl dX4_from_23 ?_
    refine lv_if_ne (tgt := 36) hx hb dX4_from_24 (by decide) (fun h6 => ?_) (fun h6 => ?_)
    · replace hf := it_f h6 hf
      refine lv_aload_n hx hb dX4_from_36 rfl (lv_at hl 0 rfl) ?_
      refine w_get E w in_X4_from_X4 50 (cC_at_50 t a S2) rfl 0 (by decide) fl_X4_from_10 rfl rfl dX4_from_37 ?_
      refine lv_aload_n hx hb dX4_from_40 rfl (lv_at hl 0 rfl) ?_
      refine w_get E w in_X4_from_X4 50 (cC_at_50 t a S2) rfl 1 (by decide) fl_X4_from_16 rfl rfl dX4_from_41 ?_
      refine lv_iload_n hx hb dX4_from_44 rfl (lv_at hl 1 rfl) ?_
      obtain ⟨h7, hf⟩ := it_n hf
      by_cases h8 : x1.toNatClampNeg = 0
      · replace hf := it_t h8 hf
        refine w_aldq E w 51 2 (cC_at_51 t a S2) rfl h7 (by rw [h8]; rfl) dX4_from_45 ?_
        obtain ⟨S10, h9, hf⟩ := bd1_o hf
        refine w_callVv (As := [.ref (a 20)]) (rest := []) hX E w (c_X2_takeAllOf_0_20 l hX h9) (cwV 1 hts gX4_from_X2_takeAllOf rfl rfl rfl hd_X2_takeAllOf ⟨Nat.le_of_ble_eq_true rfl, Nat.le_of_ble_eq_true rfl⟩) (ci := 2) rfl (cC_at_0 t a S2) rfl hl.1 rfl (Nat.le_of_ble_eq_true rfl) dX4_from_46 ⟨Nat.le_refl _, Nat.le_refl _⟩ (fun H locs w => ?_)
        refine lv_iconst (v := 1) hx hb dX4_from_49 (by decide) ?_
        exact w_reti E w hf dX4_from_50
      · replace hf := it_f h8 hf
        refine w_aldq E w 51 2 (cC_at_51 t a S2) rfl h7 (by rw [show x1.toNatClampNeg = 1 by have h9 := not_or.mp h7; omega]; rfl) dX4_from_45 ?_
        obtain ⟨S12, h11, hf⟩ := bd1_o hf
        refine w_callVv (As := [.ref (a 30)]) (rest := []) hX E w (c_X2_takeAllOf_0_30 l hX h11) (cwV 1 hts gX4_from_X2_takeAllOf rfl rfl rfl hd_X2_takeAllOf ⟨Nat.le_of_ble_eq_true rfl, Nat.le_of_ble_eq_true rfl⟩) (ci := 2) rfl (cC_at_0 t a S2) rfl hl.1 rfl (Nat.le_of_ble_eq_true rfl) dX4_from_46 ⟨Nat.le_refl _, Nat.le_refl _⟩ (fun H locs w => ?_)
        refine lv_iconst (v := 1) hx hb dX4_from_49 (by decide) ?_
        exact w_reti E w hf dX4_from_50
    · replace hf := it_t h6 hf
      refine lv_aload_n hx hb dX4_from_27 rfl (lv_at hl 0 rfl) ?_
      refine lv_bipush (v := (-3)) hx hb dX4_from_28 (by decide) ?_
      refine lv_bipush (v := (-3)) hx hb dX4_from_30 (by decide) ?_
      obtain ⟨r15, S14, h13, hf⟩ := bd2_o hf
      refine w_callVi (As := [.int (-3), .int (-3)]) (rest := []) hX E w (c_X4_refuse l hX h13) (cwV 2 hts gX4_from_X4_refuse rfl rfl rfl hd_X4_refuse ⟨Nat.le_of_ble_eq_true rfl, Nat.le_of_ble_eq_true rfl⟩) (ci := 4) rfl (cC_at_50 t a S2) rfl hl.1 rfl (Nat.le_of_ble_eq_true rfl) dX4_from_32 ⟨Nat.le_refl _, Nat.le_refl _⟩ (fun H locs w => ?_)
      exact w_reti E w hf dX4_from_35
  · replace hf := it_t h4 hf
    refine lv_aload_n hx hb dX4_from_9 rfl (lv_at hl 0 rfl) ?_
    refine lv_bipush (v := (-2)) hx hb dX4_from_10 (by decide) ?_
    refine lv_bipush (v := (-2)) hx hb dX4_from_12 (by decide) ?_
    obtain ⟨r18, S17, h16, hf⟩ := bd2_o hf
    refine w_callVi (As := [.int (-2), .int (-2)]) (rest := []) hX E w (c_X4_refuse l hX h16) (cwV 2 hts gX4_from_X4_refuse rfl rfl rfl hd_X4_refuse ⟨Nat.le_of_ble_eq_true rfl, Nat.le_of_ble_eq_true rfl⟩) (ci := 4) rfl (cC_at_50 t a S2) rfl hl.1 rfl (Nat.le_of_ble_eq_true rfl) dX4_from_14 ⟨Nat.le_refl _, Nat.le_refl _⟩ (fun H locs w => ?_)
    exact w_reti E w hf dX4_from_17
theorem c_X4_from (l : Launch) {D : va_G} {t : Nat → ClassId} {a : Nat → Nat} {X : State → Prop} (hX : XOk (aW 56 a) X) {N : Nat} {S : ST} {x1 : Int32} {r : Int32} {S' : ST} (hf : f_X4_from N S x1 = some (r, S')) : Co l yX4_from wsX4_from rmX4_from D (cC t a) (aW 56 a) (tyC t) X [.ref (a 50), .int x1] S (Qi D (cC t a) (aW 56 a) (tyC t) r S') :=
  co_of (cc := cX4_from) (maxL := 2) (ret := (some .int)) (lv := [(0, .ref (a 50)), (1, .int x1)]) (by decide) rfl rfl (Nat.le_of_ble_eq_true rfl) rfl rfl (fun p e s m below meth c ls E hl w => k_X4_from_E hX E w hl hf)
-- X4_status
theorem in_X4_status_X4 : ∀ w ∈ u_ws RX4 TX4 9, w ∈ wsX4_status := by decide +kernel
theorem fl_X4_status_49 : Cond.fieldLink RX4 49 "NextDoor" "refused" "[I" ∈ wsX4_status := by decide +kernel
abbrev rmX4_status : Room := { frames := 2, cells := 0, slots := 0, locals := 45 }
set_option maxHeartbeats 4000000 in
set_option maxRecDepth 100000 in
theorem k_X4_status_E {p : Program} {l : Launch} {e : Env} {s : State} {m : MethodId} {args : Array Value} {below : List Frame} {meth : Method} {c : Code} {D : va_G} {t : Nat → ClassId} {a : Nat → Nat} {X : State → Prop} {N : Nat} {r : Int32} {S' : ST} (hX : XOk (aW 56 a) X) (E : EN p s m args meth c cX4_status RX4 wsX4_status (some .int) 2) {S : ST} {x1 : Int32} {H : Heap} {locs : List Loc} {ls : Array Slot} (w : Wd D (cC t a) (aW 56 a) (tyC t) X S s H locs) (hl : lv_has ls 2 [(0, .ref (a 50)), (1, .int x1)]) (hf : f_X4_status N S x1 = some (r, S')) : W p l e rmX4_status s m args below meth c H locs 0 0 (MQ below (Qi D (cC t a) (aW 56 a) (tyC t) r S') args s 0 0 (aW 56 a)) (F0 m 0 ls []) := by
  obtain ⟨⟨hx, hb, hml, hown, hts⟩, hr, hlk⟩ := id E
  unfold f_X4_status at hf
  refine lv_iload_n hx hb dX4_status_0 rfl (lv_at hl 1 rfl) ?_
  refine lv_iconst (v := 0) hx hb dX4_status_1 (by decide) ?_
  refine lv_iconst (v := 2) hx hb dX4_status_2 (by decide) ?_
  obtain ⟨r3, S2, h1, hf⟩ := bd2_o hf
  refine w_callSi (As := [.int x1, .int 0, .int 2]) (rest := []) hX E w (c_X4_isIn l hX h1) (va_cwS 3 hts gX4_status_X4_isIn rfl rfl rfl hd_X4_isIn ⟨Nat.le_of_ble_eq_true rfl, Nat.le_of_ble_eq_true rfl⟩) rfl hl.1 rfl (Nat.le_of_ble_eq_true rfl) dX4_status_3 ⟨Nat.le_refl _, Nat.le_refl _⟩ (fun H locs w => ?_)
  refine lv_if_eq (tgt := 18) hx hb dX4_status_6 (by decide) (fun h4 => ?_) (fun h4 => ?_)
  · replace hf := it_t h4 hf
    refine lv_aload_n hx hb dX4_status_18 rfl (lv_at hl 0 rfl) ?_
    refine lv_bipush (v := (-2)) hx hb dX4_status_19 (by decide) ?_
    refine lv_iconst (v := (-1)) hx hb dX4_status_21 (by decide) ?_
    obtain ⟨r7, S6, h5, hf⟩ := bd2_o hf
    refine w_callVi (As := [.int (-2), .int (-1)]) (rest := []) hX E w (c_X4_refuse l hX h5) (cwV 2 hts gX4_status_X4_refuse rfl rfl rfl hd_X4_refuse ⟨Nat.le_of_ble_eq_true rfl, Nat.le_of_ble_eq_true rfl⟩) (ci := 4) rfl (cC_at_50 t a S2) rfl hl.1 rfl (Nat.le_of_ble_eq_true rfl) dX4_status_22 ⟨Nat.le_refl _, Nat.le_refl _⟩ (fun H locs w => ?_)
    exact w_reti E w hf dX4_status_25
  · replace hf := it_f h4 hf
    refine lv_aload_n hx hb dX4_status_9 rfl (lv_at hl 0 rfl) ?_
    refine w_get E w in_X4_status_X4 50 (cC_at_50 t a S2) rfl 6 (by decide) fl_X4_status_49 rfl rfl dX4_status_10 ?_
    refine lv_iload_n hx hb dX4_status_13 rfl (lv_at hl 1 rfl) ?_
    obtain ⟨h8, hf⟩ := it_n hf
    refine w_ald E w 53 0 (cC_at_53 t a S2) rfl h8 rfl dX4_status_14 ?_
    refine lv_goto (tgt := 25) hx hb dX4_status_15 (by decide) ?_
    exact w_reti E w hf dX4_status_25
theorem c_X4_status (l : Launch) {D : va_G} {t : Nat → ClassId} {a : Nat → Nat} {X : State → Prop} (hX : XOk (aW 56 a) X) {N : Nat} {S : ST} {x1 : Int32} {r : Int32} {S' : ST} (hf : f_X4_status N S x1 = some (r, S')) : Co l yX4_status wsX4_status rmX4_status D (cC t a) (aW 56 a) (tyC t) X [.ref (a 50), .int x1] S (Qi D (cC t a) (aW 56 a) (tyC t) r S') :=
  co_of (cc := cX4_status) (maxL := 2) (ret := (some .int)) (lv := [(0, .ref (a 50)), (1, .int x1)]) (by decide) rfl rfl (Nat.le_of_ble_eq_true rfl) rfl rfl (fun p e s m below meth c ls E hl w => k_X4_status_E hX E w hl hf)
-- X2_howMany_0
theorem in_X2_howMany_X2 : ∀ w ∈ u_ws RX2 TX2 16, w ∈ wsX2_howMany := by decide +kernel
theorem fl_X2_howMany_46 : Cond.fieldLink RX2 46 "NextDoor$Street" "shops" "I" ∈ wsX2_howMany := by decide +kernel
theorem fl_X2_howMany_52 : Cond.fieldLink RX2 52 "NextDoor$Street" "bought" "I" ∈ wsX2_howMany := by decide +kernel
theorem fl_X2_howMany_55 : Cond.fieldLink RX2 55 "NextDoor$Street" "length" "I" ∈ wsX2_howMany := by decide +kernel
theorem fl_X2_howMany_58 : Cond.fieldLink RX2 58 "NextDoor$Street" "buyers" "I" ∈ wsX2_howMany := by decide +kernel
abbrev rmX2_howMany_0 : Room := { frames := 0, cells := 0, slots := 0, locals := 0 }
set_option maxHeartbeats 4000000 in
set_option maxRecDepth 100000 in
theorem k_X2_howMany_0_E {p : Program} {l : Launch} {e : Env} {s : State} {m : MethodId} {args : Array Value} {below : List Frame} {meth : Method} {c : Code} {D : va_G} {t : Nat → ClassId} {a : Nat → Nat} {X : State → Prop} {N : Nat} {r : Int32} {S' : ST} (hX : XOk (aW 56 a) X) (E : EN p s m args meth c cX2_howMany RX2 wsX2_howMany (some .int) 2) {S : ST} {x1 : Int32} {H : Heap} {locs : List Loc} {ls : Array Slot} (w : Wd D (cC t a) (aW 56 a) (tyC t) X S s H locs) (hl : lv_has ls 2 [(0, .ref (a 0)), (1, .int x1)]) (hf : f_X2_howMany_0 N S x1 = some (r, S')) : W p l e rmX2_howMany_0 s m args below meth c H locs 0 0 (MQ below (Qi D (cC t a) (aW 56 a) (tyC t) r S') args s 0 0 (aW 56 a)) (F0 m 0 ls []) := by
  obtain ⟨⟨hx, hb, hml, hown, hts⟩, hr, hlk⟩ := id E
  unfold f_X2_howMany_0 at hf
  refine lv_iload_n hx hb dX2_howMany_0 rfl (lv_at hl 1 rfl) ?_
  by_cases h1 : x1 = 0
  · replace hf := it_t h1 hf
    refine lv_tableIn (tgt := 28) (off := 27) hx hb dX2_howMany_1 (by rw [h1]; decide) (by rw [h1]; decide) (by rw [h1]; rfl) (by decide) ?_
    refine lv_aload_n hx hb dX2_howMany_28 rfl (lv_at hl 0 rfl) ?_
    refine w_get E w in_X2_howMany_X2 0 (cC_at_0 t a S) rfl 0 (by decide) fl_X2_howMany_46 rfl rfl dX2_howMany_29 ?_
    exact w_reti E w hf dX2_howMany_32
  · replace hf := it_f h1 hf
    by_cases h2 : x1 = 1
    · replace hf := it_t h2 hf
      refine lv_tableIn (tgt := 33) (off := 32) hx hb dX2_howMany_1 (by rw [h2]; decide) (by rw [h2]; decide) (by rw [h2]; rfl) (by decide) ?_
      refine lv_aload_n hx hb dX2_howMany_33 rfl (lv_at hl 0 rfl) ?_
      refine w_get E w in_X2_howMany_X2 0 (cC_at_0 t a S) rfl 9 (by decide) fl_X2_howMany_52 rfl rfl dX2_howMany_34 ?_
      exact w_reti E w hf dX2_howMany_37
    · replace hf := it_f h2 hf
      by_cases h3 : x1 = 2
      · replace hf := it_t h3 hf
        refine lv_tableIn (tgt := 38) (off := 37) hx hb dX2_howMany_1 (by rw [h3]; decide) (by rw [h3]; decide) (by rw [h3]; rfl) (by decide) ?_
        refine lv_aload_n hx hb dX2_howMany_38 rfl (lv_at hl 0 rfl) ?_
        refine w_get E w in_X2_howMany_X2 0 (cC_at_0 t a S) rfl 11 (by decide) fl_X2_howMany_55 rfl rfl dX2_howMany_39 ?_
        exact w_reti E w hf dX2_howMany_42
      · replace hf := it_f h3 hf
        refine lv_tableOut (tgt := 43) hx hb dX2_howMany_1 (tb_out3 h1 h2 h3) (by decide) ?_
        refine lv_aload_n hx hb dX2_howMany_43 rfl (lv_at hl 0 rfl) ?_
        refine w_get E w in_X2_howMany_X2 0 (cC_at_0 t a S) rfl 13 (by decide) fl_X2_howMany_58 rfl rfl dX2_howMany_44 ?_
        exact w_reti E w hf dX2_howMany_47
theorem c_X2_howMany_0 (l : Launch) {D : va_G} {t : Nat → ClassId} {a : Nat → Nat} {X : State → Prop} (hX : XOk (aW 56 a) X) {N : Nat} {S : ST} {x1 : Int32} {r : Int32} {S' : ST} (hf : f_X2_howMany_0 N S x1 = some (r, S')) : Co l yX2_howMany wsX2_howMany rmX2_howMany_0 D (cC t a) (aW 56 a) (tyC t) X [.ref (a 0), .int x1] S (Qi D (cC t a) (aW 56 a) (tyC t) r S') :=
  co_of (cc := cX2_howMany) (maxL := 2) (ret := (some .int)) (lv := [(0, .ref (a 0)), (1, .int x1)]) (by decide) rfl rfl (Nat.le_of_ble_eq_true rfl) rfl rfl (fun p e s m below meth c ls E hl w => k_X2_howMany_0_E hX E w hl hf)
-- X4_count
theorem in_X4_count_X4 : ∀ w ∈ u_ws RX4 TX4 9, w ∈ wsX4_count := by decide +kernel
theorem fl_X4_count_10 : Cond.fieldLink RX4 10 "NextDoor" "street" "LNextDoor$Street;" ∈ wsX4_count := by decide +kernel
theorem hd_X2_howMany : yX2_howMany.cls = RX2 ∧ yX2_howMany.cls ≠ "java/lang/invoke/MethodHandle" ∧ yX2_howMany.cls ≠ "java/lang/invoke/VarHandle" ∧ (parseMethodDescriptor yX2_howMany.desc).map (fun d => d.parameters.length) = some 1 := by decide +kernel
abbrev rmX4_count : Room := { frames := 2, cells := 0, slots := 0, locals := 45 }
set_option maxHeartbeats 4000000 in
set_option maxRecDepth 100000 in
theorem k_X4_count_E {p : Program} {l : Launch} {e : Env} {s : State} {m : MethodId} {args : Array Value} {below : List Frame} {meth : Method} {c : Code} {D : va_G} {t : Nat → ClassId} {a : Nat → Nat} {X : State → Prop} {N : Nat} {r : Int32} {S' : ST} (hX : XOk (aW 56 a) X) (E : EN p s m args meth c cX4_count RX4 wsX4_count (some .int) 2) {S : ST} {x1 : Int32} {H : Heap} {locs : List Loc} {ls : Array Slot} (w : Wd D (cC t a) (aW 56 a) (tyC t) X S s H locs) (hl : lv_has ls 2 [(0, .ref (a 50)), (1, .int x1)]) (hf : f_X4_count N S x1 = some (r, S')) : W p l e rmX4_count s m args below meth c H locs 0 0 (MQ below (Qi D (cC t a) (aW 56 a) (tyC t) r S') args s 0 0 (aW 56 a)) (F0 m 0 ls []) := by
  obtain ⟨⟨hx, hb, hml, hown, hts⟩, hr, hlk⟩ := id E
  unfold f_X4_count at hf
  refine lv_iload_n hx hb dX4_count_0 rfl (lv_at hl 1 rfl) ?_
  refine lv_iconst (v := 0) hx hb dX4_count_1 (by decide) ?_
  refine lv_iconst (v := 3) hx hb dX4_count_2 (by decide) ?_
  obtain ⟨r3, S2, h1, hf⟩ := bd2_o hf
  refine w_callSi (As := [.int x1, .int 0, .int 3]) (rest := []) hX E w (c_X4_isIn l hX h1) (va_cwS 3 hts gX4_count_X4_isIn rfl rfl rfl hd_X4_isIn ⟨Nat.le_of_ble_eq_true rfl, Nat.le_of_ble_eq_true rfl⟩) rfl hl.1 rfl (Nat.le_of_ble_eq_true rfl) dX4_count_3 ⟨Nat.le_refl _, Nat.le_refl _⟩ (fun H locs w => ?_)
  refine lv_if_eq (tgt := 20) hx hb dX4_count_6 (by decide) (fun h4 => ?_) (fun h4 => ?_)
  · replace hf := it_t h4 hf
    refine lv_aload_n hx hb dX4_count_20 rfl (lv_at hl 0 rfl) ?_
    refine lv_bipush (v := (-2)) hx hb dX4_count_21 (by decide) ?_
    refine lv_bipush (v := (-2)) hx hb dX4_count_23 (by decide) ?_
    obtain ⟨r7, S6, h5, hf⟩ := bd2_o hf
    refine w_callVi (As := [.int (-2), .int (-2)]) (rest := []) hX E w (c_X4_refuse l hX h5) (cwV 2 hts gX4_count_X4_refuse rfl rfl rfl hd_X4_refuse ⟨Nat.le_of_ble_eq_true rfl, Nat.le_of_ble_eq_true rfl⟩) (ci := 4) rfl (cC_at_50 t a S2) rfl hl.1 rfl (Nat.le_of_ble_eq_true rfl) dX4_count_25 ⟨Nat.le_refl _, Nat.le_refl _⟩ (fun H locs w => ?_)
    exact w_reti E w hf dX4_count_28
  · replace hf := it_f h4 hf
    refine lv_aload_n hx hb dX4_count_9 rfl (lv_at hl 0 rfl) ?_
    refine w_get E w in_X4_count_X4 50 (cC_at_50 t a S2) rfl 0 (by decide) fl_X4_count_10 rfl rfl dX4_count_10 ?_
    refine lv_iload_n hx hb dX4_count_13 rfl (lv_at hl 1 rfl) ?_
    obtain ⟨r10, S9, h8, hf⟩ := bd2_o hf
    refine w_callVi (As := [.int x1]) (rest := []) hX E w (c_X2_howMany_0 l hX h8) (cwV 1 hts gX4_count_X2_howMany rfl rfl rfl hd_X2_howMany ⟨Nat.le_of_ble_eq_true rfl, Nat.le_of_ble_eq_true rfl⟩) (ci := 2) rfl (cC_at_0 t a S2) rfl hl.1 rfl (Nat.le_of_ble_eq_true rfl) dX4_count_14 ⟨Nat.le_refl _, Nat.le_refl _⟩ (fun H locs w => ?_)
    refine lv_goto (tgt := 28) hx hb dX4_count_17 (by decide) ?_
    exact w_reti E w hf dX4_count_28
theorem c_X4_count (l : Launch) {D : va_G} {t : Nat → ClassId} {a : Nat → Nat} {X : State → Prop} (hX : XOk (aW 56 a) X) {N : Nat} {S : ST} {x1 : Int32} {r : Int32} {S' : ST} (hf : f_X4_count N S x1 = some (r, S')) : Co l yX4_count wsX4_count rmX4_count D (cC t a) (aW 56 a) (tyC t) X [.ref (a 50), .int x1] S (Qi D (cC t a) (aW 56 a) (tyC t) r S') :=
  co_of (cc := cX4_count) (maxL := 2) (ret := (some .int)) (lv := [(0, .ref (a 50)), (1, .int x1)]) (by decide) rfl rfl (Nat.le_of_ble_eq_true rfl) rfl rfl (fun p e s m below meth c ls E hl w => k_X4_count_E hX E w hl hf)
-- X4_digest
theorem ct_X4_digest_198 : Cond.constantLong RX4 198 647 ∈ wsX4_digest := by decide +kernel
theorem ct_X4_digest_200 : Cond.constantLong RX4 200 31 ∈ wsX4_digest := by decide +kernel
theorem in_X4_digest_X4 : ∀ w ∈ u_ws RX4 TX4 9, w ∈ wsX4_digest := by decide +kernel
theorem fl_X4_digest_10 : Cond.fieldLink RX4 10 "NextDoor" "street" "LNextDoor$Street;" ∈ wsX4_digest := by decide +kernel
theorem in_X4_digest_X2 : ∀ w ∈ u_ws RX2 TX2 16, w ∈ wsX4_digest := by decide +kernel
theorem fl_X4_digest_67 : Cond.fieldLink RX4 67 "NextDoor$Street" "shops" "I" ∈ wsX4_digest := by decide +kernel
theorem fl_X4_digest_214 : Cond.fieldLink RX4 214 "NextDoor$Street" "freeOnes" "I" ∈ wsX4_digest := by decide +kernel
theorem fl_X4_digest_94 : Cond.fieldLink RX4 94 "NextDoor$Street" "purse" "I" ∈ wsX4_digest := by decide +kernel
theorem fl_X4_digest_97 : Cond.fieldLink RX4 97 "NextDoor$Street" "arms" "I" ∈ wsX4_digest := by decide +kernel
theorem fl_X4_digest_202 : Cond.fieldLink RX4 202 "NextDoor$Street" "kind" "[I" ∈ wsX4_digest := by decide +kernel
theorem fl_X4_digest_100 : Cond.fieldLink RX4 100 "NextDoor$Street" "price" "[I" ∈ wsX4_digest := by decide +kernel
theorem fl_X4_digest_205 : Cond.fieldLink RX4 205 "NextDoor$Street" "minutes" "[I" ∈ wsX4_digest := by decide +kernel
theorem fl_X4_digest_208 : Cond.fieldLink RX4 208 "NextDoor$Street" "shut" "[I" ∈ wsX4_digest := by decide +kernel
theorem fl_X4_digest_211 : Cond.fieldLink RX4 211 "NextDoor$Street" "near" "[I" ∈ wsX4_digest := by decide +kernel
theorem fl_X4_digest_217 : Cond.fieldLink RX4 217 "NextDoor$Street" "bought" "I" ∈ wsX4_digest := by decide +kernel
theorem fl_X4_digest_220 : Cond.fieldLink RX4 220 "NextDoor$Street" "errand" "[I" ∈ wsX4_digest := by decide +kernel
theorem fl_X4_digest_103 : Cond.fieldLink RX4 103 "NextDoor$Street" "length" "I" ∈ wsX4_digest := by decide +kernel
theorem fl_X4_digest_106 : Cond.fieldLink RX4 106 "NextDoor$Street" "text" "[I" ∈ wsX4_digest := by decide +kernel
theorem fl_X4_digest_164 : Cond.fieldLink RX4 164 "NextDoor$Street" "buyers" "I" ∈ wsX4_digest := by decide +kernel
theorem fl_X4_digest_167 : Cond.fieldLink RX4 167 "NextDoor$Street" "want" "[I" ∈ wsX4_digest := by decide +kernel
theorem fl_X4_digest_170 : Cond.fieldLink RX4 170 "NextDoor$Street" "limit" "[I" ∈ wsX4_digest := by decide +kernel
abbrev rmX4_digest : Room := { frames := 1, cells := 0, slots := 0, locals := 21 }
set_option maxHeartbeats 4000000 in
set_option maxRecDepth 100000 in
theorem k_X4_digest_256 {p : Program} {l : Launch} {e : Env} {s : State} {m : MethodId} {args : Array Value} {below : List Frame} {meth : Method} {c : Code} {D : va_G} {t : Nat → ClassId} {a : Nat → Nat} {X : State → Prop} {N : Nat} {r : Int64} {S' : ST} (hX : XOk (aW 56 a) X) (E : EN p s m args meth c cX4_digest RX4 wsX4_digest (some .long) 4) : ∀ (n : Nat) {S : ST} {x1 : Int64} {x3 : Int32} {H : Heap} {locs : List Loc} {ls : Array Slot}, Wd D (cC t a) (aW 56 a) (tyC t) X S s H locs → lv_has ls 4 [(0, .ref (a 50)), (1, .long x1), (3, .int x3)] → b_X4_digest_256 N n S x1 x3 = some (r, S') → W p l e rmX4_digest s m args below meth c H locs 0 0 (MQ below (Ql D (cC t a) (aW 56 a) (tyC t) r S') args s 0 0 (aW 56 a)) (F0 m 256 ls []) := by
  obtain ⟨⟨hx, hb, hml, hown, hts⟩, hr, hlk⟩ := id E
  intro n
  induction n with
  | zero => intro S x1 x3 H locs ls w hl hf; cases hf
  | succ n ih =>
    intro S x1 x3 H locs ls w hl hf
    unfold b_X4_digest_256 at hf
    refine lv_iload_n hx hb dX4_digest_256 rfl (lv_at hl 2 rfl) ?_
    refine lv_aload_n hx hb dX4_digest_257 rfl (lv_at hl 0 rfl) ?_
    refine w_get E w in_X4_digest_X4 50 (cC_at_50 t a S) rfl 0 (by decide) fl_X4_digest_10 rfl rfl dX4_digest_258 ?_
    refine w_get E w in_X4_digest_X2 0 (cC_at_0 t a S) rfl 13 (by decide) fl_X4_digest_164 rfl rfl dX4_digest_261 ?_
    refine lv_icmp_ge (tgt := 307) hx hb dX4_digest_264 (by decide) (fun h15 => ?_) (fun h15 => ?_)
    · replace hf := it_t h15 hf
      refine lv_lload_n hx hb dX4_digest_307 rfl (lv_at hl 1 rfl) ?_
      exact w_retl E w hf dX4_digest_308
    · replace hf := it_f h15 hf
      refine lv_ldc2 hx hb hown (hts _ ct_X4_digest_200) dX4_digest_267 ?_
      refine lv_lload_n hx hb dX4_digest_270 rfl (lv_at hl 1 rfl) ?_
      refine lv_lmul hx hb dX4_digest_271 ?_
      refine lv_aload_n hx hb dX4_digest_272 rfl (lv_at hl 0 rfl) ?_
      refine w_get E w in_X4_digest_X4 50 (cC_at_50 t a S) rfl 0 (by decide) fl_X4_digest_10 rfl rfl dX4_digest_273 ?_
      refine w_get E w in_X4_digest_X2 0 (cC_at_0 t a S) rfl 14 (by decide) fl_X4_digest_167 rfl rfl dX4_digest_276 ?_
      refine lv_iload_n hx hb dX4_digest_279 rfl (lv_at hl 2 rfl) ?_
      obtain ⟨h16, hf⟩ := it_n hf
      refine w_ald E w 8 0 (cC_at_8 t a S) rfl h16 rfl dX4_digest_280 ?_
      refine lv_i2l hx hb dX4_digest_281 rfl ?_
      refine lv_ladd hx hb dX4_digest_282 ?_
      refine lv_lstore_n (lv' := [(1, .long ((31 * x1) + (((S 8 x3.toNatClampNeg) : Int32).toInt64))), (0, .ref (a 50)), (3, .int x3)]) hx hb dX4_digest_283 rfl hl (by decide) rfl (fun ls hl => ?_)
      refine lv_ldc2 hx hb hown (hts _ ct_X4_digest_200) dX4_digest_284 ?_
      refine lv_lload_n hx hb dX4_digest_287 rfl (lv_at hl 0 rfl) ?_
      refine lv_lmul hx hb dX4_digest_288 ?_
      refine lv_aload_n hx hb dX4_digest_289 rfl (lv_at hl 1 rfl) ?_
      refine w_get E w in_X4_digest_X4 50 (cC_at_50 t a S) rfl 0 (by decide) fl_X4_digest_10 rfl rfl dX4_digest_290 ?_
      refine w_get E w in_X4_digest_X2 0 (cC_at_0 t a S) rfl 15 (by decide) fl_X4_digest_170 rfl rfl dX4_digest_293 ?_
      refine lv_iload_n hx hb dX4_digest_296 rfl (lv_at hl 2 rfl) ?_
      obtain ⟨h17, hf⟩ := it_n hf
      refine w_ald E w 9 0 (cC_at_9 t a S) rfl h17 rfl dX4_digest_297 ?_
      refine lv_i2l hx hb dX4_digest_298 rfl ?_
      refine lv_ladd hx hb dX4_digest_299 ?_
      refine lv_lstore_n (lv' := [(1, .long ((31 * ((31 * x1) + (((S 8 x3.toNatClampNeg) : Int32).toInt64))) + (((S 9 x3.toNatClampNeg) : Int32).toInt64))), (0, .ref (a 50)), (3, .int x3)]) hx hb dX4_digest_300 rfl hl (by decide) rfl (fun ls hl => ?_)
      refine lv_iinc (v := x3 + 1) (lv' := [(3, .int (x3 + 1)), (1, .long ((31 * ((31 * x1) + (((S 8 x3.toNatClampNeg) : Int32).toInt64))) + (((S 9 x3.toNatClampNeg) : Int32).toInt64))), (0, .ref (a 50))]) hx hb dX4_digest_301 hl (k := 2) rfl rfl (by decide) rfl (fun ls hl => ?_)
      refine lv_goto (tgt := 256) hx hb dX4_digest_304 (by decide) ?_
      exact ih w (lv_sub hl [2, 1, 0] rfl) hf
set_option maxHeartbeats 4000000 in
set_option maxRecDepth 100000 in
theorem k_X4_digest_220 {p : Program} {l : Launch} {e : Env} {s : State} {m : MethodId} {args : Array Value} {below : List Frame} {meth : Method} {c : Code} {D : va_G} {t : Nat → ClassId} {a : Nat → Nat} {X : State → Prop} {N : Nat} {r : Int64} {S' : ST} (hX : XOk (aW 56 a) X) (E : EN p s m args meth c cX4_digest RX4 wsX4_digest (some .long) 4) : ∀ (n : Nat) {S : ST} {x1 : Int64} {x3 : Int32} {H : Heap} {locs : List Loc} {ls : Array Slot}, Wd D (cC t a) (aW 56 a) (tyC t) X S s H locs → lv_has ls 4 [(0, .ref (a 50)), (1, .long x1), (3, .int x3)] → b_X4_digest_220 N n S x1 x3 = some (r, S') → W p l e rmX4_digest s m args below meth c H locs 0 0 (MQ below (Ql D (cC t a) (aW 56 a) (tyC t) r S') args s 0 0 (aW 56 a)) (F0 m 220 ls []) := by
  obtain ⟨⟨hx, hb, hml, hown, hts⟩, hr, hlk⟩ := id E
  intro n
  induction n with
  | zero => intro S x1 x3 H locs ls w hl hf; cases hf
  | succ n ih =>
    intro S x1 x3 H locs ls w hl hf
    unfold b_X4_digest_220 at hf
    refine lv_iload_n hx hb dX4_digest_220 rfl (lv_at hl 2 rfl) ?_
    refine lv_aload_n hx hb dX4_digest_221 rfl (lv_at hl 0 rfl) ?_
    refine w_get E w in_X4_digest_X4 50 (cC_at_50 t a S) rfl 0 (by decide) fl_X4_digest_10 rfl rfl dX4_digest_222 ?_
    refine w_get E w in_X4_digest_X2 0 (cC_at_0 t a S) rfl 11 (by decide) fl_X4_digest_103 rfl rfl dX4_digest_225 ?_
    refine lv_icmp_ge (tgt := 254) hx hb dX4_digest_228 (by decide) (fun h13 => ?_) (fun h13 => ?_)
    · replace hf := it_t h13 hf
      refine lv_iconst (v := 0) hx hb dX4_digest_254 (by decide) ?_
      refine lv_istore_n (lv' := [(3, .int 0), (0, .ref (a 50)), (1, .long x1)]) hx hb dX4_digest_255 rfl hl (by decide) rfl (fun ls hl => ?_)
      exact k_X4_digest_256 hX E N w (lv_sub hl [1, 2, 0] rfl) hf
    · replace hf := it_f h13 hf
      refine lv_ldc2 hx hb hown (hts _ ct_X4_digest_200) dX4_digest_231 ?_
      refine lv_lload_n hx hb dX4_digest_234 rfl (lv_at hl 1 rfl) ?_
      refine lv_lmul hx hb dX4_digest_235 ?_
      refine lv_aload_n hx hb dX4_digest_236 rfl (lv_at hl 0 rfl) ?_
      refine w_get E w in_X4_digest_X4 50 (cC_at_50 t a S) rfl 0 (by decide) fl_X4_digest_10 rfl rfl dX4_digest_237 ?_
      refine w_get E w in_X4_digest_X2 0 (cC_at_0 t a S) rfl 12 (by decide) fl_X4_digest_106 rfl rfl dX4_digest_240 ?_
      refine lv_iload_n hx hb dX4_digest_243 rfl (lv_at hl 2 rfl) ?_
      obtain ⟨h14, hf⟩ := it_n hf
      refine w_ald E w 7 0 (cC_at_7 t a S) rfl h14 rfl dX4_digest_244 ?_
      refine lv_i2l hx hb dX4_digest_245 rfl ?_
      refine lv_ladd hx hb dX4_digest_246 ?_
      refine lv_lstore_n (lv' := [(1, .long ((31 * x1) + (((S 7 x3.toNatClampNeg) : Int32).toInt64))), (0, .ref (a 50)), (3, .int x3)]) hx hb dX4_digest_247 rfl hl (by decide) rfl (fun ls hl => ?_)
      refine lv_iinc (v := x3 + 1) (lv' := [(3, .int (x3 + 1)), (1, .long ((31 * x1) + (((S 7 x3.toNatClampNeg) : Int32).toInt64))), (0, .ref (a 50))]) hx hb dX4_digest_248 hl (k := 2) rfl rfl (by decide) rfl (fun ls hl => ?_)
      refine lv_goto (tgt := 220) hx hb dX4_digest_251 (by decide) ?_
      exact ih w (lv_sub hl [2, 1, 0] rfl) hf
set_option maxHeartbeats 4000000 in
set_option maxRecDepth 100000 in
theorem k_X4_digest_184 {p : Program} {l : Launch} {e : Env} {s : State} {m : MethodId} {args : Array Value} {below : List Frame} {meth : Method} {c : Code} {D : va_G} {t : Nat → ClassId} {a : Nat → Nat} {X : State → Prop} {N : Nat} {r : Int64} {S' : ST} (hX : XOk (aW 56 a) X) (E : EN p s m args meth c cX4_digest RX4 wsX4_digest (some .long) 4) : ∀ (n : Nat) {S : ST} {x1 : Int64} {x3 : Int32} {H : Heap} {locs : List Loc} {ls : Array Slot}, Wd D (cC t a) (aW 56 a) (tyC t) X S s H locs → lv_has ls 4 [(0, .ref (a 50)), (1, .long x1), (3, .int x3)] → b_X4_digest_184 N n S x1 x3 = some (r, S') → W p l e rmX4_digest s m args below meth c H locs 0 0 (MQ below (Ql D (cC t a) (aW 56 a) (tyC t) r S') args s 0 0 (aW 56 a)) (F0 m 184 ls []) := by
  obtain ⟨⟨hx, hb, hml, hown, hts⟩, hr, hlk⟩ := id E
  intro n
  induction n with
  | zero => intro S x1 x3 H locs ls w hl hf; cases hf
  | succ n ih =>
    intro S x1 x3 H locs ls w hl hf
    unfold b_X4_digest_184 at hf
    refine lv_iload_n hx hb dX4_digest_184 rfl (lv_at hl 2 rfl) ?_
    refine lv_aload_n hx hb dX4_digest_185 rfl (lv_at hl 0 rfl) ?_
    refine w_get E w in_X4_digest_X4 50 (cC_at_50 t a S) rfl 0 (by decide) fl_X4_digest_10 rfl rfl dX4_digest_186 ?_
    refine w_get E w in_X4_digest_X2 0 (cC_at_0 t a S) rfl 9 (by decide) fl_X4_digest_217 rfl rfl dX4_digest_189 ?_
    refine lv_icmp_ge (tgt := 218) hx hb dX4_digest_192 (by decide) (fun h11 => ?_) (fun h11 => ?_)
    · replace hf := it_t h11 hf
      refine lv_iconst (v := 0) hx hb dX4_digest_218 (by decide) ?_
      refine lv_istore_n (lv' := [(3, .int 0), (0, .ref (a 50)), (1, .long x1)]) hx hb dX4_digest_219 rfl hl (by decide) rfl (fun ls hl => ?_)
      exact k_X4_digest_220 hX E N w (lv_sub hl [1, 2, 0] rfl) hf
    · replace hf := it_f h11 hf
      refine lv_ldc2 hx hb hown (hts _ ct_X4_digest_200) dX4_digest_195 ?_
      refine lv_lload_n hx hb dX4_digest_198 rfl (lv_at hl 1 rfl) ?_
      refine lv_lmul hx hb dX4_digest_199 ?_
      refine lv_aload_n hx hb dX4_digest_200 rfl (lv_at hl 0 rfl) ?_
      refine w_get E w in_X4_digest_X4 50 (cC_at_50 t a S) rfl 0 (by decide) fl_X4_digest_10 rfl rfl dX4_digest_201 ?_
      refine w_get E w in_X4_digest_X2 0 (cC_at_0 t a S) rfl 10 (by decide) fl_X4_digest_220 rfl rfl dX4_digest_204 ?_
      refine lv_iload_n hx hb dX4_digest_207 rfl (lv_at hl 2 rfl) ?_
      obtain ⟨h12, hf⟩ := it_n hf
      refine w_ald E w 6 0 (cC_at_6 t a S) rfl h12 rfl dX4_digest_208 ?_
      refine lv_i2l hx hb dX4_digest_209 rfl ?_
      refine lv_ladd hx hb dX4_digest_210 ?_
      refine lv_lstore_n (lv' := [(1, .long ((31 * x1) + (((S 6 x3.toNatClampNeg) : Int32).toInt64))), (0, .ref (a 50)), (3, .int x3)]) hx hb dX4_digest_211 rfl hl (by decide) rfl (fun ls hl => ?_)
      refine lv_iinc (v := x3 + 1) (lv' := [(3, .int (x3 + 1)), (1, .long ((31 * x1) + (((S 6 x3.toNatClampNeg) : Int32).toInt64))), (0, .ref (a 50))]) hx hb dX4_digest_212 hl (k := 2) rfl rfl (by decide) rfl (fun ls hl => ?_)
      refine lv_goto (tgt := 184) hx hb dX4_digest_215 (by decide) ?_
      exact ih w (lv_sub hl [2, 1, 0] rfl) hf
set_option maxHeartbeats 4000000 in
set_option maxRecDepth 100000 in
theorem k_X4_digest_35 {p : Program} {l : Launch} {e : Env} {s : State} {m : MethodId} {args : Array Value} {below : List Frame} {meth : Method} {c : Code} {D : va_G} {t : Nat → ClassId} {a : Nat → Nat} {X : State → Prop} {N : Nat} {r : Int64} {S' : ST} (hX : XOk (aW 56 a) X) (E : EN p s m args meth c cX4_digest RX4 wsX4_digest (some .long) 4) : ∀ (n : Nat) {S : ST} {x1 : Int64} {x3 : Int32} {H : Heap} {locs : List Loc} {ls : Array Slot}, Wd D (cC t a) (aW 56 a) (tyC t) X S s H locs → lv_has ls 4 [(0, .ref (a 50)), (1, .long x1), (3, .int x3)] → b_X4_digest_35 N n S x1 x3 = some (r, S') → W p l e rmX4_digest s m args below meth c H locs 0 0 (MQ below (Ql D (cC t a) (aW 56 a) (tyC t) r S') args s 0 0 (aW 56 a)) (F0 m 35 ls []) := by
  obtain ⟨⟨hx, hb, hml, hown, hts⟩, hr, hlk⟩ := id E
  intro n
  induction n with
  | zero => intro S x1 x3 H locs ls w hl hf; cases hf
  | succ n ih =>
    intro S x1 x3 H locs ls w hl hf
    unfold b_X4_digest_35 at hf
    refine lv_iload_n hx hb dX4_digest_35 rfl (lv_at hl 2 rfl) ?_
    refine lv_aload_n hx hb dX4_digest_36 rfl (lv_at hl 0 rfl) ?_
    refine w_get E w in_X4_digest_X4 50 (cC_at_50 t a S) rfl 0 (by decide) fl_X4_digest_10 rfl rfl dX4_digest_37 ?_
    refine w_get E w in_X4_digest_X2 0 (cC_at_0 t a S) rfl 0 (by decide) fl_X4_digest_67 rfl rfl dX4_digest_40 ?_
    refine lv_icmp_ge (tgt := 137) hx hb dX4_digest_43 (by decide) (fun h5 => ?_) (fun h5 => ?_)
    · replace hf := it_t h5 hf
      refine lv_ldc2 hx hb hown (hts _ ct_X4_digest_200) dX4_digest_137 ?_
      refine lv_lload_n hx hb dX4_digest_140 rfl (lv_at hl 1 rfl) ?_
      refine lv_lmul hx hb dX4_digest_141 ?_
      refine lv_aload_n hx hb dX4_digest_142 rfl (lv_at hl 0 rfl) ?_
      refine w_get E w in_X4_digest_X4 50 (cC_at_50 t a S) rfl 0 (by decide) fl_X4_digest_10 rfl rfl dX4_digest_143 ?_
      refine w_get E w in_X4_digest_X2 0 (cC_at_0 t a S) rfl 6 (by decide) fl_X4_digest_214 rfl rfl dX4_digest_146 ?_
      refine lv_i2l hx hb dX4_digest_149 rfl ?_
      refine lv_ladd hx hb dX4_digest_150 ?_
      refine lv_lstore_n (lv' := [(1, .long ((31 * x1) + (((S 0 6) : Int32).toInt64))), (0, .ref (a 50)), (3, .int x3)]) hx hb dX4_digest_151 rfl hl (by decide) rfl (fun ls hl => ?_)
      refine lv_ldc2 hx hb hown (hts _ ct_X4_digest_200) dX4_digest_152 ?_
      refine lv_lload_n hx hb dX4_digest_155 rfl (lv_at hl 0 rfl) ?_
      refine lv_lmul hx hb dX4_digest_156 ?_
      refine lv_aload_n hx hb dX4_digest_157 rfl (lv_at hl 1 rfl) ?_
      refine w_get E w in_X4_digest_X4 50 (cC_at_50 t a S) rfl 0 (by decide) fl_X4_digest_10 rfl rfl dX4_digest_158 ?_
      refine w_get E w in_X4_digest_X2 0 (cC_at_0 t a S) rfl 7 (by decide) fl_X4_digest_94 rfl rfl dX4_digest_161 ?_
      refine lv_i2l hx hb dX4_digest_164 rfl ?_
      refine lv_ladd hx hb dX4_digest_165 ?_
      refine lv_lstore_n (lv' := [(1, .long ((31 * ((31 * x1) + (((S 0 6) : Int32).toInt64))) + (((S 0 7) : Int32).toInt64))), (0, .ref (a 50)), (3, .int x3)]) hx hb dX4_digest_166 rfl hl (by decide) rfl (fun ls hl => ?_)
      refine lv_ldc2 hx hb hown (hts _ ct_X4_digest_200) dX4_digest_167 ?_
      refine lv_lload_n hx hb dX4_digest_170 rfl (lv_at hl 0 rfl) ?_
      refine lv_lmul hx hb dX4_digest_171 ?_
      refine lv_aload_n hx hb dX4_digest_172 rfl (lv_at hl 1 rfl) ?_
      refine w_get E w in_X4_digest_X4 50 (cC_at_50 t a S) rfl 0 (by decide) fl_X4_digest_10 rfl rfl dX4_digest_173 ?_
      refine w_get E w in_X4_digest_X2 0 (cC_at_0 t a S) rfl 8 (by decide) fl_X4_digest_97 rfl rfl dX4_digest_176 ?_
      refine lv_i2l hx hb dX4_digest_179 rfl ?_
      refine lv_ladd hx hb dX4_digest_180 ?_
      refine lv_lstore_n (lv' := [(1, .long ((31 * ((31 * ((31 * x1) + (((S 0 6) : Int32).toInt64))) + (((S 0 7) : Int32).toInt64))) + (((S 0 8) : Int32).toInt64))), (0, .ref (a 50)), (3, .int x3)]) hx hb dX4_digest_181 rfl hl (by decide) rfl (fun ls hl => ?_)
      refine lv_iconst (v := 0) hx hb dX4_digest_182 (by decide) ?_
      refine lv_istore_n (lv' := [(3, .int 0), (1, .long ((31 * ((31 * ((31 * x1) + (((S 0 6) : Int32).toInt64))) + (((S 0 7) : Int32).toInt64))) + (((S 0 8) : Int32).toInt64))), (0, .ref (a 50))]) hx hb dX4_digest_183 rfl hl (by decide) rfl (fun ls hl => ?_)
      exact k_X4_digest_184 hX E N w (lv_sub hl [2, 1, 0] rfl) hf
    · replace hf := it_f h5 hf
      refine lv_ldc2 hx hb hown (hts _ ct_X4_digest_200) dX4_digest_46 ?_
      refine lv_lload_n hx hb dX4_digest_49 rfl (lv_at hl 1 rfl) ?_
      refine lv_lmul hx hb dX4_digest_50 ?_
      refine lv_aload_n hx hb dX4_digest_51 rfl (lv_at hl 0 rfl) ?_
      refine w_get E w in_X4_digest_X4 50 (cC_at_50 t a S) rfl 0 (by decide) fl_X4_digest_10 rfl rfl dX4_digest_52 ?_
      refine w_get E w in_X4_digest_X2 0 (cC_at_0 t a S) rfl 1 (by decide) fl_X4_digest_202 rfl rfl dX4_digest_55 ?_
      refine lv_iload_n hx hb dX4_digest_58 rfl (lv_at hl 2 rfl) ?_
      obtain ⟨h6, hf⟩ := it_n hf
      refine w_ald E w 1 0 (cC_at_1 t a S) rfl h6 rfl dX4_digest_59 ?_
      refine lv_i2l hx hb dX4_digest_60 rfl ?_
      refine lv_ladd hx hb dX4_digest_61 ?_
      refine lv_lstore_n (lv' := [(1, .long ((31 * x1) + (((S 1 x3.toNatClampNeg) : Int32).toInt64))), (0, .ref (a 50)), (3, .int x3)]) hx hb dX4_digest_62 rfl hl (by decide) rfl (fun ls hl => ?_)
      refine lv_ldc2 hx hb hown (hts _ ct_X4_digest_200) dX4_digest_63 ?_
      refine lv_lload_n hx hb dX4_digest_66 rfl (lv_at hl 0 rfl) ?_
      refine lv_lmul hx hb dX4_digest_67 ?_
      refine lv_aload_n hx hb dX4_digest_68 rfl (lv_at hl 1 rfl) ?_
      refine w_get E w in_X4_digest_X4 50 (cC_at_50 t a S) rfl 0 (by decide) fl_X4_digest_10 rfl rfl dX4_digest_69 ?_
      refine w_get E w in_X4_digest_X2 0 (cC_at_0 t a S) rfl 2 (by decide) fl_X4_digest_100 rfl rfl dX4_digest_72 ?_
      refine lv_iload_n hx hb dX4_digest_75 rfl (lv_at hl 2 rfl) ?_
      obtain ⟨h7, hf⟩ := it_n hf
      refine w_ald E w 2 0 (cC_at_2 t a S) rfl h7 rfl dX4_digest_76 ?_
      refine lv_i2l hx hb dX4_digest_77 rfl ?_
      refine lv_ladd hx hb dX4_digest_78 ?_
      refine lv_lstore_n (lv' := [(1, .long ((31 * ((31 * x1) + (((S 1 x3.toNatClampNeg) : Int32).toInt64))) + (((S 2 x3.toNatClampNeg) : Int32).toInt64))), (0, .ref (a 50)), (3, .int x3)]) hx hb dX4_digest_79 rfl hl (by decide) rfl (fun ls hl => ?_)
      refine lv_ldc2 hx hb hown (hts _ ct_X4_digest_200) dX4_digest_80 ?_
      refine lv_lload_n hx hb dX4_digest_83 rfl (lv_at hl 0 rfl) ?_
      refine lv_lmul hx hb dX4_digest_84 ?_
      refine lv_aload_n hx hb dX4_digest_85 rfl (lv_at hl 1 rfl) ?_
      refine w_get E w in_X4_digest_X4 50 (cC_at_50 t a S) rfl 0 (by decide) fl_X4_digest_10 rfl rfl dX4_digest_86 ?_
      refine w_get E w in_X4_digest_X2 0 (cC_at_0 t a S) rfl 3 (by decide) fl_X4_digest_205 rfl rfl dX4_digest_89 ?_
      refine lv_iload_n hx hb dX4_digest_92 rfl (lv_at hl 2 rfl) ?_
      obtain ⟨h8, hf⟩ := it_n hf
      refine w_ald E w 3 0 (cC_at_3 t a S) rfl h8 rfl dX4_digest_93 ?_
      refine lv_i2l hx hb dX4_digest_94 rfl ?_
      refine lv_ladd hx hb dX4_digest_95 ?_
      refine lv_lstore_n (lv' := [(1, .long ((31 * ((31 * ((31 * x1) + (((S 1 x3.toNatClampNeg) : Int32).toInt64))) + (((S 2 x3.toNatClampNeg) : Int32).toInt64))) + (((S 3 x3.toNatClampNeg) : Int32).toInt64))), (0, .ref (a 50)), (3, .int x3)]) hx hb dX4_digest_96 rfl hl (by decide) rfl (fun ls hl => ?_)
      refine lv_ldc2 hx hb hown (hts _ ct_X4_digest_200) dX4_digest_97 ?_
      refine lv_lload_n hx hb dX4_digest_100 rfl (lv_at hl 0 rfl) ?_
      refine lv_lmul hx hb dX4_digest_101 ?_
      refine lv_aload_n hx hb dX4_digest_102 rfl (lv_at hl 1 rfl) ?_
      refine w_get E w in_X4_digest_X4 50 (cC_at_50 t a S) rfl 0 (by decide) fl_X4_digest_10 rfl rfl dX4_digest_103 ?_
      refine w_get E w in_X4_digest_X2 0 (cC_at_0 t a S) rfl 4 (by decide) fl_X4_digest_208 rfl rfl dX4_digest_106 ?_
      refine lv_iload_n hx hb dX4_digest_109 rfl (lv_at hl 2 rfl) ?_
      obtain ⟨h9, hf⟩ := it_n hf
      refine w_ald E w 4 0 (cC_at_4 t a S) rfl h9 rfl dX4_digest_110 ?_
      refine lv_i2l hx hb dX4_digest_111 rfl ?_
      refine lv_ladd hx hb dX4_digest_112 ?_
      refine lv_lstore_n (lv' := [(1, .long ((31 * ((31 * ((31 * ((31 * x1) + (((S 1 x3.toNatClampNeg) : Int32).toInt64))) + (((S 2 x3.toNatClampNeg) : Int32).toInt64))) + (((S 3 x3.toNatClampNeg) : Int32).toInt64))) + (((S 4 x3.toNatClampNeg) : Int32).toInt64))), (0, .ref (a 50)), (3, .int x3)]) hx hb dX4_digest_113 rfl hl (by decide) rfl (fun ls hl => ?_)
      refine lv_ldc2 hx hb hown (hts _ ct_X4_digest_200) dX4_digest_114 ?_
      refine lv_lload_n hx hb dX4_digest_117 rfl (lv_at hl 0 rfl) ?_
      refine lv_lmul hx hb dX4_digest_118 ?_
      refine lv_aload_n hx hb dX4_digest_119 rfl (lv_at hl 1 rfl) ?_
      refine w_get E w in_X4_digest_X4 50 (cC_at_50 t a S) rfl 0 (by decide) fl_X4_digest_10 rfl rfl dX4_digest_120 ?_
      refine w_get E w in_X4_digest_X2 0 (cC_at_0 t a S) rfl 5 (by decide) fl_X4_digest_211 rfl rfl dX4_digest_123 ?_
      refine lv_iload_n hx hb dX4_digest_126 rfl (lv_at hl 2 rfl) ?_
      obtain ⟨h10, hf⟩ := it_n hf
      refine w_ald E w 5 0 (cC_at_5 t a S) rfl h10 rfl dX4_digest_127 ?_
      refine lv_i2l hx hb dX4_digest_128 rfl ?_
      refine lv_ladd hx hb dX4_digest_129 ?_
      refine lv_lstore_n (lv' := [(1, .long ((31 * ((31 * ((31 * ((31 * ((31 * x1) + (((S 1 x3.toNatClampNeg) : Int32).toInt64))) + (((S 2 x3.toNatClampNeg) : Int32).toInt64))) + (((S 3 x3.toNatClampNeg) : Int32).toInt64))) + (((S 4 x3.toNatClampNeg) : Int32).toInt64))) + (((S 5 x3.toNatClampNeg) : Int32).toInt64))), (0, .ref (a 50)), (3, .int x3)]) hx hb dX4_digest_130 rfl hl (by decide) rfl (fun ls hl => ?_)
      refine lv_iinc (v := x3 + 1) (lv' := [(3, .int (x3 + 1)), (1, .long ((31 * ((31 * ((31 * ((31 * ((31 * x1) + (((S 1 x3.toNatClampNeg) : Int32).toInt64))) + (((S 2 x3.toNatClampNeg) : Int32).toInt64))) + (((S 3 x3.toNatClampNeg) : Int32).toInt64))) + (((S 4 x3.toNatClampNeg) : Int32).toInt64))) + (((S 5 x3.toNatClampNeg) : Int32).toInt64))), (0, .ref (a 50))]) hx hb dX4_digest_131 hl (k := 2) rfl rfl (by decide) rfl (fun ls hl => ?_)
      refine lv_goto (tgt := 35) hx hb dX4_digest_134 (by decide) ?_
      exact ih w (lv_sub hl [2, 1, 0] rfl) hf
set_option maxHeartbeats 4000000 in
set_option maxRecDepth 100000 in
theorem k_X4_digest_6 {p : Program} {l : Launch} {e : Env} {s : State} {m : MethodId} {args : Array Value} {below : List Frame} {meth : Method} {c : Code} {D : va_G} {t : Nat → ClassId} {a : Nat → Nat} {X : State → Prop} {N : Nat} {r : Int64} {S' : ST} (hX : XOk (aW 56 a) X) (E : EN p s m args meth c cX4_digest RX4 wsX4_digest (some .long) 4) : ∀ (n : Nat) {S : ST} {x1 : Int64} {x3 : Int32} {H : Heap} {locs : List Loc} {ls : Array Slot}, Wd D (cC t a) (aW 56 a) (tyC t) X S s H locs → lv_has ls 4 [(0, .ref (a 50)), (1, .long x1), (3, .int x3)] → b_X4_digest_6 N n S x1 x3 = some (r, S') → W p l e rmX4_digest s m args below meth c H locs 0 0 (MQ below (Ql D (cC t a) (aW 56 a) (tyC t) r S') args s 0 0 (aW 56 a)) (F0 m 6 ls []) := by
  obtain ⟨⟨hx, hb, hml, hown, hts⟩, hr, hlk⟩ := id E
  intro n
  induction n with
  | zero => intro S x1 x3 H locs ls w hl hf; cases hf
  | succ n ih =>
    intro S x1 x3 H locs ls w hl hf
    unfold b_X4_digest_6 at hf
    refine lv_iload_n hx hb dX4_digest_6 rfl (lv_at hl 2 rfl) ?_
    refine lv_iconst (v := 3) hx hb dX4_digest_7 (by decide) ?_
    refine lv_icmp_gt (tgt := 33) hx hb dX4_digest_8 (by decide) (fun h1 => ?_) (fun h1 => ?_)
    · replace hf := it_t h1 hf
      refine lv_iconst (v := 0) hx hb dX4_digest_33 (by decide) ?_
      refine lv_istore_n (lv' := [(3, .int 0), (0, .ref (a 50)), (1, .long x1)]) hx hb dX4_digest_34 rfl hl (by decide) rfl (fun ls hl => ?_)
      exact k_X4_digest_35 hX E N w (lv_sub hl [1, 2, 0] rfl) hf
    · replace hf := it_f h1 hf
      refine lv_ldc2 hx hb hown (hts _ ct_X4_digest_200) dX4_digest_11 ?_
      refine lv_lload_n hx hb dX4_digest_14 rfl (lv_at hl 1 rfl) ?_
      refine lv_lmul hx hb dX4_digest_15 ?_
      refine lv_aload_n hx hb dX4_digest_16 rfl (lv_at hl 0 rfl) ?_
      refine w_get E w in_X4_digest_X4 50 (cC_at_50 t a S) rfl 0 (by decide) fl_X4_digest_10 rfl rfl dX4_digest_17 ?_
      refine lv_iload_n hx hb dX4_digest_20 rfl (lv_at hl 2 rfl) ?_
      obtain ⟨r4, S3, h2, hf⟩ := bd2_o hf
      refine w_callVi (As := [.int x3]) (rest := [.long (31 * x1)]) hX E w (c_X2_howMany_0 l hX h2) (cwV 1 hts gX4_digest_X2_howMany rfl rfl rfl hd_X2_howMany ⟨Nat.le_of_ble_eq_true rfl, Nat.le_of_ble_eq_true rfl⟩) (ci := 2) rfl (cC_at_0 t a S) rfl hl.1 rfl (Nat.le_of_ble_eq_true rfl) dX4_digest_21 ⟨Nat.le_refl _, Nat.le_refl _⟩ (fun H locs w => ?_)
      refine lv_i2l hx hb dX4_digest_24 rfl ?_
      refine lv_ladd hx hb dX4_digest_25 ?_
      refine lv_lstore_n (lv' := [(1, .long ((31 * x1) + ((r4 : Int32).toInt64))), (0, .ref (a 50)), (3, .int x3)]) hx hb dX4_digest_26 rfl hl (by decide) rfl (fun ls hl => ?_)
      refine lv_iinc (v := x3 + 1) (lv' := [(3, .int (x3 + 1)), (1, .long ((31 * x1) + ((r4 : Int32).toInt64))), (0, .ref (a 50))]) hx hb dX4_digest_27 hl (k := 2) rfl rfl (by decide) rfl (fun ls hl => ?_)
      refine lv_goto (tgt := 6) hx hb dX4_digest_30 (by decide) ?_
      exact ih w (lv_sub hl [2, 1, 0] rfl) hf
set_option maxHeartbeats 4000000 in
set_option maxRecDepth 100000 in
theorem k_X4_digest_E {p : Program} {l : Launch} {e : Env} {s : State} {m : MethodId} {args : Array Value} {below : List Frame} {meth : Method} {c : Code} {D : va_G} {t : Nat → ClassId} {a : Nat → Nat} {X : State → Prop} {N : Nat} {r : Int64} {S' : ST} (hX : XOk (aW 56 a) X) (E : EN p s m args meth c cX4_digest RX4 wsX4_digest (some .long) 4) {S : ST} {H : Heap} {locs : List Loc} {ls : Array Slot} (w : Wd D (cC t a) (aW 56 a) (tyC t) X S s H locs) (hl : lv_has ls 4 [(0, .ref (a 50))]) (hf : f_X4_digest N S = some (r, S')) : W p l e rmX4_digest s m args below meth c H locs 0 0 (MQ below (Ql D (cC t a) (aW 56 a) (tyC t) r S') args s 0 0 (aW 56 a)) (F0 m 0 ls []) := by
  obtain ⟨⟨hx, hb, hml, hown, hts⟩, hr, hlk⟩ := id E
  unfold f_X4_digest at hf
  refine lv_ldc2 hx hb hown (hts _ ct_X4_digest_198) dX4_digest_0 ?_
  refine lv_lstore_n (lv' := [(1, .long 647), (0, .ref (a 50))]) hx hb dX4_digest_3 rfl hl (by decide) rfl (fun ls hl => ?_)
  refine lv_iconst (v := 0) hx hb dX4_digest_4 (by decide) ?_
  refine lv_istore_n (lv' := [(3, .int 0), (1, .long 647), (0, .ref (a 50))]) hx hb dX4_digest_5 rfl hl (by decide) rfl (fun ls hl => ?_)
  exact k_X4_digest_6 hX E N w (lv_sub hl [2, 1, 0] rfl) hf
theorem c_X4_digest (l : Launch) {D : va_G} {t : Nat → ClassId} {a : Nat → Nat} {X : State → Prop} (hX : XOk (aW 56 a) X) {N : Nat} {S : ST} {r : Int64} {S' : ST} (hf : f_X4_digest N S = some (r, S')) : Co l yX4_digest wsX4_digest rmX4_digest D (cC t a) (aW 56 a) (tyC t) X [.ref (a 50)] S (Ql D (cC t a) (aW 56 a) (tyC t) r S') :=
  co_of (cc := cX4_digest) (maxL := 4) (ret := (some .long)) (lv := [(0, .ref (a 50))]) (by decide) rfl rfl (Nat.le_of_ble_eq_true rfl) rfl rfl (fun p e s m below meth c ls E hl w => k_X4_digest_E hX E w hl hf)
