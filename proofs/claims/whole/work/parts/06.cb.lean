-- X2_goodTaken_0
theorem in_X2_goodTaken_X2 : ∀ w ∈ u_ws RX2 TX2 16, w ∈ wsX2_goodTaken := by decide +kernel
theorem fl_X2_goodTaken_9 : Cond.fieldLink RX2 9 "NextDoor$Street" "kind" "[I" ∈ wsX2_goodTaken := by decide +kernel
theorem fl_X2_goodTaken_46 : Cond.fieldLink RX2 46 "NextDoor$Street" "shops" "I" ∈ wsX2_goodTaken := by decide +kernel
abbrev rmX2_goodTaken_0 : Room := { frames := 0, cells := 0, slots := 0, locals := 0 }
set_option maxHeartbeats 4000000 in
set_option maxRecDepth 100000 in
theorem k_X2_goodTaken_0_38 {p : Program} {l : Launch} {e : Env} {s : State} {m : MethodId} {args : Array Value} {below : List Frame} {meth : Method} {c : Code} {D : va_G} {t : Nat → ClassId} {a : Nat → Nat} {X : State → Prop} {N : Nat} {r : Int32} {S' : ST} (hX : XOk (aW 56 a) X) (E : EN p s m args meth c cX2_goodTaken RX2 wsX2_goodTaken (some .int) 4) {S : ST} {x2 : Int32} {s0 : Int32} {H : Heap} {locs : List Loc} {ls : Array Slot} (w : Wd D (cC t a) (aW 56 a) (tyC t) X S s H locs) (hl : lv_has ls 4 [(2, .int x2)]) (hf : b_X2_goodTaken_0_38 N S x2 s0 = some (r, S')) : W p l e rmX2_goodTaken_0 s m args below meth c H locs 0 0 (MQ below (Qi D (cC t a) (aW 56 a) (tyC t) r S') args s 0 0 (aW 56 a)) (F0 m 38 ls [.int s0]) := by
  obtain ⟨⟨hx, hb, hml, hown, hts⟩, hr, hlk⟩ := id E
  unfold b_X2_goodTaken_0_38 at hf
  refine lv_istore_n (lv' := [(3, .int s0), (2, .int x2)]) hx hb dX2_goodTaken_38 rfl hl (by decide) rfl (fun ls hl => ?_)
  refine lv_iload_n hx hb dX2_goodTaken_39 rfl (lv_at hl 1 rfl) ?_
  refine lv_iconst (v := 1) hx hb dX2_goodTaken_40 (by decide) ?_
  refine lv_iload_n hx hb dX2_goodTaken_41 rfl (lv_at hl 0 rfl) ?_
  refine lv_ishl hx hb dX2_goodTaken_42 ?_
  refine lv_iand hx hb dX2_goodTaken_43 ?_
  refine lv_if_eq (tgt := 51) hx hb dX2_goodTaken_44 (by decide) (fun h6 => ?_) (fun h6 => ?_)
  · replace hf := it_t h6 hf
    refine lv_iconst (v := (-1)) hx hb dX2_goodTaken_51 (by decide) ?_
    exact w_reti E w hf dX2_goodTaken_52
  · replace hf := it_f h6 hf
    refine lv_iload_n hx hb dX2_goodTaken_47 rfl (lv_at hl 0 rfl) ?_
    refine lv_goto (tgt := 52) hx hb dX2_goodTaken_48 (by decide) ?_
    exact w_reti E w hf dX2_goodTaken_52
set_option maxHeartbeats 4000000 in
set_option maxRecDepth 100000 in
theorem k_X2_goodTaken_0_22 {p : Program} {l : Launch} {e : Env} {s : State} {m : MethodId} {args : Array Value} {below : List Frame} {meth : Method} {c : Code} {D : va_G} {t : Nat → ClassId} {a : Nat → Nat} {X : State → Prop} {N : Nat} {r : Int32} {S' : ST} (hX : XOk (aW 56 a) X) (E : EN p s m args meth c cX2_goodTaken RX2 wsX2_goodTaken (some .int) 4) {S : ST} {x1 : Int32} {x2 : Int32} {H : Heap} {locs : List Loc} {ls : Array Slot} (w : Wd D (cC t a) (aW 56 a) (tyC t) X S s H locs) (hl : lv_has ls 4 [(0, .ref (a 0)), (1, .int x1), (2, .int x2)]) (hf : b_X2_goodTaken_0_22 N S x1 x2 = some (r, S')) : W p l e rmX2_goodTaken_0 s m args below meth c H locs 0 0 (MQ below (Qi D (cC t a) (aW 56 a) (tyC t) r S') args s 0 0 (aW 56 a)) (F0 m 22 ls []) := by
  obtain ⟨⟨hx, hb, hml, hown, hts⟩, hr, hlk⟩ := id E
  unfold b_X2_goodTaken_0_22 at hf
  refine lv_iload_n hx hb dX2_goodTaken_22 rfl (lv_at hl 1 rfl) ?_
  refine lv_if_le (tgt := 32) hx hb dX2_goodTaken_23 (by decide) (fun h5 => ?_) (fun h5 => ?_)
  · replace hf := it_t h5 hf
    refine lv_aload_n hx hb dX2_goodTaken_32 rfl (lv_at hl 0 rfl) ?_
    refine w_get E w in_X2_goodTaken_X2 0 (cC_at_0 t a S) rfl 0 (by decide) fl_X2_goodTaken_46 rfl rfl dX2_goodTaken_33 ?_
    refine lv_iconst (v := 1) hx hb dX2_goodTaken_36 (by decide) ?_
    refine lv_isub hx hb dX2_goodTaken_37 ?_
    exact k_X2_goodTaken_0_38 hX E w (lv_sub hl [2] rfl) hf
  · replace hf := it_f h5 hf
    refine lv_iload_n hx hb dX2_goodTaken_26 rfl (lv_at hl 1 rfl) ?_
    refine lv_iconst (v := 1) hx hb dX2_goodTaken_27 (by decide) ?_
    refine lv_isub hx hb dX2_goodTaken_28 ?_
    refine lv_goto (tgt := 38) hx hb dX2_goodTaken_29 (by decide) ?_
    exact k_X2_goodTaken_0_38 hX E w (lv_sub hl [2] rfl) hf
set_option maxHeartbeats 4000000 in
set_option maxRecDepth 100000 in
theorem k_X2_goodTaken_0_E {p : Program} {l : Launch} {e : Env} {s : State} {m : MethodId} {args : Array Value} {below : List Frame} {meth : Method} {c : Code} {D : va_G} {t : Nat → ClassId} {a : Nat → Nat} {X : State → Prop} {N : Nat} {r : Int32} {S' : ST} (hX : XOk (aW 56 a) X) (E : EN p s m args meth c cX2_goodTaken RX2 wsX2_goodTaken (some .int) 4) {S : ST} {x1 : Int32} {x2 : Int32} {H : Heap} {locs : List Loc} {ls : Array Slot} (w : Wd D (cC t a) (aW 56 a) (tyC t) X S s H locs) (hl : lv_has ls 4 [(0, .ref (a 0)), (1, .int x1), (2, .int x2)]) (hf : f_X2_goodTaken_0 N S x1 x2 = some (r, S')) : W p l e rmX2_goodTaken_0 s m args below meth c H locs 0 0 (MQ below (Qi D (cC t a) (aW 56 a) (tyC t) r S') args s 0 0 (aW 56 a)) (F0 m 0 ls []) := by
  obtain ⟨⟨hx, hb, hml, hown, hts⟩, hr, hlk⟩ := id E
  unfold f_X2_goodTaken_0 at hf
  refine lv_aload_n hx hb dX2_goodTaken_0 rfl (lv_at hl 0 rfl) ?_
  refine w_get E w in_X2_goodTaken_X2 0 (cC_at_0 t a S) rfl 1 (by decide) fl_X2_goodTaken_9 rfl rfl dX2_goodTaken_1 ?_
  refine lv_iload_n hx hb dX2_goodTaken_4 rfl (lv_at hl 1 rfl) ?_
  obtain ⟨h1, hf⟩ := it_n hf
  refine w_ald E w 1 0 (cC_at_1 t a S) rfl h1 rfl dX2_goodTaken_5 ?_
  refine lv_iconst (v := 2) hx hb dX2_goodTaken_6 (by decide) ?_
  refine lv_icmp_eq (tgt := 22) hx hb dX2_goodTaken_7 (by decide) (fun h2 => ?_) (fun h2 => ?_)
  · replace hf := it_t h2 hf
    exact k_X2_goodTaken_0_22 hX E w (lv_sub hl [0, 1, 2] rfl) hf
  · replace hf := it_f h2 hf
    refine lv_aload_n hx hb dX2_goodTaken_10 rfl (lv_at hl 0 rfl) ?_
    refine w_get E w in_X2_goodTaken_X2 0 (cC_at_0 t a S) rfl 1 (by decide) fl_X2_goodTaken_9 rfl rfl dX2_goodTaken_11 ?_
    refine lv_iload_n hx hb dX2_goodTaken_14 rfl (lv_at hl 1 rfl) ?_
    obtain ⟨h3, hf⟩ := it_n hf
    refine w_ald E w 1 0 (cC_at_1 t a S) rfl h3 rfl dX2_goodTaken_15 ?_
    refine lv_iconst (v := 4) hx hb dX2_goodTaken_16 (by decide) ?_
    refine lv_icmp_eq (tgt := 22) hx hb dX2_goodTaken_17 (by decide) (fun h4 => ?_) (fun h4 => ?_)
    · replace hf := it_t h4 hf
      exact k_X2_goodTaken_0_22 hX E w (lv_sub hl [0, 1, 2] rfl) hf
    · replace hf := it_f h4 hf
      refine lv_iconst (v := (-1)) hx hb dX2_goodTaken_20 (by decide) ?_
      exact w_reti E w hf dX2_goodTaken_21
theorem c_X2_goodTaken_0 (l : Launch) {D : va_G} {t : Nat → ClassId} {a : Nat → Nat} {X : State → Prop} (hX : XOk (aW 56 a) X) {N : Nat} {S : ST} {x1 : Int32} {x2 : Int32} {r : Int32} {S' : ST} (hf : f_X2_goodTaken_0 N S x1 x2 = some (r, S')) : Co l yX2_goodTaken wsX2_goodTaken rmX2_goodTaken_0 D (cC t a) (aW 56 a) (tyC t) X [.ref (a 0), .int x1, .int x2] S (Qi D (cC t a) (aW 56 a) (tyC t) r S') :=
  co_of (cc := cX2_goodTaken) (maxL := 4) (ret := (some .int)) (lv := [(0, .ref (a 0)), (1, .int x1), (2, .int x2)]) (by decide) rfl rfl (Nat.le_of_ble_eq_true rfl) rfl rfl (fun p e s m below meth c ls E hl w => k_X2_goodTaken_0_E hX E w hl hf)
-- X2_asked_0
theorem in_X2_asked_X2 : ∀ w ∈ u_ws RX2 TX2 16, w ∈ wsX2_asked := by decide +kernel
theorem fl_X2_asked_9 : Cond.fieldLink RX2 9 "NextDoor$Street" "kind" "[I" ∈ wsX2_asked := by decide +kernel
theorem fl_X2_asked_15 : Cond.fieldLink RX2 15 "NextDoor$Street" "price" "[I" ∈ wsX2_asked := by decide +kernel
abbrev rmX2_asked_0 : Room := { frames := 0, cells := 0, slots := 0, locals := 0 }
set_option maxHeartbeats 4000000 in
set_option maxRecDepth 100000 in
theorem k_X2_asked_0_78 {p : Program} {l : Launch} {e : Env} {s : State} {m : MethodId} {args : Array Value} {below : List Frame} {meth : Method} {c : Code} {D : va_G} {t : Nat → ClassId} {a : Nat → Nat} {X : State → Prop} {N : Nat} {r : Int32} {S' : ST} (hX : XOk (aW 56 a) X) (E : EN p s m args meth c cX2_asked RX2 wsX2_asked (some .int) 5) {S : ST} {x4 : Int32} {H : Heap} {locs : List Loc} {ls : Array Slot} (w : Wd D (cC t a) (aW 56 a) (tyC t) X S s H locs) (hl : lv_has ls 5 [(4, .int x4)]) (hf : b_X2_asked_0_78 N S x4 = some (r, S')) : W p l e rmX2_asked_0 s m args below meth c H locs 0 0 (MQ below (Qi D (cC t a) (aW 56 a) (tyC t) r S') args s 0 0 (aW 56 a)) (F0 m 78 ls []) := by
  obtain ⟨⟨hx, hb, hml, hown, hts⟩, hr, hlk⟩ := id E
  unfold b_X2_asked_0_78 at hf
  refine lv_iload hx hb dX2_asked_78 (lv_at hl 0 rfl) ?_
  refine lv_if_ge (tgt := 87) hx hb dX2_asked_80 (by decide) (fun h13 => ?_) (fun h13 => ?_)
  · replace hf := it_t h13 hf
    refine lv_iload hx hb dX2_asked_87 (lv_at hl 0 rfl) ?_
    exact w_reti E w hf dX2_asked_89
  · replace hf := it_f h13 hf
    refine lv_iconst (v := 0) hx hb dX2_asked_83 (by decide) ?_
    refine lv_goto (tgt := 89) hx hb dX2_asked_84 (by decide) ?_
    exact w_reti E w hf dX2_asked_89
set_option maxHeartbeats 4000000 in
set_option maxRecDepth 100000 in
theorem k_X2_asked_0_60 {p : Program} {l : Launch} {e : Env} {s : State} {m : MethodId} {args : Array Value} {below : List Frame} {meth : Method} {c : Code} {D : va_G} {t : Nat → ClassId} {a : Nat → Nat} {X : State → Prop} {N : Nat} {r : Int32} {S' : ST} (hX : XOk (aW 56 a) X) (E : EN p s m args meth c cX2_asked RX2 wsX2_asked (some .int) 5) {S : ST} {x3 : Int32} {x4 : Int32} {H : Heap} {locs : List Loc} {ls : Array Slot} (w : Wd D (cC t a) (aW 56 a) (tyC t) X S s H locs) (hl : lv_has ls 5 [(0, .ref (a 0)), (3, .int x3), (4, .int x4)]) (hf : b_X2_asked_0_60 N S x3 x4 = some (r, S')) : W p l e rmX2_asked_0 s m args below meth c H locs 0 0 (MQ below (Qi D (cC t a) (aW 56 a) (tyC t) r S') args s 0 0 (aW 56 a)) (F0 m 60 ls []) := by
  obtain ⟨⟨hx, hb, hml, hown, hts⟩, hr, hlk⟩ := id E
  unfold b_X2_asked_0_60 at hf
  refine lv_iload_n hx hb dX2_asked_60 rfl (lv_at hl 1 rfl) ?_
  refine lv_iconst (v := (-1)) hx hb dX2_asked_61 (by decide) ?_
  refine lv_icmp_eq (tgt := 78) hx hb dX2_asked_62 (by decide) (fun h11 => ?_) (fun h11 => ?_)
  · replace hf := it_t h11 hf
    exact k_X2_asked_0_78 hX E w (lv_sub hl [2] rfl) hf
  · replace hf := it_f h11 hf
    refine lv_iload hx hb dX2_asked_65 (lv_at hl 2 rfl) ?_
    refine lv_aload_n hx hb dX2_asked_67 rfl (lv_at hl 0 rfl) ?_
    refine w_get E w in_X2_asked_X2 0 (cC_at_0 t a S) rfl 2 (by decide) fl_X2_asked_15 rfl rfl dX2_asked_68 ?_
    refine lv_iload_n hx hb dX2_asked_71 rfl (lv_at hl 1 rfl) ?_
    obtain ⟨h12, hf⟩ := it_n hf
    refine w_ald E w 2 0 (cC_at_2 t a S) rfl h12 rfl dX2_asked_72 ?_
    refine lv_iconst (v := 2) hx hb dX2_asked_73 (by decide) ?_
    refine lv_idiv hx hb dX2_asked_74 (by decide) ?_
    refine lv_isub hx hb dX2_asked_75 ?_
    refine lv_istore (lv' := [(4, .int (x4 - ((S 2 x3.toNatClampNeg) / 2))), (0, .ref (a 0)), (3, .int x3)]) hx hb dX2_asked_76 hl (by decide) rfl (fun ls hl => ?_)
    exact k_X2_asked_0_78 hX E w (lv_sub hl [0] rfl) hf
set_option maxHeartbeats 4000000 in
set_option maxRecDepth 100000 in
theorem k_X2_asked_0_54 {p : Program} {l : Launch} {e : Env} {s : State} {m : MethodId} {args : Array Value} {below : List Frame} {meth : Method} {c : Code} {D : va_G} {t : Nat → ClassId} {a : Nat → Nat} {X : State → Prop} {N : Nat} {r : Int32} {S' : ST} (hX : XOk (aW 56 a) X) (E : EN p s m args meth c cX2_asked RX2 wsX2_asked (some .int) 5) {S : ST} {x2 : Int32} {x3 : Int32} {x4 : Int32} {H : Heap} {locs : List Loc} {ls : Array Slot} (w : Wd D (cC t a) (aW 56 a) (tyC t) X S s H locs) (hl : lv_has ls 5 [(0, .ref (a 0)), (2, .int x2), (3, .int x3), (4, .int x4)]) (hf : b_X2_asked_0_54 N S x2 x3 x4 = some (r, S')) : W p l e rmX2_asked_0 s m args below meth c H locs 0 0 (MQ below (Qi D (cC t a) (aW 56 a) (tyC t) r S') args s 0 0 (aW 56 a)) (F0 m 54 ls []) := by
  obtain ⟨⟨hx, hb, hml, hown, hts⟩, hr, hlk⟩ := id E
  unfold b_X2_asked_0_54 at hf
  refine lv_iload hx hb dX2_asked_54 (lv_at hl 3 rfl) ?_
  refine lv_iload_n hx hb dX2_asked_56 rfl (lv_at hl 1 rfl) ?_
  refine lv_iadd hx hb dX2_asked_57 ?_
  refine lv_istore (lv' := [(4, .int (x4 + x2)), (0, .ref (a 0)), (2, .int x2), (3, .int x3)]) hx hb dX2_asked_58 hl (by decide) rfl (fun ls hl => ?_)
  exact k_X2_asked_0_60 hX E w (lv_sub hl [1, 3, 0] rfl) hf
set_option maxHeartbeats 4000000 in
set_option maxRecDepth 100000 in
theorem k_X2_asked_0_16 {p : Program} {l : Launch} {e : Env} {s : State} {m : MethodId} {args : Array Value} {below : List Frame} {meth : Method} {c : Code} {D : va_G} {t : Nat → ClassId} {a : Nat → Nat} {X : State → Prop} {N : Nat} {r : Int32} {S' : ST} (hX : XOk (aW 56 a) X) (E : EN p s m args meth c cX2_asked RX2 wsX2_asked (some .int) 5) {S : ST} {x1 : Int32} {x2 : Int32} {x3 : Int32} {H : Heap} {locs : List Loc} {ls : Array Slot} (w : Wd D (cC t a) (aW 56 a) (tyC t) X S s H locs) (hl : lv_has ls 5 [(0, .ref (a 0)), (1, .int x1), (2, .int x2), (3, .int x3)]) (hf : b_X2_asked_0_16 N S x1 x2 x3 = some (r, S')) : W p l e rmX2_asked_0 s m args below meth c H locs 0 0 (MQ below (Qi D (cC t a) (aW 56 a) (tyC t) r S') args s 0 0 (aW 56 a)) (F0 m 16 ls []) := by
  obtain ⟨⟨hx, hb, hml, hown, hts⟩, hr, hlk⟩ := id E
  unfold b_X2_asked_0_16 at hf
  refine lv_aload_n hx hb dX2_asked_16 rfl (lv_at hl 0 rfl) ?_
  refine w_get E w in_X2_asked_X2 0 (cC_at_0 t a S) rfl 2 (by decide) fl_X2_asked_15 rfl rfl dX2_asked_17 ?_
  refine lv_iload_n hx hb dX2_asked_20 rfl (lv_at hl 1 rfl) ?_
  obtain ⟨h4, hf⟩ := it_n hf
  refine w_ald E w 2 0 (cC_at_2 t a S) rfl h4 rfl dX2_asked_21 ?_
  refine lv_istore (lv' := [(4, .int (S 2 x1.toNatClampNeg)), (0, .ref (a 0)), (1, .int x1), (2, .int x2), (3, .int x3)]) hx hb dX2_asked_22 hl (by decide) rfl (fun ls hl => ?_)
  refine lv_aload_n hx hb dX2_asked_24 rfl (lv_at hl 1 rfl) ?_
  refine w_get E w in_X2_asked_X2 0 (cC_at_0 t a S) rfl 1 (by decide) fl_X2_asked_9 rfl rfl dX2_asked_25 ?_
  refine lv_iload_n hx hb dX2_asked_28 rfl (lv_at hl 2 rfl) ?_
  obtain ⟨h5, hf⟩ := it_n hf
  refine w_ald E w 1 0 (cC_at_1 t a S) rfl h5 rfl dX2_asked_29 ?_
  refine lv_iconst (v := 1) hx hb dX2_asked_30 (by decide) ?_
  refine lv_icmp_eq (tgt := 54) hx hb dX2_asked_31 (by decide) (fun h6 => ?_) (fun h6 => ?_)
  · replace hf := it_t h6 hf
    exact k_X2_asked_0_54 hX E w (lv_sub hl [1, 3, 4, 0] rfl) hf
  · replace hf := it_f h6 hf
    refine lv_aload_n hx hb dX2_asked_34 rfl (lv_at hl 1 rfl) ?_
    refine w_get E w in_X2_asked_X2 0 (cC_at_0 t a S) rfl 1 (by decide) fl_X2_asked_9 rfl rfl dX2_asked_35 ?_
    refine lv_iload_n hx hb dX2_asked_38 rfl (lv_at hl 2 rfl) ?_
    obtain ⟨h7, hf⟩ := it_n hf
    refine w_ald E w 1 0 (cC_at_1 t a S) rfl h7 rfl dX2_asked_39 ?_
    refine lv_iconst (v := 3) hx hb dX2_asked_40 (by decide) ?_
    refine lv_icmp_eq (tgt := 54) hx hb dX2_asked_41 (by decide) (fun h8 => ?_) (fun h8 => ?_)
    · replace hf := it_t h8 hf
      exact k_X2_asked_0_54 hX E w (lv_sub hl [1, 3, 4, 0] rfl) hf
    · replace hf := it_f h8 hf
      refine lv_aload_n hx hb dX2_asked_44 rfl (lv_at hl 1 rfl) ?_
      refine w_get E w in_X2_asked_X2 0 (cC_at_0 t a S) rfl 1 (by decide) fl_X2_asked_9 rfl rfl dX2_asked_45 ?_
      refine lv_iload_n hx hb dX2_asked_48 rfl (lv_at hl 2 rfl) ?_
      obtain ⟨h9, hf⟩ := it_n hf
      refine w_ald E w 1 0 (cC_at_1 t a S) rfl h9 rfl dX2_asked_49 ?_
      refine lv_iconst (v := 5) hx hb dX2_asked_50 (by decide) ?_
      refine lv_icmp_ne (tgt := 60) hx hb dX2_asked_51 (by decide) (fun h10 => ?_) (fun h10 => ?_)
      · replace hf := it_f h10 hf
        exact k_X2_asked_0_60 hX E w (lv_sub hl [1, 4, 0] rfl) hf
      · replace hf := it_t h10 hf
        exact k_X2_asked_0_54 hX E w (lv_sub hl [1, 3, 4, 0] rfl) hf
set_option maxHeartbeats 4000000 in
set_option maxRecDepth 100000 in
theorem k_X2_asked_0_E {p : Program} {l : Launch} {e : Env} {s : State} {m : MethodId} {args : Array Value} {below : List Frame} {meth : Method} {c : Code} {D : va_G} {t : Nat → ClassId} {a : Nat → Nat} {X : State → Prop} {N : Nat} {r : Int32} {S' : ST} (hX : XOk (aW 56 a) X) (E : EN p s m args meth c cX2_asked RX2 wsX2_asked (some .int) 5) {S : ST} {x1 : Int32} {x2 : Int32} {x3 : Int32} {H : Heap} {locs : List Loc} {ls : Array Slot} (w : Wd D (cC t a) (aW 56 a) (tyC t) X S s H locs) (hl : lv_has ls 5 [(0, .ref (a 0)), (1, .int x1), (2, .int x2), (3, .int x3)]) (hf : f_X2_asked_0 N S x1 x2 x3 = some (r, S')) : W p l e rmX2_asked_0 s m args below meth c H locs 0 0 (MQ below (Qi D (cC t a) (aW 56 a) (tyC t) r S') args s 0 0 (aW 56 a)) (F0 m 0 ls []) := by
  obtain ⟨⟨hx, hb, hml, hown, hts⟩, hr, hlk⟩ := id E
  unfold f_X2_asked_0 at hf
  refine lv_aload_n hx hb dX2_asked_0 rfl (lv_at hl 0 rfl) ?_
  refine w_get E w in_X2_asked_X2 0 (cC_at_0 t a S) rfl 1 (by decide) fl_X2_asked_9 rfl rfl dX2_asked_1 ?_
  refine lv_iload_n hx hb dX2_asked_4 rfl (lv_at hl 1 rfl) ?_
  obtain ⟨h1, hf⟩ := it_n hf
  refine w_ald E w 1 0 (cC_at_1 t a S) rfl h1 rfl dX2_asked_5 ?_
  refine lv_iconst (v := 4) hx hb dX2_asked_6 (by decide) ?_
  refine lv_icmp_ne (tgt := 16) hx hb dX2_asked_7 (by decide) (fun h2 => ?_) (fun h2 => ?_)
  · replace hf := it_f h2 hf
    exact k_X2_asked_0_16 hX E w (lv_sub hl [0, 1, 2, 3] rfl) hf
  · replace hf := it_t h2 hf
    refine lv_iload_n hx hb dX2_asked_10 rfl (lv_at hl 2 rfl) ?_
    refine lv_if_ne (tgt := 16) hx hb dX2_asked_11 (by decide) (fun h3 => ?_) (fun h3 => ?_)
    · replace hf := it_f h3 hf
      exact k_X2_asked_0_16 hX E w (lv_sub hl [0, 1, 2, 3] rfl) hf
    · replace hf := it_t h3 hf
      refine lv_iconst (v := 0) hx hb dX2_asked_14 (by decide) ?_
      exact w_reti E w hf dX2_asked_15
theorem c_X2_asked_0 (l : Launch) {D : va_G} {t : Nat → ClassId} {a : Nat → Nat} {X : State → Prop} (hX : XOk (aW 56 a) X) {N : Nat} {S : ST} {x1 : Int32} {x2 : Int32} {x3 : Int32} {r : Int32} {S' : ST} (hf : f_X2_asked_0 N S x1 x2 x3 = some (r, S')) : Co l yX2_asked wsX2_asked rmX2_asked_0 D (cC t a) (aW 56 a) (tyC t) X [.ref (a 0), .int x1, .int x2, .int x3] S (Qi D (cC t a) (aW 56 a) (tyC t) r S') :=
  co_of (cc := cX2_asked) (maxL := 5) (ret := (some .int)) (lv := [(0, .ref (a 0)), (1, .int x1), (2, .int x2), (3, .int x3)]) (by decide) rfl rfl (Nat.le_of_ble_eq_true rfl) rfl rfl (fun p e s m below meth c ls E hl w => k_X2_asked_0_E hX E w hl hf)
-- X3_step
theorem hd_X3_waysOn : yX3_waysOn.cls = RX3 ∧ yX3_waysOn.cls ≠ "java/lang/invoke/MethodHandle" ∧ yX3_waysOn.cls ≠ "java/lang/invoke/VarHandle" ∧ (parseMethodDescriptor yX3_waysOn.desc).map (fun d => d.parameters.length) = some 1 := by decide +kernel
theorem in_X3_step_X3 : ∀ w ∈ u_ws RX3 TX3 7, w ∈ wsX3_step := by decide +kernel
theorem fl_X3_step_15 : Cond.fieldLink RX3 15 "NextDoor$Walk" "beenAt" "[I" ∈ wsX3_step := by decide +kernel
theorem fl_X3_step_18 : Cond.fieldLink RX3 18 "NextDoor$Walk" "heldAt" "[I" ∈ wsX3_step := by decide +kernel
theorem hd_J6_bitCount_0f7a4 : yJ6_bitCount_0f7a4.cls ≠ "java/lang/invoke/MethodHandle" ∧ yJ6_bitCount_0f7a4.cls ≠ "java/lang/invoke/VarHandle" ∧ (parseMethodDescriptor yJ6_bitCount_0f7a4.desc).map (fun d => d.parameters.length) = some 1 := by decide +kernel
theorem fl_X3_step_27 : Cond.fieldLink RX3 27 "NextDoor$Walk" "street" "LNextDoor$Street;" ∈ wsX3_step := by decide +kernel
theorem hd_X2_sellsTo : yX2_sellsTo.cls = RX2 ∧ yX2_sellsTo.cls ≠ "java/lang/invoke/MethodHandle" ∧ yX2_sellsTo.cls ≠ "java/lang/invoke/VarHandle" ∧ (parseMethodDescriptor yX2_sellsTo.desc).map (fun d => d.parameters.length) = some 2 := by decide +kernel
theorem fl_X3_step_21 : Cond.fieldLink RX3 21 "NextDoor$Walk" "minuteAt" "[I" ∈ wsX3_step := by decide +kernel
theorem hd_X2_minutesTaken : yX2_minutesTaken.cls = RX2 ∧ yX2_minutesTaken.cls ≠ "java/lang/invoke/MethodHandle" ∧ yX2_minutesTaken.cls ≠ "java/lang/invoke/VarHandle" ∧ (parseMethodDescriptor yX2_minutesTaken.desc).map (fun d => d.parameters.length) = some 1 := by decide +kernel
theorem in_X3_step_X2 : ∀ w ∈ u_ws RX2 TX2 16, w ∈ wsX3_step := by decide +kernel
theorem fl_X3_step_63 : Cond.fieldLink RX3 63 "NextDoor$Street" "shut" "[I" ∈ wsX3_step := by decide +kernel
theorem hd_X2_goodTaken : yX2_goodTaken.cls = RX2 ∧ yX2_goodTaken.cls ≠ "java/lang/invoke/MethodHandle" ∧ yX2_goodTaken.cls ≠ "java/lang/invoke/VarHandle" ∧ (parseMethodDescriptor yX2_goodTaken.desc).map (fun d => d.parameters.length) = some 2 := by decide +kernel
theorem fl_X3_step_69 : Cond.fieldLink RX3 69 "NextDoor$Street" "arms" "I" ∈ wsX3_step := by decide +kernel
theorem fl_X3_step_24 : Cond.fieldLink RX3 24 "NextDoor$Walk" "paidAt" "[I" ∈ wsX3_step := by decide +kernel
theorem hd_X2_asked : yX2_asked.cls = RX2 ∧ yX2_asked.cls ≠ "java/lang/invoke/MethodHandle" ∧ yX2_asked.cls ≠ "java/lang/invoke/VarHandle" ∧ (parseMethodDescriptor yX2_asked.desc).map (fun d => d.parameters.length) = some 3 := by decide +kernel
theorem fl_X3_step_76 : Cond.fieldLink RX3 76 "NextDoor$Street" "purse" "I" ∈ wsX3_step := by decide +kernel
theorem fl_X3_step_9 : Cond.fieldLink RX3 9 "NextDoor$Walk" "shopAt" "[I" ∈ wsX3_step := by decide +kernel
abbrev rmX3_step : Room := { frames := 1, cells := 0, slots := 0, locals := 24 }
set_option maxHeartbeats 4000000 in
set_option maxRecDepth 100000 in
theorem k_X3_step_125 {p : Program} {l : Launch} {e : Env} {s : State} {m : MethodId} {args : Array Value} {below : List Frame} {meth : Method} {c : Code} {D : va_G} {t : Nat → ClassId} {a : Nat → Nat} {X : State → Prop} {N : Nat} {r : Int32} {S' : ST} (hX : XOk (aW 56 a) X) (E : EN p s m args meth c cX3_step RX3 wsX3_step (some .int) 9) {S : ST} {x1 : Int32} {x2 : Int32} {x4 : Int32} {x5 : Int32} {x6 : Int32} {s0 : Int32} {H : Heap} {locs : List Loc} {ls : Array Slot} (w : Wd D (cC t a) (aW 56 a) (tyC t) X S s H locs) (hl : lv_has ls 9 [(0, .ref (a 40)), (1, .int x1), (2, .int x2), (4, .int x4), (5, .int x5), (6, .int x6)]) (hf : b_X3_step_125 N S x1 x2 x4 x5 x6 s0 = some (r, S')) : W p l e rmX3_step s m args below meth c H locs 0 0 (MQ below (Qi D (cC t a) (aW 56 a) (tyC t) r S') args s 0 0 (aW 56 a)) (F0 m 125 ls [.int s0]) := by
  obtain ⟨⟨hx, hb, hml, hown, hts⟩, hr, hlk⟩ := id E
  unfold b_X3_step_125 at hf
  refine lv_istore (lv' := [(7, .int s0), (0, .ref (a 40)), (1, .int x1), (2, .int x2), (4, .int x4), (5, .int x5), (6, .int x6)]) hx hb dX3_step_125 hl (by decide) rfl (fun ls hl => ?_)
  refine lv_iload hx hb dX3_step_127 (lv_at hl 0 rfl) ?_
  obtain ⟨r28, S27, h26, hf⟩ := bd2_o hf
  refine w_callSi (As := [.int s0]) (rest := []) hX E w (c_J6_bitCount_0f7a4 l hX h26) (va_cwS 1 hts gX3_step_J6_bitCount_0f7a4 rfl rfl rfl hd_J6_bitCount_0f7a4 ⟨Nat.le_of_ble_eq_true rfl, Nat.le_of_ble_eq_true rfl⟩) rfl hl.1 rfl (Nat.le_of_ble_eq_true rfl) dX3_step_129 ⟨Nat.le_refl _, Nat.le_refl _⟩ (fun H locs w => ?_)
  refine lv_aload_n hx hb dX3_step_132 rfl (lv_at hl 1 rfl) ?_
  refine w_get E w in_X3_step_X3 40 (cC_at_40 t a S27) rfl 0 (by decide) fl_X3_step_27 rfl rfl dX3_step_133 ?_
  refine w_get E w in_X3_step_X2 0 (cC_at_0 t a S27) rfl 8 (by decide) fl_X3_step_69 rfl rfl dX3_step_136 ?_
  refine lv_icmp_lt (tgt := 144) hx hb dX3_step_139 (by decide) (fun h29 => ?_) (fun h29 => ?_)
  · replace hf := it_t h29 hf
    refine lv_aload_n hx hb dX3_step_144 rfl (lv_at hl 1 rfl) ?_
    refine w_get E w in_X3_step_X3 40 (cC_at_40 t a S27) rfl 5 (by decide) fl_X3_step_24 rfl rfl dX3_step_145 ?_
    refine lv_iload_n hx hb dX3_step_148 rfl (lv_at hl 2 rfl) ?_
    obtain ⟨h30, hf⟩ := it_n hf
    refine w_ald E w 45 0 (cC_at_45 t a S27) rfl h30 rfl dX3_step_149 ?_
    refine lv_aload_n hx hb dX3_step_150 rfl (lv_at hl 1 rfl) ?_
    refine w_get E w in_X3_step_X3 40 (cC_at_40 t a S27) rfl 0 (by decide) fl_X3_step_27 rfl rfl dX3_step_151 ?_
    refine lv_iload_n hx hb dX3_step_154 rfl (lv_at hl 3 rfl) ?_
    refine lv_iload hx hb dX3_step_155 (lv_at hl 4 rfl) ?_
    refine lv_iload hx hb dX3_step_157 (lv_at hl 6 rfl) ?_
    obtain ⟨r33, S32, h31, hf⟩ := bd2_o hf
    refine w_callVi (As := [.int x2, .int x4, .int x6]) (rest := [.int (S27 45 x1.toNatClampNeg)]) hX E w (c_X2_asked_0 l hX h31) (cwV 3 hts gX3_step_X2_asked rfl rfl rfl hd_X2_asked ⟨Nat.le_of_ble_eq_true rfl, Nat.le_of_ble_eq_true rfl⟩) (ci := 2) rfl (cC_at_0 t a S27) rfl hl.1 rfl (Nat.le_of_ble_eq_true rfl) dX3_step_159 ⟨Nat.le_refl _, Nat.le_refl _⟩ (fun H locs w => ?_)
    refine lv_iadd hx hb dX3_step_162 ?_
    refine lv_istore (lv' := [(8, .int ((S27 45 x1.toNatClampNeg) + r33)), (7, .int s0), (0, .ref (a 40)), (1, .int x1), (2, .int x2), (4, .int x4), (5, .int x5), (6, .int x6)]) hx hb dX3_step_163 hl (by decide) rfl (fun ls hl => ?_)
    refine lv_iload hx hb dX3_step_165 (lv_at hl 0 rfl) ?_
    refine lv_aload_n hx hb dX3_step_167 rfl (lv_at hl 2 rfl) ?_
    refine w_get E w in_X3_step_X3 40 (cC_at_40 t a S32) rfl 0 (by decide) fl_X3_step_27 rfl rfl dX3_step_168 ?_
    refine w_get E w in_X3_step_X2 0 (cC_at_0 t a S32) rfl 7 (by decide) fl_X3_step_76 rfl rfl dX3_step_171 ?_
    refine lv_icmp_le (tgt := 180) hx hb dX3_step_174 (by decide) (fun h34 => ?_) (fun h34 => ?_)
    · replace hf := it_t h34 hf
      refine lv_aload_n hx hb dX3_step_180 rfl (lv_at hl 2 rfl) ?_
      refine w_get E w in_X3_step_X3 40 (cC_at_40 t a S32) rfl 1 (by decide) fl_X3_step_9 rfl rfl dX3_step_181 ?_
      refine lv_iload_n hx hb dX3_step_184 rfl (lv_at hl 3 rfl) ?_
      refine lv_iload_n hx hb dX3_step_185 rfl (lv_at hl 4 rfl) ?_
      obtain ⟨h36, hf⟩ := it_n hf
      obtain ⟨S35, eS35, hf⟩ := nm_o hf
      refine w_ast (S1 := S35) E w 41 0 (cC_at_41 t a S32) rfl h36 rfl ((cC_st_41 t a S32 x1.toNatClampNeg x2).trans (congrArg (cC t a) eS35.symm)) dX3_step_186 (fun H locs w => ?_)
      refine lv_aload_n hx hb dX3_step_187 rfl (lv_at hl 2 rfl) ?_
      refine w_get E w in_X3_step_X3 40 (cC_at_40 t a S35) rfl 2 (by decide) fl_X3_step_15 rfl rfl dX3_step_188 ?_
      refine lv_iload_n hx hb dX3_step_191 rfl (lv_at hl 3 rfl) ?_
      refine lv_iconst (v := 1) hx hb dX3_step_192 (by decide) ?_
      refine lv_iadd hx hb dX3_step_193 ?_
      refine lv_aload_n hx hb dX3_step_194 rfl (lv_at hl 2 rfl) ?_
      refine w_get E w in_X3_step_X3 40 (cC_at_40 t a S35) rfl 2 (by decide) fl_X3_step_15 rfl rfl dX3_step_195 ?_
      refine lv_iload_n hx hb dX3_step_198 rfl (lv_at hl 3 rfl) ?_
      obtain ⟨h37, hf⟩ := it_n hf
      refine w_ald E w 42 0 (cC_at_42 t a S35) rfl h37 rfl dX3_step_199 ?_
      refine lv_iconst (v := 1) hx hb dX3_step_200 (by decide) ?_
      refine lv_iload_n hx hb dX3_step_201 rfl (lv_at hl 4 rfl) ?_
      refine lv_ishl hx hb dX3_step_202 ?_
      refine lv_ior hx hb dX3_step_203 ?_
      obtain ⟨h39, hf⟩ := it_n hf
      obtain ⟨S38, eS38, hf⟩ := nm_o hf
      refine w_ast (S1 := S38) E w 42 0 (cC_at_42 t a S35) rfl h39 rfl ((cC_st_42 t a S35 ((x1 + 1).toNatClampNeg) ((S35 42 x1.toNatClampNeg) ||| (1 <<< (x2 &&& 31)))).trans (congrArg (cC t a) eS38.symm)) dX3_step_204 (fun H locs w => ?_)
      refine lv_aload_n hx hb dX3_step_205 rfl (lv_at hl 2 rfl) ?_
      refine w_get E w in_X3_step_X3 40 (cC_at_40 t a S38) rfl 3 (by decide) fl_X3_step_18 rfl rfl dX3_step_206 ?_
      refine lv_iload_n hx hb dX3_step_209 rfl (lv_at hl 3 rfl) ?_
      refine lv_iconst (v := 1) hx hb dX3_step_210 (by decide) ?_
      refine lv_iadd hx hb dX3_step_211 ?_
      refine lv_iload hx hb dX3_step_212 (lv_at hl 1 rfl) ?_
      refine lv_iconst (v := 1) hx hb dX3_step_214 (by decide) ?_
      refine lv_iload_n hx hb dX3_step_215 rfl (lv_at hl 4 rfl) ?_
      refine lv_ishl hx hb dX3_step_216 ?_
      refine lv_ior hx hb dX3_step_217 ?_
      obtain ⟨h41, hf⟩ := it_n hf
      obtain ⟨S40, eS40, hf⟩ := nm_o hf
      refine w_ast (S1 := S40) E w 43 0 (cC_at_43 t a S38) rfl h41 rfl ((cC_st_43 t a S38 ((x1 + 1).toNatClampNeg) (s0 ||| (1 <<< (x2 &&& 31)))).trans (congrArg (cC t a) eS40.symm)) dX3_step_218 (fun H locs w => ?_)
      refine lv_aload_n hx hb dX3_step_219 rfl (lv_at hl 2 rfl) ?_
      refine w_get E w in_X3_step_X3 40 (cC_at_40 t a S40) rfl 4 (by decide) fl_X3_step_21 rfl rfl dX3_step_220 ?_
      refine lv_iload_n hx hb dX3_step_223 rfl (lv_at hl 3 rfl) ?_
      refine lv_iconst (v := 1) hx hb dX3_step_224 (by decide) ?_
      refine lv_iadd hx hb dX3_step_225 ?_
      refine lv_iload hx hb dX3_step_226 (lv_at hl 6 rfl) ?_
      obtain ⟨h43, hf⟩ := it_n hf
      obtain ⟨S42, eS42, hf⟩ := nm_o hf
      refine w_ast (S1 := S42) E w 44 0 (cC_at_44 t a S40) rfl h43 rfl ((cC_st_44 t a S40 ((x1 + 1).toNatClampNeg) x5).trans (congrArg (cC t a) eS42.symm)) dX3_step_228 (fun H locs w => ?_)
      refine lv_aload_n hx hb dX3_step_229 rfl (lv_at hl 2 rfl) ?_
      refine w_get E w in_X3_step_X3 40 (cC_at_40 t a S42) rfl 5 (by decide) fl_X3_step_24 rfl rfl dX3_step_230 ?_
      refine lv_iload_n hx hb dX3_step_233 rfl (lv_at hl 3 rfl) ?_
      refine lv_iconst (v := 1) hx hb dX3_step_234 (by decide) ?_
      refine lv_iadd hx hb dX3_step_235 ?_
      refine lv_iload hx hb dX3_step_236 (lv_at hl 0 rfl) ?_
      obtain ⟨h45, hf⟩ := it_n hf
      obtain ⟨S44, eS44, hf⟩ := nm_o hf
      refine w_ast (S1 := S44) E w 45 0 (cC_at_45 t a S42) rfl h45 rfl ((cC_st_45 t a S42 ((x1 + 1).toNatClampNeg) ((S27 45 x1.toNatClampNeg) + r33)).trans (congrArg (cC t a) eS44.symm)) dX3_step_238 (fun H locs w => ?_)
      refine lv_iconst (v := 0) hx hb dX3_step_239 (by decide) ?_
      exact w_reti E w hf dX3_step_240
    · replace hf := it_f h34 hf
      refine lv_bipush (v := 6) hx hb dX3_step_177 (by decide) ?_
      exact w_reti E w hf dX3_step_179
  · replace hf := it_f h29 hf
    refine lv_iconst (v := 5) hx hb dX3_step_142 (by decide) ?_
    exact w_reti E w hf dX3_step_143
set_option maxHeartbeats 4000000 in
set_option maxRecDepth 100000 in
theorem k_X3_step_E {p : Program} {l : Launch} {e : Env} {s : State} {m : MethodId} {args : Array Value} {below : List Frame} {meth : Method} {c : Code} {D : va_G} {t : Nat → ClassId} {a : Nat → Nat} {X : State → Prop} {N : Nat} {r : Int32} {S' : ST} (hX : XOk (aW 56 a) X) (E : EN p s m args meth c cX3_step RX3 wsX3_step (some .int) 9) {S : ST} {x1 : Int32} {x2 : Int32} {H : Heap} {locs : List Loc} {ls : Array Slot} (w : Wd D (cC t a) (aW 56 a) (tyC t) X S s H locs) (hl : lv_has ls 9 [(0, .ref (a 40)), (1, .int x1), (2, .int x2)]) (hf : f_X3_step N S x1 x2 = some (r, S')) : W p l e rmX3_step s m args below meth c H locs 0 0 (MQ below (Qi D (cC t a) (aW 56 a) (tyC t) r S') args s 0 0 (aW 56 a)) (F0 m 0 ls []) := by
  obtain ⟨⟨hx, hb, hml, hown, hts⟩, hr, hlk⟩ := id E
  unfold f_X3_step at hf
  refine lv_aload_n hx hb dX3_step_0 rfl (lv_at hl 0 rfl) ?_
  refine lv_iload_n hx hb dX3_step_1 rfl (lv_at hl 1 rfl) ?_
  obtain ⟨r3, S2, h1, hf⟩ := bd2_o hf
  refine w_callVi (As := [.int x1]) (rest := []) hX E w (c_X3_waysOn l hX h1) (cwV 1 hts gX3_step_X3_waysOn rfl rfl rfl hd_X3_waysOn ⟨Nat.le_of_ble_eq_true rfl, Nat.le_of_ble_eq_true rfl⟩) (ci := 3) rfl (cC_at_40 t a S) rfl hl.1 rfl (Nat.le_of_ble_eq_true rfl) dX3_step_2 ⟨Nat.le_refl _, Nat.le_refl _⟩ (fun H locs w => ?_)
  refine lv_iload_n hx hb dX3_step_5 rfl (lv_at hl 2 rfl) ?_
  refine lv_ishr hx hb dX3_step_6 ?_
  refine lv_iconst (v := 1) hx hb dX3_step_7 (by decide) ?_
  refine lv_iand hx hb dX3_step_8 ?_
  refine lv_if_ne (tgt := 14) hx hb dX3_step_9 (by decide) (fun h4 => ?_) (fun h4 => ?_)
  · replace hf := it_f h4 hf
    refine lv_iload_n hx hb dX3_step_14 rfl (lv_at hl 1 rfl) ?_
    refine lv_bipush (v := 6) hx hb dX3_step_15 (by decide) ?_
    refine lv_icmp_ge (tgt := 33) hx hb dX3_step_17 (by decide) (fun h5 => ?_) (fun h5 => ?_)
    · replace hf := it_t h5 hf
      refine lv_iconst (v := 2) hx hb dX3_step_33 (by decide) ?_
      exact w_reti E w hf dX3_step_34
    · replace hf := it_f h5 hf
      refine lv_aload_n hx hb dX3_step_20 rfl (lv_at hl 0 rfl) ?_
      refine w_get E w in_X3_step_X3 40 (cC_at_40 t a S2) rfl 2 (by decide) fl_X3_step_15 rfl rfl dX3_step_21 ?_
      refine lv_iload_n hx hb dX3_step_24 rfl (lv_at hl 1 rfl) ?_
      obtain ⟨h6, hf⟩ := it_n hf
      refine w_ald E w 42 0 (cC_at_42 t a S2) rfl h6 rfl dX3_step_25 ?_
      refine lv_iload_n hx hb dX3_step_26 rfl (lv_at hl 2 rfl) ?_
      refine lv_ishr hx hb dX3_step_27 ?_
      refine lv_iconst (v := 1) hx hb dX3_step_28 (by decide) ?_
      refine lv_iand hx hb dX3_step_29 ?_
      refine lv_if_eq (tgt := 35) hx hb dX3_step_30 (by decide) (fun h7 => ?_) (fun h7 => ?_)
      · replace hf := it_t h7 hf
        refine lv_aload_n hx hb dX3_step_35 rfl (lv_at hl 0 rfl) ?_
        refine w_get E w in_X3_step_X3 40 (cC_at_40 t a S2) rfl 3 (by decide) fl_X3_step_18 rfl rfl dX3_step_36 ?_
        refine lv_iload_n hx hb dX3_step_39 rfl (lv_at hl 1 rfl) ?_
        obtain ⟨h8, hf⟩ := it_n hf
        refine w_ald E w 43 0 (cC_at_43 t a S2) rfl h8 rfl dX3_step_40 ?_
        refine lv_istore_n (lv' := [(3, .int (S2 43 x1.toNatClampNeg)), (0, .ref (a 40)), (1, .int x1), (2, .int x2)]) hx hb dX3_step_41 rfl hl (by decide) rfl (fun ls hl => ?_)
        refine lv_iload_n hx hb dX3_step_42 rfl (lv_at hl 0 rfl) ?_
        obtain ⟨r11, S10, h9, hf⟩ := bd2_o hf
        refine w_callSi (As := [.int (S2 43 x1.toNatClampNeg)]) (rest := []) hX E w (c_J6_bitCount_0f7a4 l hX h9) (va_cwS 1 hts gX3_step_J6_bitCount_0f7a4 rfl rfl rfl hd_J6_bitCount_0f7a4 ⟨Nat.le_of_ble_eq_true rfl, Nat.le_of_ble_eq_true rfl⟩) rfl hl.1 rfl (Nat.le_of_ble_eq_true rfl) dX3_step_43 ⟨Nat.le_refl _, Nat.le_refl _⟩ (fun H locs w => ?_)
        refine lv_istore (lv' := [(4, .int r11), (3, .int (S2 43 x1.toNatClampNeg)), (0, .ref (a 40)), (1, .int x1), (2, .int x2)]) hx hb dX3_step_46 hl (by decide) rfl (fun ls hl => ?_)
        refine lv_aload_n hx hb dX3_step_48 rfl (lv_at hl 2 rfl) ?_
        refine w_get E w in_X3_step_X3 40 (cC_at_40 t a S10) rfl 0 (by decide) fl_X3_step_27 rfl rfl dX3_step_49 ?_
        refine lv_iload_n hx hb dX3_step_52 rfl (lv_at hl 4 rfl) ?_
        refine lv_iload hx hb dX3_step_53 (lv_at hl 0 rfl) ?_
        obtain ⟨r14, S13, h12, hf⟩ := bd2_o hf
        refine w_callVi (As := [.int x2, .int r11]) (rest := []) hX E w (c_X2_sellsTo_0 l hX h12) (cwV 2 hts gX3_step_X2_sellsTo rfl rfl rfl hd_X2_sellsTo ⟨Nat.le_of_ble_eq_true rfl, Nat.le_of_ble_eq_true rfl⟩) (ci := 2) rfl (cC_at_0 t a S10) rfl hl.1 rfl (Nat.le_of_ble_eq_true rfl) dX3_step_55 ⟨Nat.le_refl _, Nat.le_refl _⟩ (fun H locs w => ?_)
        refine lv_if_ne (tgt := 63) hx hb dX3_step_58 (by decide) (fun h15 => ?_) (fun h15 => ?_)
        · replace hf := it_f h15 hf
          refine lv_aload_n hx hb dX3_step_63 rfl (lv_at hl 2 rfl) ?_
          refine w_get E w in_X3_step_X3 40 (cC_at_40 t a S13) rfl 4 (by decide) fl_X3_step_21 rfl rfl dX3_step_64 ?_
          refine lv_iload_n hx hb dX3_step_67 rfl (lv_at hl 3 rfl) ?_
          obtain ⟨h16, hf⟩ := it_n hf
          refine w_ald E w 44 0 (cC_at_44 t a S13) rfl h16 rfl dX3_step_68 ?_
          refine lv_aload_n hx hb dX3_step_69 rfl (lv_at hl 2 rfl) ?_
          refine w_get E w in_X3_step_X3 40 (cC_at_40 t a S13) rfl 0 (by decide) fl_X3_step_27 rfl rfl dX3_step_70 ?_
          refine lv_iload_n hx hb dX3_step_73 rfl (lv_at hl 4 rfl) ?_
          obtain ⟨r19, S18, h17, hf⟩ := bd2_o hf
          refine w_callVi (As := [.int x2]) (rest := [.int (S13 44 x1.toNatClampNeg)]) hX E w (c_X2_minutesTaken_0 l hX h17) (cwV 1 hts gX3_step_X2_minutesTaken rfl rfl rfl hd_X2_minutesTaken ⟨Nat.le_of_ble_eq_true rfl, Nat.le_of_ble_eq_true rfl⟩) (ci := 2) rfl (cC_at_0 t a S13) rfl hl.1 rfl (Nat.le_of_ble_eq_true rfl) dX3_step_74 ⟨Nat.le_refl _, Nat.le_refl _⟩ (fun H locs w => ?_)
          refine lv_iadd hx hb dX3_step_77 ?_
          refine lv_istore (lv' := [(5, .int ((S13 44 x1.toNatClampNeg) + r19)), (4, .int r11), (3, .int (S2 43 x1.toNatClampNeg)), (0, .ref (a 40)), (1, .int x1), (2, .int x2)]) hx hb dX3_step_78 hl (by decide) rfl (fun ls hl => ?_)
          refine lv_iload hx hb dX3_step_80 (lv_at hl 0 rfl) ?_
          refine lv_aload_n hx hb dX3_step_82 rfl (lv_at hl 3 rfl) ?_
          refine w_get E w in_X3_step_X3 40 (cC_at_40 t a S18) rfl 0 (by decide) fl_X3_step_27 rfl rfl dX3_step_83 ?_
          refine w_get E w in_X3_step_X2 0 (cC_at_0 t a S18) rfl 4 (by decide) fl_X3_step_63 rfl rfl dX3_step_86 ?_
          refine lv_iload_n hx hb dX3_step_89 rfl (lv_at hl 5 rfl) ?_
          obtain ⟨h20, hf⟩ := it_n hf
          refine w_ald E w 4 0 (cC_at_4 t a S18) rfl h20 rfl dX3_step_90 ?_
          refine lv_icmp_le (tgt := 96) hx hb dX3_step_91 (by decide) (fun h21 => ?_) (fun h21 => ?_)
          · replace hf := it_t h21 hf
            refine lv_aload_n hx hb dX3_step_96 rfl (lv_at hl 3 rfl) ?_
            refine w_get E w in_X3_step_X3 40 (cC_at_40 t a S18) rfl 0 (by decide) fl_X3_step_27 rfl rfl dX3_step_97 ?_
            refine lv_iload_n hx hb dX3_step_100 rfl (lv_at hl 5 rfl) ?_
            refine lv_iload_n hx hb dX3_step_101 rfl (lv_at hl 2 rfl) ?_
            obtain ⟨r24, S23, h22, hf⟩ := bd2_o hf
            refine w_callVi (As := [.int x2, .int (S2 43 x1.toNatClampNeg)]) (rest := []) hX E w (c_X2_goodTaken_0 l hX h22) (cwV 2 hts gX3_step_X2_goodTaken rfl rfl rfl hd_X2_goodTaken ⟨Nat.le_of_ble_eq_true rfl, Nat.le_of_ble_eq_true rfl⟩) (ci := 2) rfl (cC_at_0 t a S18) rfl hl.1 rfl (Nat.le_of_ble_eq_true rfl) dX3_step_102 ⟨Nat.le_refl _, Nat.le_refl _⟩ (fun H locs w => ?_)
            refine lv_istore (lv' := [(6, .int r24), (5, .int ((S13 44 x1.toNatClampNeg) + r19)), (4, .int r11), (3, .int (S2 43 x1.toNatClampNeg)), (0, .ref (a 40)), (1, .int x1), (2, .int x2)]) hx hb dX3_step_105 hl (by decide) rfl (fun ls hl => ?_)
            refine lv_iload hx hb dX3_step_107 (lv_at hl 0 rfl) ?_
            refine lv_iconst (v := (-1)) hx hb dX3_step_109 (by decide) ?_
            refine lv_icmp_ne (tgt := 117) hx hb dX3_step_110 (by decide) (fun h25 => ?_) (fun h25 => ?_)
            · replace hf := it_f h25 hf
              refine lv_iload_n hx hb dX3_step_117 rfl (lv_at hl 3 rfl) ?_
              refine lv_iconst (v := 1) hx hb dX3_step_118 (by decide) ?_
              refine lv_iload hx hb dX3_step_119 (lv_at hl 0 rfl) ?_
              refine lv_ishl hx hb dX3_step_121 ?_
              refine lv_iconst (v := (-1)) hx hb dX3_step_122 (by decide) ?_
              refine lv_ixor hx hb dX3_step_123 ?_
              refine lv_iand hx hb dX3_step_124 ?_
              exact k_X3_step_125 hX E w (lv_sub hl [4, 5, 6, 2, 1, 0] rfl) hf
            · replace hf := it_t h25 hf
              refine lv_iload_n hx hb dX3_step_113 rfl (lv_at hl 3 rfl) ?_
              refine lv_goto (tgt := 125) hx hb dX3_step_114 (by decide) ?_
              exact k_X3_step_125 hX E w (lv_sub hl [4, 5, 6, 2, 1, 0] rfl) hf
          · replace hf := it_f h21 hf
            refine lv_iconst (v := 4) hx hb dX3_step_94 (by decide) ?_
            exact w_reti E w hf dX3_step_95
        · replace hf := it_t h15 hf
          refine lv_iconst (v := 3) hx hb dX3_step_61 (by decide) ?_
          exact w_reti E w hf dX3_step_62
      · replace hf := it_f h7 hf
        refine lv_iconst (v := 2) hx hb dX3_step_33 (by decide) ?_
        exact w_reti E w hf dX3_step_34
  · replace hf := it_t h4 hf
    refine lv_iconst (v := 1) hx hb dX3_step_12 (by decide) ?_
    exact w_reti E w hf dX3_step_13
theorem c_X3_step (l : Launch) {D : va_G} {t : Nat → ClassId} {a : Nat → Nat} {X : State → Prop} (hX : XOk (aW 56 a) X) {N : Nat} {S : ST} {x1 : Int32} {x2 : Int32} {r : Int32} {S' : ST} (hf : f_X3_step N S x1 x2 = some (r, S')) : Co l yX3_step wsX3_step rmX3_step D (cC t a) (aW 56 a) (tyC t) X [.ref (a 40), .int x1, .int x2] S (Qi D (cC t a) (aW 56 a) (tyC t) r S') :=
  co_of (cc := cX3_step) (maxL := 9) (ret := (some .int)) (lv := [(0, .ref (a 40)), (1, .int x1), (2, .int x2)]) (by decide) rfl rfl (Nat.le_of_ble_eq_true rfl) rfl rfl (fun p e s m below meth c ls E hl w => k_X3_step_E hX E w hl hf)
-- X3_goErrand
theorem in_X3_goErrand_X3 : ∀ w ∈ u_ws RX3 TX3 7, w ∈ wsX3_goErrand := by decide +kernel
theorem fl_X3_goErrand_31 : Cond.fieldLink RX3 31 "NextDoor$Walk" "gone" "I" ∈ wsX3_goErrand := by decide +kernel
theorem fl_X3_goErrand_27 : Cond.fieldLink RX3 27 "NextDoor$Walk" "street" "LNextDoor$Street;" ∈ wsX3_goErrand := by decide +kernel
theorem in_X3_goErrand_X2 : ∀ w ∈ u_ws RX2 TX2 16, w ∈ wsX3_goErrand := by decide +kernel
theorem fl_X3_goErrand_35 : Cond.fieldLink RX3 35 "NextDoor$Street" "bought" "I" ∈ wsX3_goErrand := by decide +kernel
theorem fl_X3_goErrand_40 : Cond.fieldLink RX3 40 "NextDoor$Street" "errand" "[I" ∈ wsX3_goErrand := by decide +kernel
theorem hd_X3_step : yX3_step.cls = RX3 ∧ yX3_step.cls ≠ "java/lang/invoke/MethodHandle" ∧ yX3_step.cls ≠ "java/lang/invoke/VarHandle" ∧ (parseMethodDescriptor yX3_step.desc).map (fun d => d.parameters.length) = some 2 := by decide +kernel
abbrev rmX3_goErrand : Room := { frames := 2, cells := 0, slots := 0, locals := 52 }
set_option maxHeartbeats 4000000 in
set_option maxRecDepth 100000 in
theorem k_X3_goErrand_7 {p : Program} {l : Launch} {e : Env} {s : State} {m : MethodId} {args : Array Value} {below : List Frame} {meth : Method} {c : Code} {D : va_G} {t : Nat → ClassId} {a : Nat → Nat} {X : State → Prop} {N : Nat} {r : Int32} {S' : ST} (hX : XOk (aW 56 a) X) (E : EN p s m args meth c cX3_goErrand RX3 wsX3_goErrand (some .int) 3) : ∀ (n : Nat) {S : ST} {x1 : Int32} {H : Heap} {locs : List Loc} {ls : Array Slot}, Wd D (cC t a) (aW 56 a) (tyC t) X S s H locs → lv_has ls 3 [(0, .ref (a 40)), (1, .int x1)] → b_X3_goErrand_7 N n S x1 = some (r, S') → W p l e rmX3_goErrand s m args below meth c H locs 0 0 (MQ below (Qi D (cC t a) (aW 56 a) (tyC t) r S') args s 0 0 (aW 56 a)) (F0 m 7 ls []) := by
  obtain ⟨⟨hx, hb, hml, hown, hts⟩, hr, hlk⟩ := id E
  intro n
  induction n with
  | zero => intro S x1 H locs ls w hl hf; cases hf
  | succ n ih =>
    intro S x1 H locs ls w hl hf
    unfold b_X3_goErrand_7 at hf
    refine lv_iload_n hx hb dX3_goErrand_7 rfl (lv_at hl 1 rfl) ?_
    refine lv_aload_n hx hb dX3_goErrand_8 rfl (lv_at hl 0 rfl) ?_
    refine w_get E w in_X3_goErrand_X3 40 (cC_at_40 t a S) rfl 0 (by decide) fl_X3_goErrand_27 rfl rfl dX3_goErrand_9 ?_
    refine w_get E w in_X3_goErrand_X2 0 (cC_at_0 t a S) rfl 9 (by decide) fl_X3_goErrand_35 rfl rfl dX3_goErrand_12 ?_
    refine lv_icmp_ge (tgt := 58) hx hb dX3_goErrand_15 (by decide) (fun h2 => ?_) (fun h2 => ?_)
    · replace hf := it_t h2 hf
      refine lv_iconst (v := 0) hx hb dX3_goErrand_58 (by decide) ?_
      exact w_reti E w hf dX3_goErrand_59
    · replace hf := it_f h2 hf
      refine lv_aload_n hx hb dX3_goErrand_18 rfl (lv_at hl 0 rfl) ?_
      refine lv_aload_n hx hb dX3_goErrand_19 rfl (lv_at hl 0 rfl) ?_
      refine w_get E w in_X3_goErrand_X3 40 (cC_at_40 t a S) rfl 6 (by decide) fl_X3_goErrand_31 rfl rfl dX3_goErrand_20 ?_
      refine lv_aload_n hx hb dX3_goErrand_23 rfl (lv_at hl 0 rfl) ?_
      refine w_get E w in_X3_goErrand_X3 40 (cC_at_40 t a S) rfl 0 (by decide) fl_X3_goErrand_27 rfl rfl dX3_goErrand_24 ?_
      refine w_get E w in_X3_goErrand_X2 0 (cC_at_0 t a S) rfl 10 (by decide) fl_X3_goErrand_40 rfl rfl dX3_goErrand_27 ?_
      refine lv_iload_n hx hb dX3_goErrand_30 rfl (lv_at hl 1 rfl) ?_
      obtain ⟨h3, hf⟩ := it_n hf
      refine w_ald E w 6 0 (cC_at_6 t a S) rfl h3 rfl dX3_goErrand_31 ?_
      obtain ⟨r6, S5, h4, hf⟩ := bd2_o hf
      refine w_callVi (As := [.int (S 40 6), .int (S 6 x1.toNatClampNeg)]) (rest := []) hX E w (c_X3_step l hX h4) (cwV 2 hts gX3_goErrand_X3_step rfl rfl rfl hd_X3_step ⟨Nat.le_of_ble_eq_true rfl, Nat.le_of_ble_eq_true rfl⟩) (ci := 3) rfl (cC_at_40 t a S) rfl hl.1 rfl (Nat.le_of_ble_eq_true rfl) dX3_goErrand_32 ⟨Nat.le_refl _, Nat.le_refl _⟩ (fun H locs w => ?_)
      refine lv_istore_n (lv' := [(2, .int r6), (0, .ref (a 40)), (1, .int x1)]) hx hb dX3_goErrand_35 rfl hl (by decide) rfl (fun ls hl => ?_)
      refine lv_iload_n hx hb dX3_goErrand_36 rfl (lv_at hl 0 rfl) ?_
      refine lv_if_eq (tgt := 42) hx hb dX3_goErrand_37 (by decide) (fun h7 => ?_) (fun h7 => ?_)
      · replace hf := it_t h7 hf
        refine lv_aload_n hx hb dX3_goErrand_42 rfl (lv_at hl 1 rfl) ?_
        refine lv_dup hx hb dX3_goErrand_43 rfl ?_
        refine w_get E w in_X3_goErrand_X3 40 (cC_at_40 t a S5) rfl 6 (by decide) fl_X3_goErrand_31 rfl rfl dX3_goErrand_44 ?_
        refine lv_iconst (v := 1) hx hb dX3_goErrand_47 (by decide) ?_
        refine lv_iadd hx hb dX3_goErrand_48 ?_
        obtain ⟨S8, eS8, hf⟩ := nm_o hf
        refine w_put (S1 := S8) E w in_X3_goErrand_X3 tyX3 tyX3_ok nmX3 40 (cC_at_40 t a S5) rfl 6 (by decide) fl_X3_goErrand_31 rfl rfl rfl rfl rfl (Nat.le_of_ble_eq_true rfl) ((cC_set_40_6 t a S5 ((S5 40 6) + 1)).trans (congrArg (cC t a) eS8.symm)) dX3_goErrand_49 (fun H locs w => ?_)
        refine lv_iinc (v := x1 + 1) (lv' := [(1, .int (x1 + 1)), (2, .int r6), (0, .ref (a 40))]) hx hb dX3_goErrand_52 hl (k := 2) rfl rfl (by decide) rfl (fun ls hl => ?_)
        refine lv_goto (tgt := 7) hx hb dX3_goErrand_55 (by decide) ?_
        exact ih w (lv_sub hl [2, 0] rfl) hf
      · replace hf := it_f h7 hf
        refine lv_iload_n hx hb dX3_goErrand_40 rfl (lv_at hl 0 rfl) ?_
        exact w_reti E w hf dX3_goErrand_41
set_option maxHeartbeats 4000000 in
set_option maxRecDepth 100000 in
theorem k_X3_goErrand_E {p : Program} {l : Launch} {e : Env} {s : State} {m : MethodId} {args : Array Value} {below : List Frame} {meth : Method} {c : Code} {D : va_G} {t : Nat → ClassId} {a : Nat → Nat} {X : State → Prop} {N : Nat} {r : Int32} {S' : ST} (hX : XOk (aW 56 a) X) (E : EN p s m args meth c cX3_goErrand RX3 wsX3_goErrand (some .int) 3) {S : ST} {H : Heap} {locs : List Loc} {ls : Array Slot} (w : Wd D (cC t a) (aW 56 a) (tyC t) X S s H locs) (hl : lv_has ls 3 [(0, .ref (a 40))]) (hf : f_X3_goErrand N S = some (r, S')) : W p l e rmX3_goErrand s m args below meth c H locs 0 0 (MQ below (Qi D (cC t a) (aW 56 a) (tyC t) r S') args s 0 0 (aW 56 a)) (F0 m 0 ls []) := by
  obtain ⟨⟨hx, hb, hml, hown, hts⟩, hr, hlk⟩ := id E
  unfold f_X3_goErrand at hf
  refine lv_aload_n hx hb dX3_goErrand_0 rfl (lv_at hl 0 rfl) ?_
  refine lv_iconst (v := 0) hx hb dX3_goErrand_1 (by decide) ?_
  obtain ⟨S1, eS1, hf⟩ := nm_o hf
  refine w_put (S1 := S1) E w in_X3_goErrand_X3 tyX3 tyX3_ok nmX3 40 (cC_at_40 t a S) rfl 6 (by decide) fl_X3_goErrand_31 rfl rfl rfl rfl rfl (Nat.le_of_ble_eq_true rfl) ((cC_set_40_6 t a S 0).trans (congrArg (cC t a) eS1.symm)) dX3_goErrand_2 (fun H locs w => ?_)
  refine lv_iconst (v := 0) hx hb dX3_goErrand_5 (by decide) ?_
  refine lv_istore_n (lv' := [(1, .int 0), (0, .ref (a 40))]) hx hb dX3_goErrand_6 rfl hl (by decide) rfl (fun ls hl => ?_)
  exact k_X3_goErrand_7 hX E N w (lv_sub hl [1, 0] rfl) hf
theorem c_X3_goErrand (l : Launch) {D : va_G} {t : Nat → ClassId} {a : Nat → Nat} {X : State → Prop} (hX : XOk (aW 56 a) X) {N : Nat} {S : ST} {r : Int32} {S' : ST} (hf : f_X3_goErrand N S = some (r, S')) : Co l yX3_goErrand wsX3_goErrand rmX3_goErrand D (cC t a) (aW 56 a) (tyC t) X [.ref (a 40)] S (Qi D (cC t a) (aW 56 a) (tyC t) r S') :=
  co_of (cc := cX3_goErrand) (maxL := 3) (ret := (some .int)) (lv := [(0, .ref (a 40))]) (by decide) rfl rfl (Nat.le_of_ble_eq_true rfl) rfl rfl (fun p e s m below meth c ls E hl w => k_X3_goErrand_E hX E w hl hf)
-- X4_errand
theorem in_X4_errand_X4 : ∀ w ∈ u_ws RX4 TX4 9, w ∈ wsX4_errand := by decide +kernel
theorem fl_X4_errand_29 : Cond.fieldLink RX4 29 "NextDoor" "walk" "LNextDoor$Walk;" ∈ wsX4_errand := by decide +kernel
theorem hd_X3_goErrand : yX3_goErrand.cls = RX3 ∧ yX3_goErrand.cls ≠ "java/lang/invoke/MethodHandle" ∧ yX3_goErrand.cls ≠ "java/lang/invoke/VarHandle" ∧ (parseMethodDescriptor yX3_goErrand.desc).map (fun d => d.parameters.length) = some 0 := by decide +kernel
theorem in_X4_errand_X3 : ∀ w ∈ u_ws RX3 TX3 7, w ∈ wsX4_errand := by decide +kernel
theorem fl_X4_errand_125 : Cond.fieldLink RX4 125 "NextDoor$Walk" "gone" "I" ∈ wsX4_errand := by decide +kernel
theorem fl_X4_errand_128 : Cond.fieldLink RX4 128 "NextDoor$Walk" "paidAt" "[I" ∈ wsX4_errand := by decide +kernel
theorem fl_X4_errand_131 : Cond.fieldLink RX4 131 "NextDoor$Walk" "minuteAt" "[I" ∈ wsX4_errand := by decide +kernel
theorem fl_X4_errand_134 : Cond.fieldLink RX4 134 "NextDoor$Walk" "heldAt" "[I" ∈ wsX4_errand := by decide +kernel
abbrev rmX4_errand : Room := { frames := 3, cells := 0, slots := 0, locals := 74 }
set_option maxHeartbeats 4000000 in
set_option maxRecDepth 100000 in
theorem k_X4_errand_E {p : Program} {l : Launch} {e : Env} {s : State} {m : MethodId} {args : Array Value} {below : List Frame} {meth : Method} {c : Code} {D : va_G} {t : Nat → ClassId} {a : Nat → Nat} {X : State → Prop} {N : Nat} {r : Int32} {S' : ST} (hX : XOk (aW 56 a) X) (E : EN p s m args meth c cX4_errand RX4 wsX4_errand (some .int) 4) {S : ST} {x1 : Int32} {H : Heap} {locs : List Loc} {ls : Array Slot} (w : Wd D (cC t a) (aW 56 a) (tyC t) X S s H locs) (hl : lv_has ls 4 [(0, .ref (a 50)), (1, .int x1)]) (hf : f_X4_errand N S x1 = some (r, S')) : W p l e rmX4_errand s m args below meth c H locs 0 0 (MQ below (Qi D (cC t a) (aW 56 a) (tyC t) r S') args s 0 0 (aW 56 a)) (F0 m 0 ls []) := by
  obtain ⟨⟨hx, hb, hml, hown, hts⟩, hr, hlk⟩ := id E
  unfold f_X4_errand at hf
  refine lv_iload_n hx hb dX4_errand_0 rfl (lv_at hl 1 rfl) ?_
  refine lv_iconst (v := 0) hx hb dX4_errand_1 (by decide) ?_
  refine lv_iconst (v := 3) hx hb dX4_errand_2 (by decide) ?_
  obtain ⟨r3, S2, h1, hf⟩ := bd2_o hf
  refine w_callSi (As := [.int x1, .int 0, .int 3]) (rest := []) hX E w (c_X4_isIn l hX h1) (va_cwS 3 hts gX4_errand_X4_isIn rfl rfl rfl hd_X4_isIn ⟨Nat.le_of_ble_eq_true rfl, Nat.le_of_ble_eq_true rfl⟩) rfl hl.1 rfl (Nat.le_of_ble_eq_true rfl) dX4_errand_3 ⟨Nat.le_refl _, Nat.le_refl _⟩ (fun H locs w => ?_)
  refine lv_if_ne (tgt := 18) hx hb dX4_errand_6 (by decide) (fun h4 => ?_) (fun h4 => ?_)
  · replace hf := it_f h4 hf
    refine lv_aload_n hx hb dX4_errand_18 rfl (lv_at hl 0 rfl) ?_
    refine w_get E w in_X4_errand_X4 50 (cC_at_50 t a S2) rfl 3 (by decide) fl_X4_errand_29 rfl rfl dX4_errand_19 ?_
    obtain ⟨r7, S6, h5, hf⟩ := bd2_o hf
    refine w_callVi (As := []) (rest := []) hX E w (c_X3_goErrand l hX h5) (cwV 0 hts gX4_errand_X3_goErrand rfl rfl rfl hd_X3_goErrand ⟨Nat.le_of_ble_eq_true rfl, Nat.le_of_ble_eq_true rfl⟩) (ci := 3) rfl (cC_at_40 t a S2) rfl hl.1 rfl (Nat.le_of_ble_eq_true rfl) dX4_errand_22 ⟨Nat.le_refl _, Nat.le_refl _⟩ (fun H locs w => ?_)
    refine lv_istore_n (lv' := [(2, .int r7), (0, .ref (a 50)), (1, .int x1)]) hx hb dX4_errand_25 rfl hl (by decide) rfl (fun ls hl => ?_)
    refine lv_aload_n hx hb dX4_errand_26 rfl (lv_at hl 1 rfl) ?_
    refine w_get E w in_X4_errand_X4 50 (cC_at_50 t a S6) rfl 3 (by decide) fl_X4_errand_29 rfl rfl dX4_errand_27 ?_
    refine w_get E w in_X4_errand_X3 40 (cC_at_40 t a S6) rfl 6 (by decide) fl_X4_errand_125 rfl rfl dX4_errand_30 ?_
    refine lv_istore_n (lv' := [(3, .int (S6 40 6)), (2, .int r7), (0, .ref (a 50)), (1, .int x1)]) hx hb dX4_errand_33 rfl hl (by decide) rfl (fun ls hl => ?_)
    refine lv_iload_n hx hb dX4_errand_34 rfl (lv_at hl 3 rfl) ?_
    by_cases h8 : x1 = 0
    · replace hf := it_t h8 hf
      refine lv_tableIn (tgt := 60) (off := 25) hx hb dX4_errand_35 (by rw [h8]; decide) (by rw [h8]; decide) (by rw [h8]; rfl) (by decide) ?_
      refine lv_iload_n hx hb dX4_errand_60 rfl (lv_at hl 1 rfl) ?_
      refine lv_if_ne (tgt := 68) hx hb dX4_errand_61 (by decide) (fun h11 => ?_) (fun h11 => ?_)
      · replace hf := it_f h11 hf
        refine lv_bipush (v := 10) hx hb dX4_errand_68 (by decide) ?_
        refine lv_iload_n hx hb dX4_errand_70 rfl (lv_at hl 0 rfl) ?_
        refine lv_imul hx hb dX4_errand_71 ?_
        refine lv_iload_n hx hb dX4_errand_72 rfl (lv_at hl 1 rfl) ?_
        refine lv_iadd hx hb dX4_errand_73 ?_
        exact w_reti E w hf dX4_errand_74
      · replace hf := it_t h11 hf
        refine lv_iconst (v := (-1)) hx hb dX4_errand_64 (by decide) ?_
        refine lv_goto (tgt := 74) hx hb dX4_errand_65 (by decide) ?_
        exact w_reti E w hf dX4_errand_74
    · replace hf := it_f h8 hf
      by_cases h9 : x1 = 1
      · replace hf := it_t h9 hf
        refine lv_tableIn (tgt := 75) (off := 40) hx hb dX4_errand_35 (by rw [h9]; decide) (by rw [h9]; decide) (by rw [h9]; rfl) (by decide) ?_
        refine lv_aload_n hx hb dX4_errand_75 rfl (lv_at hl 2 rfl) ?_
        refine w_get E w in_X4_errand_X4 50 (cC_at_50 t a S6) rfl 3 (by decide) fl_X4_errand_29 rfl rfl dX4_errand_76 ?_
        refine w_get E w in_X4_errand_X3 40 (cC_at_40 t a S6) rfl 5 (by decide) fl_X4_errand_128 rfl rfl dX4_errand_79 ?_
        refine lv_iload_n hx hb dX4_errand_82 rfl (lv_at hl 0 rfl) ?_
        obtain ⟨h12, hf⟩ := it_n hf
        refine w_ald E w 45 0 (cC_at_45 t a S6) rfl h12 rfl dX4_errand_83 ?_
        exact w_reti E w hf dX4_errand_84
      · replace hf := it_f h9 hf
        by_cases h10 : x1 = 2
        · replace hf := it_t h10 hf
          refine lv_tableIn (tgt := 85) (off := 50) hx hb dX4_errand_35 (by rw [h10]; decide) (by rw [h10]; decide) (by rw [h10]; rfl) (by decide) ?_
          refine lv_aload_n hx hb dX4_errand_85 rfl (lv_at hl 2 rfl) ?_
          refine w_get E w in_X4_errand_X4 50 (cC_at_50 t a S6) rfl 3 (by decide) fl_X4_errand_29 rfl rfl dX4_errand_86 ?_
          refine w_get E w in_X4_errand_X3 40 (cC_at_40 t a S6) rfl 4 (by decide) fl_X4_errand_131 rfl rfl dX4_errand_89 ?_
          refine lv_iload_n hx hb dX4_errand_92 rfl (lv_at hl 0 rfl) ?_
          obtain ⟨h13, hf⟩ := it_n hf
          refine w_ald E w 44 0 (cC_at_44 t a S6) rfl h13 rfl dX4_errand_93 ?_
          exact w_reti E w hf dX4_errand_94
        · replace hf := it_f h10 hf
          refine lv_tableOut (tgt := 95) hx hb dX4_errand_35 (tb_out3 h8 h9 h10) (by decide) ?_
          refine lv_aload_n hx hb dX4_errand_95 rfl (lv_at hl 2 rfl) ?_
          refine w_get E w in_X4_errand_X4 50 (cC_at_50 t a S6) rfl 3 (by decide) fl_X4_errand_29 rfl rfl dX4_errand_96 ?_
          refine w_get E w in_X4_errand_X3 40 (cC_at_40 t a S6) rfl 3 (by decide) fl_X4_errand_134 rfl rfl dX4_errand_99 ?_
          refine lv_iload_n hx hb dX4_errand_102 rfl (lv_at hl 0 rfl) ?_
          obtain ⟨h14, hf⟩ := it_n hf
          refine w_ald E w 43 0 (cC_at_43 t a S6) rfl h14 rfl dX4_errand_103 ?_
          exact w_reti E w hf dX4_errand_104
  · replace hf := it_t h4 hf
    refine lv_aload_n hx hb dX4_errand_9 rfl (lv_at hl 0 rfl) ?_
    refine lv_bipush (v := (-2)) hx hb dX4_errand_10 (by decide) ?_
    refine lv_bipush (v := (-2)) hx hb dX4_errand_12 (by decide) ?_
    obtain ⟨r17, S16, h15, hf⟩ := bd2_o hf
    refine w_callVi (As := [.int (-2), .int (-2)]) (rest := []) hX E w (c_X4_refuse l hX h15) (cwV 2 hts gX4_errand_X4_refuse rfl rfl rfl hd_X4_refuse ⟨Nat.le_of_ble_eq_true rfl, Nat.le_of_ble_eq_true rfl⟩) (ci := 4) rfl (cC_at_50 t a S2) rfl hl.1 rfl (Nat.le_of_ble_eq_true rfl) dX4_errand_14 ⟨Nat.le_refl _, Nat.le_refl _⟩ (fun H locs w => ?_)
    exact w_reti E w hf dX4_errand_17
theorem c_X4_errand (l : Launch) {D : va_G} {t : Nat → ClassId} {a : Nat → Nat} {X : State → Prop} (hX : XOk (aW 56 a) X) {N : Nat} {S : ST} {x1 : Int32} {r : Int32} {S' : ST} (hf : f_X4_errand N S x1 = some (r, S')) : Co l yX4_errand wsX4_errand rmX4_errand D (cC t a) (aW 56 a) (tyC t) X [.ref (a 50), .int x1] S (Qi D (cC t a) (aW 56 a) (tyC t) r S') :=
  co_of (cc := cX4_errand) (maxL := 4) (ret := (some .int)) (lv := [(0, .ref (a 50)), (1, .int x1)]) (by decide) rfl rfl (Nat.le_of_ble_eq_true rfl) rfl rfl (fun p e s m below meth c ls E hl w => k_X4_errand_E hX E w hl hf)
-- X4_areGoods
theorem in_X4_areGoods_X4 : ∀ w ∈ u_ws RX4 TX4 9, w ∈ wsX4_areGoods := by decide +kernel
theorem fl_X4_areGoods_10 : Cond.fieldLink RX4 10 "NextDoor" "street" "LNextDoor$Street;" ∈ wsX4_areGoods := by decide +kernel
theorem in_X4_areGoods_X2 : ∀ w ∈ u_ws RX2 TX2 16, w ∈ wsX4_areGoods := by decide +kernel
theorem fl_X4_areGoods_67 : Cond.fieldLink RX4 67 "NextDoor$Street" "shops" "I" ∈ wsX4_areGoods := by decide +kernel
abbrev rmX4_areGoods : Room := { frames := 1, cells := 0, slots := 0, locals := 22 }
set_option maxHeartbeats 4000000 in
set_option maxRecDepth 100000 in
theorem k_X4_areGoods_E {p : Program} {l : Launch} {e : Env} {s : State} {m : MethodId} {args : Array Value} {below : List Frame} {meth : Method} {c : Code} {D : va_G} {t : Nat → ClassId} {a : Nat → Nat} {X : State → Prop} {N : Nat} {r : Int32} {S' : ST} (hX : XOk (aW 56 a) X) (E : EN p s m args meth c cX4_areGoods RX4 wsX4_areGoods (some .boolean) 2) {S : ST} {x1 : Int32} {H : Heap} {locs : List Loc} {ls : Array Slot} (w : Wd D (cC t a) (aW 56 a) (tyC t) X S s H locs) (hl : lv_has ls 2 [(0, .ref (a 50)), (1, .int x1)]) (hf : f_X4_areGoods N S x1 = some (r, S')) : W p l e rmX4_areGoods s m args below meth c H locs 0 0 (MQ below (Qi D (cC t a) (aW 56 a) (tyC t) r S') args s 0 0 (aW 56 a)) (F0 m 0 ls []) := by
  obtain ⟨⟨hx, hb, hml, hown, hts⟩, hr, hlk⟩ := id E
  unfold f_X4_areGoods at hf
  refine lv_iload_n hx hb dX4_areGoods_0 rfl (lv_at hl 1 rfl) ?_
  refine lv_iconst (v := 0) hx hb dX4_areGoods_1 (by decide) ?_
  refine lv_iconst (v := 1) hx hb dX4_areGoods_2 (by decide) ?_
  refine lv_aload_n hx hb dX4_areGoods_3 rfl (lv_at hl 0 rfl) ?_
  refine w_get E w in_X4_areGoods_X4 50 (cC_at_50 t a S) rfl 0 (by decide) fl_X4_areGoods_10 rfl rfl dX4_areGoods_4 ?_
  refine w_get E w in_X4_areGoods_X2 0 (cC_at_0 t a S) rfl 0 (by decide) fl_X4_areGoods_67 rfl rfl dX4_areGoods_7 ?_
  refine lv_ishl hx hb dX4_areGoods_10 ?_
  refine lv_iconst (v := 1) hx hb dX4_areGoods_11 (by decide) ?_
  refine lv_isub hx hb dX4_areGoods_12 ?_
  obtain ⟨r3, S2, h1, hf⟩ := bd2_o hf
  refine w_callSi (As := [.int x1, .int 0, .int ((1 <<< ((S 0 0) &&& 31)) - 1)]) (rest := []) hX E w (c_X4_isIn l hX h1) (va_cwS 3 hts gX4_areGoods_X4_isIn rfl rfl rfl hd_X4_isIn ⟨Nat.le_of_ble_eq_true rfl, Nat.le_of_ble_eq_true rfl⟩) rfl hl.1 rfl (Nat.le_of_ble_eq_true rfl) dX4_areGoods_13 ⟨Nat.le_refl _, Nat.le_refl _⟩ (fun H locs w => ?_)
  obtain ⟨h4, hf⟩ := it_s hf
  exact w_retz E w h4 hf dX4_areGoods_16
theorem c_X4_areGoods (l : Launch) {D : va_G} {t : Nat → ClassId} {a : Nat → Nat} {X : State → Prop} (hX : XOk (aW 56 a) X) {N : Nat} {S : ST} {x1 : Int32} {r : Int32} {S' : ST} (hf : f_X4_areGoods N S x1 = some (r, S')) : Co l yX4_areGoods wsX4_areGoods rmX4_areGoods D (cC t a) (aW 56 a) (tyC t) X [.ref (a 50), .int x1] S (Qi D (cC t a) (aW 56 a) (tyC t) r S') :=
  co_of (cc := cX4_areGoods) (maxL := 2) (ret := (some .boolean)) (lv := [(0, .ref (a 50)), (1, .int x1)]) (by decide) rfl rfl (Nat.le_of_ble_eq_true rfl) rfl rfl (fun p e s m below meth c ls E hl w => k_X4_areGoods_E hX E w hl hf)
-- X1_expect
theorem in_X1_expect_X1 : ∀ w ∈ u_ws RX1 TX1 12, w ∈ wsX1_expect := by decide +kernel
theorem fl_X1_expect_60 : Cond.fieldLink RX1 60 "NextDoor$Search" "wants" "I" ∈ wsX1_expect := by decide +kernel
theorem fl_X1_expect_42 : Cond.fieldLink RX1 42 "NextDoor$Search" "found" "Z" ∈ wsX1_expect := by decide +kernel
theorem fl_X1_expect_63 : Cond.fieldLink RX1 63 "NextDoor$Search" "bestScore" "I" ∈ wsX1_expect := by decide +kernel
theorem fl_X1_expect_57 : Cond.fieldLink RX1 57 "NextDoor$Search" "length" "I" ∈ wsX1_expect := by decide +kernel
abbrev rmX1_expect : Room := { frames := 0, cells := 0, slots := 0, locals := 0 }
set_option maxHeartbeats 4000000 in
set_option maxRecDepth 100000 in
theorem k_X1_expect_E {p : Program} {l : Launch} {e : Env} {s : State} {m : MethodId} {args : Array Value} {below : List Frame} {meth : Method} {c : Code} {D : va_G} {t : Nat → ClassId} {a : Nat → Nat} {X : State → Prop} {N : Nat} {S' : ST} (hX : XOk (aW 56 a) X) (E : EN p s m args meth c cX1_expect RX1 wsX1_expect none 3) {S : ST} {x1 : Int32} {x2 : Int32} {H : Heap} {locs : List Loc} {ls : Array Slot} (w : Wd D (cC t a) (aW 56 a) (tyC t) X S s H locs) (hl : lv_has ls 3 [(0, .ref (a 46)), (1, .int x1), (2, .int x2)]) (hf : f_X1_expect N S x1 x2 = some S') : W p l e rmX1_expect s m args below meth c H locs 0 0 (MQ below (Qv D (cC t a) (aW 56 a) (tyC t) S') args s 0 0 (aW 56 a)) (F0 m 0 ls []) := by
  obtain ⟨⟨hx, hb, hml, hown, hts⟩, hr, hlk⟩ := id E
  unfold f_X1_expect at hf
  refine lv_aload_n hx hb dX1_expect_0 rfl (lv_at hl 0 rfl) ?_
  refine lv_iload_n hx hb dX1_expect_1 rfl (lv_at hl 1 rfl) ?_
  obtain ⟨S1, eS1, hf⟩ := nm_o hf
  refine w_put (S1 := S1) E w in_X1_expect_X1 tyX1 tyX1_ok nmX1 46 (cC_at_46 t a S) rfl 2 (by decide) fl_X1_expect_60 rfl rfl rfl rfl rfl (Nat.le_of_ble_eq_true rfl) ((cC_set_46_2 t a S x1).trans (congrArg (cC t a) eS1.symm)) dX1_expect_2 (fun H locs w => ?_)
  refine lv_aload_n hx hb dX1_expect_5 rfl (lv_at hl 0 rfl) ?_
  refine lv_iconst (v := 0) hx hb dX1_expect_6 (by decide) ?_
  obtain ⟨S2, eS2, hf⟩ := nm_o hf
  refine w_put (S1 := S2) E w in_X1_expect_X1 tyX1 tyX1_ok nmX1 46 (cC_at_46 t a S1) rfl 5 (by decide) fl_X1_expect_42 rfl rfl rfl (nar_z (by decide)) (by decide) (Nat.le_of_ble_eq_true rfl) ((cC_set_46_5 t a S1 0).trans (congrArg (cC t a) eS2.symm)) dX1_expect_7 (fun H locs w => ?_)
  refine lv_aload_n hx hb dX1_expect_10 rfl (lv_at hl 0 rfl) ?_
  refine lv_iload_n hx hb dX1_expect_11 rfl (lv_at hl 2 rfl) ?_
  obtain ⟨S3, eS3, hf⟩ := nm_o hf
  refine w_put (S1 := S3) E w in_X1_expect_X1 tyX1 tyX1_ok nmX1 46 (cC_at_46 t a S2) rfl 6 (by decide) fl_X1_expect_63 rfl rfl rfl rfl rfl (Nat.le_of_ble_eq_true rfl) ((cC_set_46_6 t a S2 x2).trans (congrArg (cC t a) eS3.symm)) dX1_expect_12 (fun H locs w => ?_)
  refine lv_aload_n hx hb dX1_expect_15 rfl (lv_at hl 0 rfl) ?_
  refine lv_bipush (v := 7) hx hb dX1_expect_16 (by decide) ?_
  obtain ⟨S4, eS4, hf⟩ := nm_o hf
  refine w_put (S1 := S4) E w in_X1_expect_X1 tyX1 tyX1_ok nmX1 46 (cC_at_46 t a S3) rfl 7 (by decide) fl_X1_expect_57 rfl rfl rfl rfl rfl (Nat.le_of_ble_eq_true rfl) ((cC_set_46_7 t a S3 7).trans (congrArg (cC t a) eS4.symm)) dX1_expect_18 (fun H locs w => ?_)
  exact w_retv E w hf dX1_expect_21
theorem c_X1_expect (l : Launch) {D : va_G} {t : Nat → ClassId} {a : Nat → Nat} {X : State → Prop} (hX : XOk (aW 56 a) X) {N : Nat} {S : ST} {x1 : Int32} {x2 : Int32} {S' : ST} (hf : f_X1_expect N S x1 x2 = some S') : Co l yX1_expect wsX1_expect rmX1_expect D (cC t a) (aW 56 a) (tyC t) X [.ref (a 46), .int x1, .int x2] S (Qv D (cC t a) (aW 56 a) (tyC t) S') :=
  co_of (cc := cX1_expect) (maxL := 3) (ret := none) (lv := [(0, .ref (a 46)), (1, .int x1), (2, .int x2)]) (by decide) rfl rfl (Nat.le_of_ble_eq_true rfl) rfl rfl (fun p e s m below meth c ls E hl w => k_X1_expect_E hX E w hl hf)
-- X1_score
theorem in_X1_score_X1 : ∀ w ∈ u_ws RX1 TX1 12, w ∈ wsX1_score := by decide +kernel
theorem fl_X1_score_26 : Cond.fieldLink RX1 26 "NextDoor$Search" "byMinute" "Z" ∈ wsX1_score := by decide +kernel
theorem fl_X1_score_22 : Cond.fieldLink RX1 22 "NextDoor$Search" "walk" "LNextDoor$Walk;" ∈ wsX1_score := by decide +kernel
theorem in_X1_score_X3 : ∀ w ∈ u_ws RX3 TX3 7, w ∈ wsX1_score := by decide +kernel
theorem fl_X1_score_92 : Cond.fieldLink RX1 92 "NextDoor$Walk" "paidAt" "[I" ∈ wsX1_score := by decide +kernel
theorem fl_X1_score_89 : Cond.fieldLink RX1 89 "NextDoor$Walk" "minuteAt" "[I" ∈ wsX1_score := by decide +kernel
abbrev rmX1_score : Room := { frames := 0, cells := 0, slots := 0, locals := 0 }
set_option maxHeartbeats 4000000 in
set_option maxRecDepth 100000 in
theorem k_X1_score_E {p : Program} {l : Launch} {e : Env} {s : State} {m : MethodId} {args : Array Value} {below : List Frame} {meth : Method} {c : Code} {D : va_G} {t : Nat → ClassId} {a : Nat → Nat} {X : State → Prop} {N : Nat} {r : Int32} {S' : ST} (hX : XOk (aW 56 a) X) (E : EN p s m args meth c cX1_score RX1 wsX1_score (some .int) 2) {S : ST} {x1 : Int32} {H : Heap} {locs : List Loc} {ls : Array Slot} (w : Wd D (cC t a) (aW 56 a) (tyC t) X S s H locs) (hl : lv_has ls 2 [(0, .ref (a 46)), (1, .int x1)]) (hf : f_X1_score N S x1 = some (r, S')) : W p l e rmX1_score s m args below meth c H locs 0 0 (MQ below (Qi D (cC t a) (aW 56 a) (tyC t) r S') args s 0 0 (aW 56 a)) (F0 m 0 ls []) := by
  obtain ⟨⟨hx, hb, hml, hown, hts⟩, hr, hlk⟩ := id E
  unfold f_X1_score at hf
  refine lv_aload_n hx hb dX1_score_0 rfl (lv_at hl 0 rfl) ?_
  refine w_get E w in_X1_score_X1 46 (cC_at_46 t a S) rfl 4 (by decide) fl_X1_score_26 rfl rfl dX1_score_1 ?_
  refine lv_if_eq (tgt := 19) hx hb dX1_score_4 (by decide) (fun h1 => ?_) (fun h1 => ?_)
  · replace hf := it_t h1 hf
    refine lv_aload_n hx hb dX1_score_19 rfl (lv_at hl 0 rfl) ?_
    refine w_get E w in_X1_score_X1 46 (cC_at_46 t a S) rfl 1 (by decide) fl_X1_score_22 rfl rfl dX1_score_20 ?_
    refine w_get E w in_X1_score_X3 40 (cC_at_40 t a S) rfl 5 (by decide) fl_X1_score_92 rfl rfl dX1_score_23 ?_
    refine lv_iload_n hx hb dX1_score_26 rfl (lv_at hl 1 rfl) ?_
    obtain ⟨h2, hf⟩ := it_n hf
    refine w_ald E w 45 0 (cC_at_45 t a S) rfl h2 rfl dX1_score_27 ?_
    exact w_reti E w hf dX1_score_28
  · replace hf := it_f h1 hf
    refine lv_aload_n hx hb dX1_score_7 rfl (lv_at hl 0 rfl) ?_
    refine w_get E w in_X1_score_X1 46 (cC_at_46 t a S) rfl 1 (by decide) fl_X1_score_22 rfl rfl dX1_score_8 ?_
    refine w_get E w in_X1_score_X3 40 (cC_at_40 t a S) rfl 4 (by decide) fl_X1_score_89 rfl rfl dX1_score_11 ?_
    refine lv_iload_n hx hb dX1_score_14 rfl (lv_at hl 1 rfl) ?_
    obtain ⟨h3, hf⟩ := it_n hf
    refine w_ald E w 44 0 (cC_at_44 t a S) rfl h3 rfl dX1_score_15 ?_
    refine lv_goto (tgt := 28) hx hb dX1_score_16 (by decide) ?_
    exact w_reti E w hf dX1_score_28
theorem c_X1_score (l : Launch) {D : va_G} {t : Nat → ClassId} {a : Nat → Nat} {X : State → Prop} (hX : XOk (aW 56 a) X) {N : Nat} {S : ST} {x1 : Int32} {r : Int32} {S' : ST} (hf : f_X1_score N S x1 = some (r, S')) : Co l yX1_score wsX1_score rmX1_score D (cC t a) (aW 56 a) (tyC t) X [.ref (a 46), .int x1] S (Qi D (cC t a) (aW 56 a) (tyC t) r S') :=
  co_of (cc := cX1_score) (maxL := 2) (ret := (some .int)) (lv := [(0, .ref (a 46)), (1, .int x1)]) (by decide) rfl rfl (Nat.le_of_ble_eq_true rfl) rfl rfl (fun p e s m below meth c ls E hl w => k_X1_score_E hX E w hl hf)
-- X1_isBetter
theorem hd_X1_score : yX1_score.cls = RX1 ∧ yX1_score.cls ≠ "java/lang/invoke/MethodHandle" ∧ yX1_score.cls ≠ "java/lang/invoke/VarHandle" ∧ (parseMethodDescriptor yX1_score.desc).map (fun d => d.parameters.length) = some 1 := by decide +kernel
theorem in_X1_isBetter_X1 : ∀ w ∈ u_ws RX1 TX1 12, w ∈ wsX1_isBetter := by decide +kernel
theorem fl_X1_isBetter_63 : Cond.fieldLink RX1 63 "NextDoor$Search" "bestScore" "I" ∈ wsX1_isBetter := by decide +kernel
theorem fl_X1_isBetter_57 : Cond.fieldLink RX1 57 "NextDoor$Search" "length" "I" ∈ wsX1_isBetter := by decide +kernel
abbrev rmX1_isBetter : Room := { frames := 1, cells := 0, slots := 0, locals := 21 }
set_option maxHeartbeats 4000000 in
set_option maxRecDepth 100000 in
theorem k_X1_isBetter_E {p : Program} {l : Launch} {e : Env} {s : State} {m : MethodId} {args : Array Value} {below : List Frame} {meth : Method} {c : Code} {D : va_G} {t : Nat → ClassId} {a : Nat → Nat} {X : State → Prop} {N : Nat} {r : Int32} {S' : ST} (hX : XOk (aW 56 a) X) (E : EN p s m args meth c cX1_isBetter RX1 wsX1_isBetter (some .boolean) 3) {S : ST} {x1 : Int32} {H : Heap} {locs : List Loc} {ls : Array Slot} (w : Wd D (cC t a) (aW 56 a) (tyC t) X S s H locs) (hl : lv_has ls 3 [(0, .ref (a 46)), (1, .int x1)]) (hf : f_X1_isBetter N S x1 = some (r, S')) : W p l e rmX1_isBetter s m args below meth c H locs 0 0 (MQ below (Qi D (cC t a) (aW 56 a) (tyC t) r S') args s 0 0 (aW 56 a)) (F0 m 0 ls []) := by
  obtain ⟨⟨hx, hb, hml, hown, hts⟩, hr, hlk⟩ := id E
  unfold f_X1_isBetter at hf
  refine lv_aload_n hx hb dX1_isBetter_0 rfl (lv_at hl 0 rfl) ?_
  refine lv_iload_n hx hb dX1_isBetter_1 rfl (lv_at hl 1 rfl) ?_
  obtain ⟨r3, S2, h1, hf⟩ := bd2_o hf
  refine w_callVi (As := [.int x1]) (rest := []) hX E w (c_X1_score l hX h1) (cwV 1 hts gX1_isBetter_X1_score rfl rfl rfl hd_X1_score ⟨Nat.le_of_ble_eq_true rfl, Nat.le_of_ble_eq_true rfl⟩) (ci := 1) rfl (cC_at_46 t a S) rfl hl.1 rfl (Nat.le_of_ble_eq_true rfl) dX1_isBetter_2 ⟨Nat.le_refl _, Nat.le_refl _⟩ (fun H locs w => ?_)
  refine lv_istore_n (lv' := [(2, .int r3), (0, .ref (a 46)), (1, .int x1)]) hx hb dX1_isBetter_5 rfl hl (by decide) rfl (fun ls hl => ?_)
  refine lv_iload_n hx hb dX1_isBetter_6 rfl (lv_at hl 0 rfl) ?_
  refine lv_aload_n hx hb dX1_isBetter_7 rfl (lv_at hl 1 rfl) ?_
  refine w_get E w in_X1_isBetter_X1 46 (cC_at_46 t a S2) rfl 6 (by decide) fl_X1_isBetter_63 rfl rfl dX1_isBetter_8 ?_
  refine lv_icmp_lt (tgt := 30) hx hb dX1_isBetter_11 (by decide) (fun h4 => ?_) (fun h4 => ?_)
  · replace hf := it_t h4 hf
    refine lv_iconst (v := 1) hx hb dX1_isBetter_30 (by decide) ?_
    refine lv_goto (tgt := 35) hx hb dX1_isBetter_31 (by decide) ?_
    exact w_retz E w (by decide) hf dX1_isBetter_35
  · replace hf := it_f h4 hf
    refine lv_iload_n hx hb dX1_isBetter_14 rfl (lv_at hl 0 rfl) ?_
    refine lv_aload_n hx hb dX1_isBetter_15 rfl (lv_at hl 1 rfl) ?_
    refine w_get E w in_X1_isBetter_X1 46 (cC_at_46 t a S2) rfl 6 (by decide) fl_X1_isBetter_63 rfl rfl dX1_isBetter_16 ?_
    refine lv_icmp_ne (tgt := 34) hx hb dX1_isBetter_19 (by decide) (fun h5 => ?_) (fun h5 => ?_)
    · replace hf := it_f h5 hf
      refine lv_iconst (v := 0) hx hb dX1_isBetter_34 (by decide) ?_
      exact w_retz E w (by decide) hf dX1_isBetter_35
    · replace hf := it_t h5 hf
      refine lv_iload_n hx hb dX1_isBetter_22 rfl (lv_at hl 2 rfl) ?_
      refine lv_aload_n hx hb dX1_isBetter_23 rfl (lv_at hl 1 rfl) ?_
      refine w_get E w in_X1_isBetter_X1 46 (cC_at_46 t a S2) rfl 7 (by decide) fl_X1_isBetter_57 rfl rfl dX1_isBetter_24 ?_
      refine lv_icmp_ge (tgt := 34) hx hb dX1_isBetter_27 (by decide) (fun h6 => ?_) (fun h6 => ?_)
      · replace hf := it_t h6 hf
        refine lv_iconst (v := 0) hx hb dX1_isBetter_34 (by decide) ?_
        exact w_retz E w (by decide) hf dX1_isBetter_35
      · replace hf := it_f h6 hf
        refine lv_iconst (v := 1) hx hb dX1_isBetter_30 (by decide) ?_
        refine lv_goto (tgt := 35) hx hb dX1_isBetter_31 (by decide) ?_
        exact w_retz E w (by decide) hf dX1_isBetter_35
theorem c_X1_isBetter (l : Launch) {D : va_G} {t : Nat → ClassId} {a : Nat → Nat} {X : State → Prop} (hX : XOk (aW 56 a) X) {N : Nat} {S : ST} {x1 : Int32} {r : Int32} {S' : ST} (hf : f_X1_isBetter N S x1 = some (r, S')) : Co l yX1_isBetter wsX1_isBetter rmX1_isBetter D (cC t a) (aW 56 a) (tyC t) X [.ref (a 46), .int x1] S (Qi D (cC t a) (aW 56 a) (tyC t) r S') :=
  co_of (cc := cX1_isBetter) (maxL := 3) (ret := (some .boolean)) (lv := [(0, .ref (a 46)), (1, .int x1)]) (by decide) rfl rfl (Nat.le_of_ble_eq_true rfl) rfl rfl (fun p e s m below meth c ls E hl w => k_X1_isBetter_E hX E w hl hf)
-- X1_keep
theorem in_X1_keep_X1 : ∀ w ∈ u_ws RX1 TX1 12, w ∈ wsX1_keep := by decide +kernel
theorem fl_X1_keep_42 : Cond.fieldLink RX1 42 "NextDoor$Search" "found" "Z" ∈ wsX1_keep := by decide +kernel
theorem fl_X1_keep_63 : Cond.fieldLink RX1 63 "NextDoor$Search" "bestScore" "I" ∈ wsX1_keep := by decide +kernel
theorem fl_X1_keep_57 : Cond.fieldLink RX1 57 "NextDoor$Search" "length" "I" ∈ wsX1_keep := by decide +kernel
theorem fl_X1_keep_22 : Cond.fieldLink RX1 22 "NextDoor$Search" "walk" "LNextDoor$Walk;" ∈ wsX1_keep := by decide +kernel
theorem in_X1_keep_X3 : ∀ w ∈ u_ws RX3 TX3 7, w ∈ wsX1_keep := by decide +kernel
theorem fl_X1_keep_92 : Cond.fieldLink RX1 92 "NextDoor$Walk" "paidAt" "[I" ∈ wsX1_keep := by decide +kernel
theorem fl_X1_keep_98 : Cond.fieldLink RX1 98 "NextDoor$Search" "paid" "I" ∈ wsX1_keep := by decide +kernel
theorem fl_X1_keep_89 : Cond.fieldLink RX1 89 "NextDoor$Walk" "minuteAt" "[I" ∈ wsX1_keep := by decide +kernel
theorem fl_X1_keep_101 : Cond.fieldLink RX1 101 "NextDoor$Search" "minute" "I" ∈ wsX1_keep := by decide +kernel
theorem fl_X1_keep_9 : Cond.fieldLink RX1 9 "NextDoor$Search" "row" "[I" ∈ wsX1_keep := by decide +kernel
theorem fl_X1_keep_104 : Cond.fieldLink RX1 104 "NextDoor$Walk" "shopAt" "[I" ∈ wsX1_keep := by decide +kernel
theorem fl_X1_keep_15 : Cond.fieldLink RX1 15 "NextDoor$Search" "paidThere" "[I" ∈ wsX1_keep := by decide +kernel
abbrev rmX1_keep : Room := { frames := 1, cells := 0, slots := 0, locals := 21 }
set_option maxHeartbeats 4000000 in
set_option maxRecDepth 100000 in
theorem k_X1_keep_47 {p : Program} {l : Launch} {e : Env} {s : State} {m : MethodId} {args : Array Value} {below : List Frame} {meth : Method} {c : Code} {D : va_G} {t : Nat → ClassId} {a : Nat → Nat} {X : State → Prop} {N : Nat} {S' : ST} (hX : XOk (aW 56 a) X) (E : EN p s m args meth c cX1_keep RX1 wsX1_keep none 3) : ∀ (n : Nat) {S : ST} {x1 : Int32} {x2 : Int32} {H : Heap} {locs : List Loc} {ls : Array Slot}, Wd D (cC t a) (aW 56 a) (tyC t) X S s H locs → lv_has ls 3 [(0, .ref (a 46)), (1, .int x1), (2, .int x2)] → b_X1_keep_47 N n S x1 x2 = some S' → W p l e rmX1_keep s m args below meth c H locs 0 0 (MQ below (Qv D (cC t a) (aW 56 a) (tyC t) S') args s 0 0 (aW 56 a)) (F0 m 47 ls []) := by
  obtain ⟨⟨hx, hb, hml, hown, hts⟩, hr, hlk⟩ := id E
  intro n
  induction n with
  | zero => intro S x1 x2 H locs ls w hl hf; cases hf
  | succ n ih =>
    intro S x1 x2 H locs ls w hl hf
    unfold b_X1_keep_47 at hf
    refine lv_iload_n hx hb dX1_keep_47 rfl (lv_at hl 2 rfl) ?_
    refine lv_iload_n hx hb dX1_keep_48 rfl (lv_at hl 1 rfl) ?_
    refine lv_icmp_ge (tgt := 100) hx hb dX1_keep_49 (by decide) (fun h11 => ?_) (fun h11 => ?_)
    · replace hf := it_t h11 hf
      exact w_retv E w hf dX1_keep_100
    · replace hf := it_f h11 hf
      refine lv_aload_n hx hb dX1_keep_52 rfl (lv_at hl 0 rfl) ?_
      refine w_get E w in_X1_keep_X1 46 (cC_at_46 t a S) rfl 10 (by decide) fl_X1_keep_9 rfl rfl dX1_keep_53 ?_
      refine lv_iload_n hx hb dX1_keep_56 rfl (lv_at hl 2 rfl) ?_
      refine lv_aload_n hx hb dX1_keep_57 rfl (lv_at hl 0 rfl) ?_
      refine w_get E w in_X1_keep_X1 46 (cC_at_46 t a S) rfl 1 (by decide) fl_X1_keep_22 rfl rfl dX1_keep_58 ?_
      refine w_get E w in_X1_keep_X3 40 (cC_at_40 t a S) rfl 1 (by decide) fl_X1_keep_104 rfl rfl dX1_keep_61 ?_
      refine lv_iload_n hx hb dX1_keep_64 rfl (lv_at hl 2 rfl) ?_
      obtain ⟨h12, hf⟩ := it_n hf
      refine w_ald E w 41 0 (cC_at_41 t a S) rfl h12 rfl dX1_keep_65 ?_
      obtain ⟨h14, hf⟩ := it_n hf
      obtain ⟨S13, eS13, hf⟩ := nm_o hf
      refine w_ast (S1 := S13) E w 47 0 (cC_at_47 t a S) rfl h14 rfl ((cC_st_47 t a S x2.toNatClampNeg (S 41 x2.toNatClampNeg)).trans (congrArg (cC t a) eS13.symm)) dX1_keep_66 (fun H locs w => ?_)
      refine lv_aload_n hx hb dX1_keep_67 rfl (lv_at hl 0 rfl) ?_
      refine w_get E w in_X1_keep_X1 46 (cC_at_46 t a S13) rfl 11 (by decide) fl_X1_keep_15 rfl rfl dX1_keep_68 ?_
      refine lv_iload_n hx hb dX1_keep_71 rfl (lv_at hl 2 rfl) ?_
      refine lv_aload_n hx hb dX1_keep_72 rfl (lv_at hl 0 rfl) ?_
      refine w_get E w in_X1_keep_X1 46 (cC_at_46 t a S13) rfl 1 (by decide) fl_X1_keep_22 rfl rfl dX1_keep_73 ?_
      refine w_get E w in_X1_keep_X3 40 (cC_at_40 t a S13) rfl 5 (by decide) fl_X1_keep_92 rfl rfl dX1_keep_76 ?_
      refine lv_iload_n hx hb dX1_keep_79 rfl (lv_at hl 2 rfl) ?_
      refine lv_iconst (v := 1) hx hb dX1_keep_80 (by decide) ?_
      refine lv_iadd hx hb dX1_keep_81 ?_
      obtain ⟨h15, hf⟩ := it_n hf
      refine w_ald E w 45 0 (cC_at_45 t a S13) rfl h15 rfl dX1_keep_82 ?_
      refine lv_aload_n hx hb dX1_keep_83 rfl (lv_at hl 0 rfl) ?_
      refine w_get E w in_X1_keep_X1 46 (cC_at_46 t a S13) rfl 1 (by decide) fl_X1_keep_22 rfl rfl dX1_keep_84 ?_
      refine w_get E w in_X1_keep_X3 40 (cC_at_40 t a S13) rfl 5 (by decide) fl_X1_keep_92 rfl rfl dX1_keep_87 ?_
      refine lv_iload_n hx hb dX1_keep_90 rfl (lv_at hl 2 rfl) ?_
      obtain ⟨h16, hf⟩ := it_n hf
      refine w_ald E w 45 0 (cC_at_45 t a S13) rfl h16 rfl dX1_keep_91 ?_
      refine lv_isub hx hb dX1_keep_92 ?_
      obtain ⟨h18, hf⟩ := it_n hf
      obtain ⟨S17, eS17, hf⟩ := nm_o hf
      refine w_ast (S1 := S17) E w 48 0 (cC_at_48 t a S13) rfl h18 rfl ((cC_st_48 t a S13 x2.toNatClampNeg ((S13 45 (x2 + 1).toNatClampNeg) - (S13 45 x2.toNatClampNeg))).trans (congrArg (cC t a) eS17.symm)) dX1_keep_93 (fun H locs w => ?_)
      refine lv_iinc (v := x2 + 1) (lv' := [(2, .int (x2 + 1)), (0, .ref (a 46)), (1, .int x1)]) hx hb dX1_keep_94 hl (k := 2) rfl rfl (by decide) rfl (fun ls hl => ?_)
      refine lv_goto (tgt := 47) hx hb dX1_keep_97 (by decide) ?_
      exact ih w (lv_sub hl [1, 2, 0] rfl) hf
set_option maxHeartbeats 4000000 in
set_option maxRecDepth 100000 in
theorem k_X1_keep_E {p : Program} {l : Launch} {e : Env} {s : State} {m : MethodId} {args : Array Value} {below : List Frame} {meth : Method} {c : Code} {D : va_G} {t : Nat → ClassId} {a : Nat → Nat} {X : State → Prop} {N : Nat} {S' : ST} (hX : XOk (aW 56 a) X) (E : EN p s m args meth c cX1_keep RX1 wsX1_keep none 3) {S : ST} {x1 : Int32} {H : Heap} {locs : List Loc} {ls : Array Slot} (w : Wd D (cC t a) (aW 56 a) (tyC t) X S s H locs) (hl : lv_has ls 3 [(0, .ref (a 46)), (1, .int x1)]) (hf : f_X1_keep N S x1 = some S') : W p l e rmX1_keep s m args below meth c H locs 0 0 (MQ below (Qv D (cC t a) (aW 56 a) (tyC t) S') args s 0 0 (aW 56 a)) (F0 m 0 ls []) := by
  obtain ⟨⟨hx, hb, hml, hown, hts⟩, hr, hlk⟩ := id E
  unfold f_X1_keep at hf
  refine lv_aload_n hx hb dX1_keep_0 rfl (lv_at hl 0 rfl) ?_
  refine lv_iconst (v := 1) hx hb dX1_keep_1 (by decide) ?_
  obtain ⟨S1, eS1, hf⟩ := nm_o hf
  refine w_put (S1 := S1) E w in_X1_keep_X1 tyX1 tyX1_ok nmX1 46 (cC_at_46 t a S) rfl 5 (by decide) fl_X1_keep_42 rfl rfl rfl (nar_z (by decide)) (by decide) (Nat.le_of_ble_eq_true rfl) ((cC_set_46_5 t a S 1).trans (congrArg (cC t a) eS1.symm)) dX1_keep_2 (fun H locs w => ?_)
  refine lv_aload_n hx hb dX1_keep_5 rfl (lv_at hl 0 rfl) ?_
  refine lv_aload_n hx hb dX1_keep_6 rfl (lv_at hl 0 rfl) ?_
  refine lv_iload_n hx hb dX1_keep_7 rfl (lv_at hl 1 rfl) ?_
  obtain ⟨r4, S3, h2, hf⟩ := bd2_o hf
  refine w_callVi (As := [.int x1]) (rest := [.ref (a 46)]) hX E w (c_X1_score l hX h2) (cwV 1 hts gX1_keep_X1_score rfl rfl rfl hd_X1_score ⟨Nat.le_of_ble_eq_true rfl, Nat.le_of_ble_eq_true rfl⟩) (ci := 1) rfl (cC_at_46 t a S1) rfl hl.1 rfl (Nat.le_of_ble_eq_true rfl) dX1_keep_8 ⟨Nat.le_refl _, Nat.le_refl _⟩ (fun H locs w => ?_)
  obtain ⟨S5, eS5, hf⟩ := nm_o hf
  refine w_put (S1 := S5) E w in_X1_keep_X1 tyX1 tyX1_ok nmX1 46 (cC_at_46 t a S3) rfl 6 (by decide) fl_X1_keep_63 rfl rfl rfl rfl rfl (Nat.le_of_ble_eq_true rfl) ((cC_set_46_6 t a S3 r4).trans (congrArg (cC t a) eS5.symm)) dX1_keep_11 (fun H locs w => ?_)
  refine lv_aload_n hx hb dX1_keep_14 rfl (lv_at hl 0 rfl) ?_
  refine lv_iload_n hx hb dX1_keep_15 rfl (lv_at hl 1 rfl) ?_
  obtain ⟨S6, eS6, hf⟩ := nm_o hf
  refine w_put (S1 := S6) E w in_X1_keep_X1 tyX1 tyX1_ok nmX1 46 (cC_at_46 t a S5) rfl 7 (by decide) fl_X1_keep_57 rfl rfl rfl rfl rfl (Nat.le_of_ble_eq_true rfl) ((cC_set_46_7 t a S5 x1).trans (congrArg (cC t a) eS6.symm)) dX1_keep_16 (fun H locs w => ?_)
  refine lv_aload_n hx hb dX1_keep_19 rfl (lv_at hl 0 rfl) ?_
  refine lv_aload_n hx hb dX1_keep_20 rfl (lv_at hl 0 rfl) ?_
  refine w_get E w in_X1_keep_X1 46 (cC_at_46 t a S6) rfl 1 (by decide) fl_X1_keep_22 rfl rfl dX1_keep_21 ?_
  refine w_get E w in_X1_keep_X3 40 (cC_at_40 t a S6) rfl 5 (by decide) fl_X1_keep_92 rfl rfl dX1_keep_24 ?_
  refine lv_iload_n hx hb dX1_keep_27 rfl (lv_at hl 1 rfl) ?_
  obtain ⟨h7, hf⟩ := it_n hf
  refine w_ald E w 45 0 (cC_at_45 t a S6) rfl h7 rfl dX1_keep_28 ?_
  obtain ⟨S8, eS8, hf⟩ := nm_o hf
  refine w_put (S1 := S8) E w in_X1_keep_X1 tyX1 tyX1_ok nmX1 46 (cC_at_46 t a S6) rfl 8 (by decide) fl_X1_keep_98 rfl rfl rfl rfl rfl (Nat.le_of_ble_eq_true rfl) ((cC_set_46_8 t a S6 (S6 45 x1.toNatClampNeg)).trans (congrArg (cC t a) eS8.symm)) dX1_keep_29 (fun H locs w => ?_)
  refine lv_aload_n hx hb dX1_keep_32 rfl (lv_at hl 0 rfl) ?_
  refine lv_aload_n hx hb dX1_keep_33 rfl (lv_at hl 0 rfl) ?_
  refine w_get E w in_X1_keep_X1 46 (cC_at_46 t a S8) rfl 1 (by decide) fl_X1_keep_22 rfl rfl dX1_keep_34 ?_
  refine w_get E w in_X1_keep_X3 40 (cC_at_40 t a S8) rfl 4 (by decide) fl_X1_keep_89 rfl rfl dX1_keep_37 ?_
  refine lv_iload_n hx hb dX1_keep_40 rfl (lv_at hl 1 rfl) ?_
  obtain ⟨h9, hf⟩ := it_n hf
  refine w_ald E w 44 0 (cC_at_44 t a S8) rfl h9 rfl dX1_keep_41 ?_
  obtain ⟨S10, eS10, hf⟩ := nm_o hf
  refine w_put (S1 := S10) E w in_X1_keep_X1 tyX1 tyX1_ok nmX1 46 (cC_at_46 t a S8) rfl 9 (by decide) fl_X1_keep_101 rfl rfl rfl rfl rfl (Nat.le_of_ble_eq_true rfl) ((cC_set_46_9 t a S8 (S8 44 x1.toNatClampNeg)).trans (congrArg (cC t a) eS10.symm)) dX1_keep_42 (fun H locs w => ?_)
  refine lv_iconst (v := 0) hx hb dX1_keep_45 (by decide) ?_
  refine lv_istore_n (lv' := [(2, .int 0), (0, .ref (a 46)), (1, .int x1)]) hx hb dX1_keep_46 rfl hl (by decide) rfl (fun ls hl => ?_)
  exact k_X1_keep_47 hX E N w (lv_sub hl [1, 2, 0] rfl) hf
theorem c_X1_keep (l : Launch) {D : va_G} {t : Nat → ClassId} {a : Nat → Nat} {X : State → Prop} (hX : XOk (aW 56 a) X) {N : Nat} {S : ST} {x1 : Int32} {S' : ST} (hf : f_X1_keep N S x1 = some S') : Co l yX1_keep wsX1_keep rmX1_keep D (cC t a) (aW 56 a) (tyC t) X [.ref (a 46), .int x1] S (Qv D (cC t a) (aW 56 a) (tyC t) S') :=
  co_of (cc := cX1_keep) (maxL := 3) (ret := none) (lv := [(0, .ref (a 46)), (1, .int x1)]) (by decide) rfl rfl (Nat.le_of_ble_eq_true rfl) rfl rfl (fun p e s m below meth c ls E hl w => k_X1_keep_E hX E w hl hf)
-- X1_goOn
theorem hd_X1_isBetter : yX1_isBetter.cls = RX1 ∧ yX1_isBetter.cls ≠ "java/lang/invoke/MethodHandle" ∧ yX1_isBetter.cls ≠ "java/lang/invoke/VarHandle" ∧ (parseMethodDescriptor yX1_isBetter.desc).map (fun d => d.parameters.length) = some 1 := by decide +kernel
theorem in_X1_goOn_X1 : ∀ w ∈ u_ws RX1 TX1 12, w ∈ wsX1_goOn := by decide +kernel
theorem fl_X1_goOn_22 : Cond.fieldLink RX1 22 "NextDoor$Search" "walk" "LNextDoor$Walk;" ∈ wsX1_goOn := by decide +kernel
theorem in_X1_goOn_X3 : ∀ w ∈ u_ws RX3 TX3 7, w ∈ wsX1_goOn := by decide +kernel
theorem fl_X1_goOn_70 : Cond.fieldLink RX1 70 "NextDoor$Walk" "heldAt" "[I" ∈ wsX1_goOn := by decide +kernel
theorem fl_X1_goOn_60 : Cond.fieldLink RX1 60 "NextDoor$Search" "wants" "I" ∈ wsX1_goOn := by decide +kernel
theorem fl_X1_goOn_82 : Cond.fieldLink RX1 82 "NextDoor$Walk" "beenAt" "[I" ∈ wsX1_goOn := by decide +kernel
theorem fl_X1_goOn_30 : Cond.fieldLink RX1 30 "NextDoor$Search" "closed" "I" ∈ wsX1_goOn := by decide +kernel
theorem hd_X1_keep : yX1_keep.cls = RX1 ∧ yX1_keep.cls ≠ "java/lang/invoke/MethodHandle" ∧ yX1_keep.cls ≠ "java/lang/invoke/VarHandle" ∧ (parseMethodDescriptor yX1_keep.desc).map (fun d => d.parameters.length) = some 1 := by decide +kernel
theorem fl_X1_goOn_18 : Cond.fieldLink RX1 18 "NextDoor$Search" "street" "LNextDoor$Street;" ∈ wsX1_goOn := by decide +kernel
theorem in_X1_goOn_X2 : ∀ w ∈ u_ws RX2 TX2 16, w ∈ wsX1_goOn := by decide +kernel
theorem fl_X1_goOn_45 : Cond.fieldLink RX1 45 "NextDoor$Street" "shops" "I" ∈ wsX1_goOn := by decide +kernel
theorem hd_X1_goOn : yX1_goOn.cls = RX1 ∧ yX1_goOn.cls ≠ "java/lang/invoke/MethodHandle" ∧ yX1_goOn.cls ≠ "java/lang/invoke/VarHandle" ∧ (parseMethodDescriptor yX1_goOn.desc).map (fun d => d.parameters.length) = some 1 := by decide +kernel
def rmX1_goOn (d : Nat) : Room := { frames := d + 3, cells := 0, slots := 0, locals := 28 * d + 112 }
set_option maxHeartbeats 4000000 in
set_option maxRecDepth 100000 in
theorem k_X1_goOn_110 {p : Program} {l : Launch} {e : Env} {s : State} {m : MethodId} {args : Array Value} {below : List Frame} {meth : Method} {c : Code} {D : va_G} {t : Nat → ClassId} {a : Nat → Nat} {X : State → Prop} {N : Nat} {d : Nat} {rc : ST → Int32 → Option ST} {S' : ST} (hX : XOk (aW 56 a) X) (E : EN p s m args meth c cX1_goOn RX1 wsX1_goOn none 4) {k72 : ST → Int32 → Int32 → Int32 → Option ST} (hrec : ∀ {S : ST} {x1 : Int32} {S' : ST}, rc S x1 = some S' → Co l yX1_goOn wsX1_goOn (rmX1_goOn d) D (cC t a) (aW 56 a) (tyC t) X [.ref (a 46), .int x1] S (Qv D (cC t a) (aW 56 a) (tyC t) S')) (hk72 : ∀ {S : ST} {x1 : Int32} {x2 : Int32} {x3 : Int32} {H : Heap} {locs : List Loc} {ls : Array Slot}, Wd D (cC t a) (aW 56 a) (tyC t) X S s H locs → lv_has ls 4 [(0, .ref (a 46)), (1, .int x1), (2, .int x2), (3, .int x3)] → k72 S x1 x2 x3 = some S' → W p l e (rmX1_goOn (d + 1)) s m args below meth c H locs 0 0 (MQ below (Qv D (cC t a) (aW 56 a) (tyC t) S') args s 0 0 (aW 56 a)) (F0 m 72 ls [])) {S : ST} {x1 : Int32} {x2 : Int32} {x3 : Int32} {H : Heap} {locs : List Loc} {ls : Array Slot} (w : Wd D (cC t a) (aW 56 a) (tyC t) X S s H locs) (hl : lv_has ls 4 [(0, .ref (a 46)), (1, .int x1), (2, .int x2), (3, .int x3)]) (hf : b_X1_goOn_110 N rc k72 S x1 x2 x3 = some S') : W p l e (rmX1_goOn (d + 1)) s m args below meth c H locs 0 0 (MQ below (Qv D (cC t a) (aW 56 a) (tyC t) S') args s 0 0 (aW 56 a)) (F0 m 110 ls []) := by
  obtain ⟨⟨hx, hb, hml, hown, hts⟩, hr, hlk⟩ := id E
  unfold b_X1_goOn_110 at hf
  refine lv_iinc (v := x3 + 1) (lv' := [(3, .int (x3 + 1)), (0, .ref (a 46)), (1, .int x1), (2, .int x2)]) hx hb dX1_goOn_110 hl (k := 3) rfl rfl (by decide) rfl (fun ls hl => ?_)
  refine lv_goto (tgt := 72) hx hb dX1_goOn_113 (by decide) ?_
  exact hk72 w (lv_sub hl [1, 2, 3, 0] rfl) hf
set_option maxHeartbeats 4000000 in
set_option maxRecDepth 100000 in
theorem k_X1_goOn_72 {p : Program} {l : Launch} {e : Env} {s : State} {m : MethodId} {args : Array Value} {below : List Frame} {meth : Method} {c : Code} {D : va_G} {t : Nat → ClassId} {a : Nat → Nat} {X : State → Prop} {N : Nat} {d : Nat} {rc : ST → Int32 → Option ST} {S' : ST} (hX : XOk (aW 56 a) X) (E : EN p s m args meth c cX1_goOn RX1 wsX1_goOn none 4) (hrec : ∀ {S : ST} {x1 : Int32} {S' : ST}, rc S x1 = some S' → Co l yX1_goOn wsX1_goOn (rmX1_goOn d) D (cC t a) (aW 56 a) (tyC t) X [.ref (a 46), .int x1] S (Qv D (cC t a) (aW 56 a) (tyC t) S')) : ∀ (n : Nat) {S : ST} {x1 : Int32} {x2 : Int32} {x3 : Int32} {H : Heap} {locs : List Loc} {ls : Array Slot}, Wd D (cC t a) (aW 56 a) (tyC t) X S s H locs → lv_has ls 4 [(0, .ref (a 46)), (1, .int x1), (2, .int x2), (3, .int x3)] → b_X1_goOn_72 N rc n S x1 x2 x3 = some S' → W p l e (rmX1_goOn (d + 1)) s m args below meth c H locs 0 0 (MQ below (Qv D (cC t a) (aW 56 a) (tyC t) S') args s 0 0 (aW 56 a)) (F0 m 72 ls []) := by
  obtain ⟨⟨hx, hb, hml, hown, hts⟩, hr, hlk⟩ := id E
  intro n
  induction n with
  | zero => intro S x1 x2 x3 H locs ls w hl hf; cases hf
  | succ n ih =>
    intro S x1 x2 x3 H locs ls w hl hf
    unfold b_X1_goOn_72 at hf
    refine lv_iload_n hx hb dX1_goOn_72 rfl (lv_at hl 3 rfl) ?_
    refine lv_aload_n hx hb dX1_goOn_73 rfl (lv_at hl 0 rfl) ?_
    refine w_get E w in_X1_goOn_X1 46 (cC_at_46 t a S) rfl 0 (by decide) fl_X1_goOn_18 rfl rfl dX1_goOn_74 ?_
    refine w_get E w in_X1_goOn_X2 0 (cC_at_0 t a S) rfl 0 (by decide) fl_X1_goOn_45 rfl rfl dX1_goOn_77 ?_
    refine lv_icmp_ge (tgt := 116) hx hb dX1_goOn_80 (by decide) (fun h14 => ?_) (fun h14 => ?_)
    · replace hf := it_t h14 hf
      exact w_retv E w hf dX1_goOn_116
    · replace hf := it_f h14 hf
      refine lv_iload_n hx hb dX1_goOn_83 rfl (lv_at hl 2 rfl) ?_
      refine lv_iload_n hx hb dX1_goOn_84 rfl (lv_at hl 3 rfl) ?_
      refine lv_ishr hx hb dX1_goOn_85 ?_
      refine lv_iconst (v := 1) hx hb dX1_goOn_86 (by decide) ?_
      refine lv_iand hx hb dX1_goOn_87 ?_
      refine lv_if_eq (tgt := 110) hx hb dX1_goOn_88 (by decide) (fun h15 => ?_) (fun h15 => ?_)
      · replace hf := it_t h15 hf
        exact k_X1_goOn_110 hX E hrec (fun w hl hf => ih w hl hf) w (lv_sub hl [0, 1, 2, 3] rfl) hf
      · replace hf := it_f h15 hf
        refine lv_aload_n hx hb dX1_goOn_91 rfl (lv_at hl 0 rfl) ?_
        refine w_get E w in_X1_goOn_X1 46 (cC_at_46 t a S) rfl 1 (by decide) fl_X1_goOn_22 rfl rfl dX1_goOn_92 ?_
        refine lv_iload_n hx hb dX1_goOn_95 rfl (lv_at hl 1 rfl) ?_
        refine lv_iload_n hx hb dX1_goOn_96 rfl (lv_at hl 3 rfl) ?_
        obtain ⟨r18, S17, h16, hf⟩ := bd2_o hf
        refine w_callVi (As := [.int x1, .int x3]) (rest := []) hX E w (c_X3_step l hX h16) (cwV 2 hts gX1_goOn_X3_step rfl rfl rfl hd_X3_step ⟨by simp only [rmX1_goOn, rmX3_step]; omega, by simp only [rmX1_goOn, rmX3_step]; omega⟩) (ci := 3) rfl (cC_at_40 t a S) rfl hl.1 rfl (Nat.le_of_ble_eq_true rfl) dX1_goOn_97 ⟨Nat.le_refl _, Nat.le_refl _⟩ (fun H locs w => ?_)
        refine lv_if_ne (tgt := 110) hx hb dX1_goOn_100 (by decide) (fun h19 => ?_) (fun h19 => ?_)
        · replace hf := it_f h19 hf
          exact k_X1_goOn_110 hX E hrec (fun w hl hf => ih w hl hf) w (lv_sub hl [0, 1, 2, 3] rfl) hf
        · replace hf := it_t h19 hf
          refine lv_aload_n hx hb dX1_goOn_103 rfl (lv_at hl 0 rfl) ?_
          refine lv_iload_n hx hb dX1_goOn_104 rfl (lv_at hl 1 rfl) ?_
          refine lv_iconst (v := 1) hx hb dX1_goOn_105 (by decide) ?_
          refine lv_iadd hx hb dX1_goOn_106 ?_
          obtain ⟨S21, h20, hf⟩ := bd1_o hf
          refine w_callVv (As := [.int (x1 + 1)]) (rest := []) hX E w (hrec h20) (cwV 1 hts gX1_goOn_X1_goOn rfl rfl rfl hd_X1_goOn ⟨by simp only [rmX1_goOn]; omega, by simp only [rmX1_goOn]; omega⟩) (ci := 1) rfl (cC_at_46 t a S17) rfl hl.1 rfl (Nat.le_of_ble_eq_true rfl) dX1_goOn_107 ⟨Nat.le_refl _, Nat.le_refl _⟩ (fun H locs w => ?_)
          exact k_X1_goOn_110 hX E hrec (fun w hl hf => ih w hl hf) w (lv_sub hl [0, 1, 2, 3] rfl) hf
set_option maxHeartbeats 4000000 in
set_option maxRecDepth 100000 in
theorem k_X1_goOn_E {p : Program} {l : Launch} {e : Env} {s : State} {m : MethodId} {args : Array Value} {below : List Frame} {meth : Method} {c : Code} {D : va_G} {t : Nat → ClassId} {a : Nat → Nat} {X : State → Prop} {N : Nat} {d : Nat} {S' : ST} (hX : XOk (aW 56 a) X) (E : EN p s m args meth c cX1_goOn RX1 wsX1_goOn none 4) (hrec : ∀ {S : ST} {x1 : Int32} {S' : ST}, f_X1_goOn N d S x1 = some S' → Co l yX1_goOn wsX1_goOn (rmX1_goOn d) D (cC t a) (aW 56 a) (tyC t) X [.ref (a 46), .int x1] S (Qv D (cC t a) (aW 56 a) (tyC t) S')) {S : ST} {x1 : Int32} {H : Heap} {locs : List Loc} {ls : Array Slot} (w : Wd D (cC t a) (aW 56 a) (tyC t) X S s H locs) (hl : lv_has ls 4 [(0, .ref (a 46)), (1, .int x1)]) (hf : f_X1_goOn N (d + 1) S x1 = some S') : W p l e (rmX1_goOn (d + 1)) s m args below meth c H locs 0 0 (MQ below (Qv D (cC t a) (aW 56 a) (tyC t) S') args s 0 0 (aW 56 a)) (F0 m 0 ls []) := by
  obtain ⟨⟨hx, hb, hml, hown, hts⟩, hr, hlk⟩ := id E
  unfold f_X1_goOn at hf
  refine lv_iload_n hx hb dX1_goOn_0 rfl (lv_at hl 1 rfl) ?_
  refine lv_bipush (v := 6) hx hb dX1_goOn_1 (by decide) ?_
  refine lv_icmp_gt (tgt := 14) hx hb dX1_goOn_3 (by decide) (fun h1 => ?_) (fun h1 => ?_)
  · replace hf := it_t h1 hf
    exact w_retv E w hf dX1_goOn_14
  · replace hf := it_f h1 hf
    refine lv_aload_n hx hb dX1_goOn_6 rfl (lv_at hl 0 rfl) ?_
    refine lv_iload_n hx hb dX1_goOn_7 rfl (lv_at hl 1 rfl) ?_
    obtain ⟨r4, S3, h2, hf⟩ := bd2_o hf
    refine w_callVi (As := [.int x1]) (rest := []) hX E w (c_X1_isBetter l hX h2) (cwV 1 hts gX1_goOn_X1_isBetter rfl rfl rfl hd_X1_isBetter ⟨by simp only [rmX1_goOn, rmX1_isBetter]; omega, by simp only [rmX1_goOn, rmX1_isBetter]; omega⟩) (ci := 1) rfl (cC_at_46 t a S) rfl hl.1 rfl (Nat.le_of_ble_eq_true rfl) dX1_goOn_8 ⟨Nat.le_refl _, Nat.le_refl _⟩ (fun H locs w => ?_)
    refine lv_if_ne (tgt := 15) hx hb dX1_goOn_11 (by decide) (fun h5 => ?_) (fun h5 => ?_)
    · replace hf := it_f h5 hf
      refine lv_aload_n hx hb dX1_goOn_15 rfl (lv_at hl 0 rfl) ?_
      refine w_get E w in_X1_goOn_X1 46 (cC_at_46 t a S3) rfl 1 (by decide) fl_X1_goOn_22 rfl rfl dX1_goOn_16 ?_
      refine w_get E w in_X1_goOn_X3 40 (cC_at_40 t a S3) rfl 3 (by decide) fl_X1_goOn_70 rfl rfl dX1_goOn_19 ?_
      refine lv_iload_n hx hb dX1_goOn_22 rfl (lv_at hl 1 rfl) ?_
      obtain ⟨h6, hf⟩ := it_n hf
      refine w_ald E w 43 0 (cC_at_43 t a S3) rfl h6 rfl dX1_goOn_23 ?_
      refine lv_aload_n hx hb dX1_goOn_24 rfl (lv_at hl 0 rfl) ?_
      refine w_get E w in_X1_goOn_X1 46 (cC_at_46 t a S3) rfl 2 (by decide) fl_X1_goOn_60 rfl rfl dX1_goOn_25 ?_
      refine lv_iand hx hb dX1_goOn_28 ?_
      refine lv_aload_n hx hb dX1_goOn_29 rfl (lv_at hl 0 rfl) ?_
      refine w_get E w in_X1_goOn_X1 46 (cC_at_46 t a S3) rfl 2 (by decide) fl_X1_goOn_60 rfl rfl dX1_goOn_30 ?_
      refine lv_icmp_ne (tgt := 42) hx hb dX1_goOn_33 (by decide) (fun h7 => ?_) (fun h7 => ?_)
      · replace hf := it_f h7 hf
        refine lv_aload_n hx hb dX1_goOn_42 rfl (lv_at hl 0 rfl) ?_
        refine w_get E w in_X1_goOn_X1 46 (cC_at_46 t a S3) rfl 1 (by decide) fl_X1_goOn_22 rfl rfl dX1_goOn_43 ?_
        refine lv_iload_n hx hb dX1_goOn_46 rfl (lv_at hl 1 rfl) ?_
        obtain ⟨r10, S9, h8, hf⟩ := bd2_o hf
        refine w_callVi (As := [.int x1]) (rest := []) hX E w (c_X3_waysOn l hX h8) (cwV 1 hts gX1_goOn_X3_waysOn rfl rfl rfl hd_X3_waysOn ⟨by simp only [rmX1_goOn, rmX3_waysOn]; omega, by simp only [rmX1_goOn, rmX3_waysOn]; omega⟩) (ci := 3) rfl (cC_at_40 t a S3) rfl hl.1 rfl (Nat.le_of_ble_eq_true rfl) dX1_goOn_47 ⟨Nat.le_refl _, Nat.le_refl _⟩ (fun H locs w => ?_)
        refine lv_aload_n hx hb dX1_goOn_50 rfl (lv_at hl 0 rfl) ?_
        refine w_get E w in_X1_goOn_X1 46 (cC_at_46 t a S9) rfl 1 (by decide) fl_X1_goOn_22 rfl rfl dX1_goOn_51 ?_
        refine w_get E w in_X1_goOn_X3 40 (cC_at_40 t a S9) rfl 2 (by decide) fl_X1_goOn_82 rfl rfl dX1_goOn_54 ?_
        refine lv_iload_n hx hb dX1_goOn_57 rfl (lv_at hl 1 rfl) ?_
        obtain ⟨h11, hf⟩ := it_n hf
        refine w_ald E w 42 0 (cC_at_42 t a S9) rfl h11 rfl dX1_goOn_58 ?_
        refine lv_iconst (v := (-1)) hx hb dX1_goOn_59 (by decide) ?_
        refine lv_ixor hx hb dX1_goOn_60 ?_
        refine lv_iand hx hb dX1_goOn_61 ?_
        refine lv_aload_n hx hb dX1_goOn_62 rfl (lv_at hl 0 rfl) ?_
        refine w_get E w in_X1_goOn_X1 46 (cC_at_46 t a S9) rfl 3 (by decide) fl_X1_goOn_30 rfl rfl dX1_goOn_63 ?_
        refine lv_iconst (v := (-1)) hx hb dX1_goOn_66 (by decide) ?_
        refine lv_ixor hx hb dX1_goOn_67 ?_
        refine lv_iand hx hb dX1_goOn_68 ?_
        refine lv_istore_n (lv' := [(2, .int ((r10 &&& ((S9 42 x1.toNatClampNeg) ^^^ (-1))) &&& ((S9 46 3) ^^^ (-1)))), (0, .ref (a 46)), (1, .int x1)]) hx hb dX1_goOn_69 rfl hl (by decide) rfl (fun ls hl => ?_)
        refine lv_iconst (v := 0) hx hb dX1_goOn_70 (by decide) ?_
        refine lv_istore_n (lv' := [(3, .int 0), (2, .int ((r10 &&& ((S9 42 x1.toNatClampNeg) ^^^ (-1))) &&& ((S9 46 3) ^^^ (-1)))), (0, .ref (a 46)), (1, .int x1)]) hx hb dX1_goOn_71 rfl hl (by decide) rfl (fun ls hl => ?_)
        exact k_X1_goOn_72 hX E hrec N w (lv_sub hl [2, 3, 1, 0] rfl) hf
      · replace hf := it_t h7 hf
        refine lv_aload_n hx hb dX1_goOn_36 rfl (lv_at hl 0 rfl) ?_
        refine lv_iload_n hx hb dX1_goOn_37 rfl (lv_at hl 1 rfl) ?_
        obtain ⟨S13, h12, hf⟩ := bd1_o hf
        refine w_callVv (As := [.int x1]) (rest := []) hX E w (c_X1_keep l hX h12) (cwV 1 hts gX1_goOn_X1_keep rfl rfl rfl hd_X1_keep ⟨by simp only [rmX1_goOn, rmX1_keep]; omega, by simp only [rmX1_goOn, rmX1_keep]; omega⟩) (ci := 1) rfl (cC_at_46 t a S3) rfl hl.1 rfl (Nat.le_of_ble_eq_true rfl) dX1_goOn_38 ⟨Nat.le_refl _, Nat.le_refl _⟩ (fun H locs w => ?_)
        exact w_retv E w hf dX1_goOn_41
    · replace hf := it_t h5 hf
      exact w_retv E w hf dX1_goOn_14
theorem c_X1_goOn (l : Launch) {D : va_G} {t : Nat → ClassId} {a : Nat → Nat} {X : State → Prop} (hX : XOk (aW 56 a) X) {N : Nat} : ∀ (d : Nat) {S : ST} {x1 : Int32} {S' : ST}, f_X1_goOn N d S x1 = some S' → Co l yX1_goOn wsX1_goOn (rmX1_goOn d) D (cC t a) (aW 56 a) (tyC t) X [.ref (a 46), .int x1] S (Qv D (cC t a) (aW 56 a) (tyC t) S') := by
  intro d
  induction d with
  | zero => intro S x1 S' hf; cases hf
  | succ d ih =>
    intro S x1 S' hf
    exact co_of (cc := cX1_goOn) (maxL := 4) (ret := none) (lv := [(0, .ref (a 46)), (1, .int x1)]) (by decide) rfl rfl (Nat.le_of_ble_eq_true rfl) rfl rfl (fun p e s m below meth c ls E hl w => k_X1_goOn_E hX E ih w hl hf)
-- X1_findCheapest
theorem in_X1_findCheapest_X1 : ∀ w ∈ u_ws RX1 TX1 12, w ∈ wsX1_findCheapest := by decide +kernel
theorem fl_X1_findCheapest_26 : Cond.fieldLink RX1 26 "NextDoor$Search" "byMinute" "Z" ∈ wsX1_findCheapest := by decide +kernel
theorem fl_X1_findCheapest_30 : Cond.fieldLink RX1 30 "NextDoor$Search" "closed" "I" ∈ wsX1_findCheapest := by decide +kernel
theorem hd_X1_expect : yX1_expect.cls = RX1 ∧ yX1_expect.cls ≠ "java/lang/invoke/MethodHandle" ∧ yX1_expect.cls ≠ "java/lang/invoke/VarHandle" ∧ (parseMethodDescriptor yX1_expect.desc).map (fun d => d.parameters.length) = some 2 := by decide +kernel
theorem fl_X1_findCheapest_42 : Cond.fieldLink RX1 42 "NextDoor$Search" "found" "Z" ∈ wsX1_findCheapest := by decide +kernel
abbrev rmX1_findCheapest : Room := { frames := 12, cells := 0, slots := 0, locals := 359 }
set_option maxHeartbeats 4000000 in
set_option maxRecDepth 100000 in
theorem k_X1_findCheapest_E {p : Program} {l : Launch} {e : Env} {s : State} {m : MethodId} {args : Array Value} {below : List Frame} {meth : Method} {c : Code} {D : va_G} {t : Nat → ClassId} {a : Nat → Nat} {X : State → Prop} {N : Nat} {r : Int32} {S' : ST} (hX : XOk (aW 56 a) X) (E : EN p s m args meth c cX1_findCheapest RX1 wsX1_findCheapest (some .boolean) 4) {S : ST} {x1 : Int32} {x2 : Int32} {x3 : Int32} {H : Heap} {locs : List Loc} {ls : Array Slot} (w : Wd D (cC t a) (aW 56 a) (tyC t) X S s H locs) (hl : lv_has ls 4 [(0, .ref (a 46)), (1, .int x1), (2, .int x2), (3, .int x3)]) (hf : f_X1_findCheapest N S x1 x2 x3 = some (r, S')) : W p l e rmX1_findCheapest s m args below meth c H locs 0 0 (MQ below (Qi D (cC t a) (aW 56 a) (tyC t) r S') args s 0 0 (aW 56 a)) (F0 m 0 ls []) := by
  obtain ⟨⟨hx, hb, hml, hown, hts⟩, hr, hlk⟩ := id E
  unfold f_X1_findCheapest at hf
  refine lv_aload_n hx hb dX1_findCheapest_0 rfl (lv_at hl 0 rfl) ?_
  refine lv_iconst (v := 0) hx hb dX1_findCheapest_1 (by decide) ?_
  obtain ⟨S1, eS1, hf⟩ := nm_o hf
  refine w_put (S1 := S1) E w in_X1_findCheapest_X1 tyX1 tyX1_ok nmX1 46 (cC_at_46 t a S) rfl 4 (by decide) fl_X1_findCheapest_26 rfl rfl rfl (nar_z (by decide)) (by decide) (Nat.le_of_ble_eq_true rfl) ((cC_set_46_4 t a S 0).trans (congrArg (cC t a) eS1.symm)) dX1_findCheapest_2 (fun H locs w => ?_)
  refine lv_aload_n hx hb dX1_findCheapest_5 rfl (lv_at hl 0 rfl) ?_
  refine lv_iload_n hx hb dX1_findCheapest_6 rfl (lv_at hl 3 rfl) ?_
  obtain ⟨S2, eS2, hf⟩ := nm_o hf
  refine w_put (S1 := S2) E w in_X1_findCheapest_X1 tyX1 tyX1_ok nmX1 46 (cC_at_46 t a S1) rfl 3 (by decide) fl_X1_findCheapest_30 rfl rfl rfl rfl rfl (Nat.le_of_ble_eq_true rfl) ((cC_set_46_3 t a S1 x3).trans (congrArg (cC t a) eS2.symm)) dX1_findCheapest_7 (fun H locs w => ?_)
  refine lv_aload_n hx hb dX1_findCheapest_10 rfl (lv_at hl 0 rfl) ?_
  refine lv_iload_n hx hb dX1_findCheapest_11 rfl (lv_at hl 1 rfl) ?_
  refine lv_iload_n hx hb dX1_findCheapest_12 rfl (lv_at hl 2 rfl) ?_
  obtain ⟨S4, h3, hf⟩ := bd1_o hf
  refine w_callVv (As := [.int x1, .int x2]) (rest := []) hX E w (c_X1_expect l hX h3) (cwV 2 hts gX1_findCheapest_X1_expect rfl rfl rfl hd_X1_expect ⟨Nat.le_of_ble_eq_true rfl, Nat.le_of_ble_eq_true rfl⟩) (ci := 1) rfl (cC_at_46 t a S2) rfl hl.1 rfl (Nat.le_of_ble_eq_true rfl) dX1_findCheapest_13 ⟨Nat.le_refl _, Nat.le_refl _⟩ (fun H locs w => ?_)
  refine lv_aload_n hx hb dX1_findCheapest_16 rfl (lv_at hl 0 rfl) ?_
  refine lv_iconst (v := 0) hx hb dX1_findCheapest_17 (by decide) ?_
  obtain ⟨S6, h5, hf⟩ := bd1_o hf
  refine w_callVv (As := [.int 0]) (rest := []) hX E w (c_X1_goOn l hX 8 h5) (cwV 1 hts gX1_findCheapest_X1_goOn rfl rfl rfl hd_X1_goOn ⟨Nat.le_of_ble_eq_true rfl, Nat.le_of_ble_eq_true rfl⟩) (ci := 1) rfl (cC_at_46 t a S4) rfl hl.1 rfl (Nat.le_of_ble_eq_true rfl) dX1_findCheapest_18 ⟨Nat.le_refl _, Nat.le_refl _⟩ (fun H locs w => ?_)
  refine lv_aload_n hx hb dX1_findCheapest_21 rfl (lv_at hl 0 rfl) ?_
  refine w_get E w in_X1_findCheapest_X1 46 (cC_at_46 t a S6) rfl 5 (by decide) fl_X1_findCheapest_42 rfl rfl dX1_findCheapest_22 ?_
  obtain ⟨h7, hf⟩ := it_s hf
  exact w_retz E w h7 hf dX1_findCheapest_25
theorem c_X1_findCheapest (l : Launch) {D : va_G} {t : Nat → ClassId} {a : Nat → Nat} {X : State → Prop} (hX : XOk (aW 56 a) X) {N : Nat} {S : ST} {x1 : Int32} {x2 : Int32} {x3 : Int32} {r : Int32} {S' : ST} (hf : f_X1_findCheapest N S x1 x2 x3 = some (r, S')) : Co l yX1_findCheapest wsX1_findCheapest rmX1_findCheapest D (cC t a) (aW 56 a) (tyC t) X [.ref (a 46), .int x1, .int x2, .int x3] S (Qi D (cC t a) (aW 56 a) (tyC t) r S') :=
  co_of (cc := cX1_findCheapest) (maxL := 4) (ret := (some .boolean)) (lv := [(0, .ref (a 46)), (1, .int x1), (2, .int x2), (3, .int x3)]) (by decide) rfl rfl (Nat.le_of_ble_eq_true rfl) rfl rfl (fun p e s m below meth c ls E hl w => k_X1_findCheapest_E hX E w hl hf)
-- X4_cheapest
theorem hd_X4_areGoods : yX4_areGoods.cls = RX4 ∧ yX4_areGoods.cls ≠ "java/lang/invoke/MethodHandle" ∧ yX4_areGoods.cls ≠ "java/lang/invoke/VarHandle" ∧ (parseMethodDescriptor yX4_areGoods.desc).map (fun d => d.parameters.length) = some 1 := by decide +kernel
theorem in_X4_cheapest_X4 : ∀ w ∈ u_ws RX4 TX4 9, w ∈ wsX4_cheapest := by decide +kernel
theorem fl_X4_cheapest_38 : Cond.fieldLink RX4 38 "NextDoor" "search" "LNextDoor$Search;" ∈ wsX4_cheapest := by decide +kernel
theorem fl_X4_cheapest_10 : Cond.fieldLink RX4 10 "NextDoor" "street" "LNextDoor$Street;" ∈ wsX4_cheapest := by decide +kernel
theorem in_X4_cheapest_X2 : ∀ w ∈ u_ws RX2 TX2 16, w ∈ wsX4_cheapest := by decide +kernel
theorem fl_X4_cheapest_94 : Cond.fieldLink RX4 94 "NextDoor$Street" "purse" "I" ∈ wsX4_cheapest := by decide +kernel
theorem hd_X1_findCheapest : yX1_findCheapest.cls = RX1 ∧ yX1_findCheapest.cls ≠ "java/lang/invoke/MethodHandle" ∧ yX1_findCheapest.cls ≠ "java/lang/invoke/VarHandle" ∧ (parseMethodDescriptor yX1_findCheapest.desc).map (fun d => d.parameters.length) = some 3 := by decide +kernel
theorem in_X4_cheapest_X1 : ∀ w ∈ u_ws RX1 TX1 12, w ∈ wsX4_cheapest := by decide +kernel
theorem fl_X4_cheapest_147 : Cond.fieldLink RX4 147 "NextDoor$Search" "minute" "I" ∈ wsX4_cheapest := by decide +kernel
theorem fl_X4_cheapest_146 : Cond.fieldLink RX4 146 "NextDoor$Search" "length" "I" ∈ wsX4_cheapest := by decide +kernel
theorem fl_X4_cheapest_143 : Cond.fieldLink RX4 143 "NextDoor$Search" "paid" "I" ∈ wsX4_cheapest := by decide +kernel
abbrev rmX4_cheapest : Room := { frames := 13, cells := 0, slots := 0, locals := 382 }
set_option maxHeartbeats 4000000 in
set_option maxRecDepth 100000 in
theorem k_X4_cheapest_17 {p : Program} {l : Launch} {e : Env} {s : State} {m : MethodId} {args : Array Value} {below : List Frame} {meth : Method} {c : Code} {D : va_G} {t : Nat → ClassId} {a : Nat → Nat} {X : State → Prop} {N : Nat} {r : Int32} {S' : ST} (hX : XOk (aW 56 a) X) (E : EN p s m args meth c cX4_cheapest RX4 wsX4_cheapest (some .int) 3) {S : ST} {H : Heap} {locs : List Loc} {ls : Array Slot} (w : Wd D (cC t a) (aW 56 a) (tyC t) X S s H locs) (hl : lv_has ls 3 [(0, .ref (a 50))]) (hf : b_X4_cheapest_17 N S = some (r, S')) : W p l e rmX4_cheapest s m args below meth c H locs 0 0 (MQ below (Qi D (cC t a) (aW 56 a) (tyC t) r S') args s 0 0 (aW 56 a)) (F0 m 17 ls []) := by
  obtain ⟨⟨hx, hb, hml, hown, hts⟩, hr, hlk⟩ := id E
  unfold b_X4_cheapest_17 at hf
  refine lv_aload_n hx hb dX4_cheapest_17 rfl (lv_at hl 0 rfl) ?_
  refine lv_bipush (v := (-2)) hx hb dX4_cheapest_18 (by decide) ?_
  refine lv_bipush (v := (-2)) hx hb dX4_cheapest_20 (by decide) ?_
  obtain ⟨r17, S16, h15, hf⟩ := bd2_o hf
  refine w_callVi (As := [.int (-2), .int (-2)]) (rest := []) hX E w (c_X4_refuse l hX h15) (cwV 2 hts gX4_cheapest_X4_refuse rfl rfl rfl hd_X4_refuse ⟨Nat.le_of_ble_eq_true rfl, Nat.le_of_ble_eq_true rfl⟩) (ci := 4) rfl (cC_at_50 t a S) rfl hl.1 rfl (Nat.le_of_ble_eq_true rfl) dX4_cheapest_22 ⟨Nat.le_refl _, Nat.le_refl _⟩ (fun H locs w => ?_)
  exact w_reti E w hf dX4_cheapest_25
set_option maxHeartbeats 4000000 in
set_option maxRecDepth 100000 in
theorem k_X4_cheapest_E {p : Program} {l : Launch} {e : Env} {s : State} {m : MethodId} {args : Array Value} {below : List Frame} {meth : Method} {c : Code} {D : va_G} {t : Nat → ClassId} {a : Nat → Nat} {X : State → Prop} {N : Nat} {r : Int32} {S' : ST} (hX : XOk (aW 56 a) X) (E : EN p s m args meth c cX4_cheapest RX4 wsX4_cheapest (some .int) 3) {S : ST} {x1 : Int32} {x2 : Int32} {H : Heap} {locs : List Loc} {ls : Array Slot} (w : Wd D (cC t a) (aW 56 a) (tyC t) X S s H locs) (hl : lv_has ls 3 [(0, .ref (a 50)), (1, .int x1), (2, .int x2)]) (hf : f_X4_cheapest N S x1 x2 = some (r, S')) : W p l e rmX4_cheapest s m args below meth c H locs 0 0 (MQ below (Qi D (cC t a) (aW 56 a) (tyC t) r S') args s 0 0 (aW 56 a)) (F0 m 0 ls []) := by
  obtain ⟨⟨hx, hb, hml, hown, hts⟩, hr, hlk⟩ := id E
  unfold f_X4_cheapest at hf
  refine lv_aload_n hx hb dX4_cheapest_0 rfl (lv_at hl 0 rfl) ?_
  refine lv_iload_n hx hb dX4_cheapest_1 rfl (lv_at hl 1 rfl) ?_
  obtain ⟨r3, S2, h1, hf⟩ := bd2_o hf
  refine w_callVi (As := [.int x1]) (rest := []) hX E w (c_X4_areGoods l hX h1) (cwV 1 hts gX4_cheapest_X4_areGoods rfl rfl rfl hd_X4_areGoods ⟨Nat.le_of_ble_eq_true rfl, Nat.le_of_ble_eq_true rfl⟩) (ci := 4) rfl (cC_at_50 t a S) rfl hl.1 rfl (Nat.le_of_ble_eq_true rfl) dX4_cheapest_2 ⟨Nat.le_refl _, Nat.le_refl _⟩ (fun H locs w => ?_)
  refine lv_if_eq (tgt := 17) hx hb dX4_cheapest_5 (by decide) (fun h4 => ?_) (fun h4 => ?_)
  · replace hf := it_t h4 hf
    exact k_X4_cheapest_17 hX E w (lv_sub hl [0] rfl) hf
  · replace hf := it_f h4 hf
    refine lv_iload_n hx hb dX4_cheapest_8 rfl (lv_at hl 2 rfl) ?_
    refine lv_iconst (v := 0) hx hb dX4_cheapest_9 (by decide) ?_
    refine lv_iconst (v := 2) hx hb dX4_cheapest_10 (by decide) ?_
    obtain ⟨r7, S6, h5, hf⟩ := bd2_o hf
    refine w_callSi (As := [.int x2, .int 0, .int 2]) (rest := []) hX E w (c_X4_isIn l hX h5) (va_cwS 3 hts gX4_cheapest_X4_isIn rfl rfl rfl hd_X4_isIn ⟨Nat.le_of_ble_eq_true rfl, Nat.le_of_ble_eq_true rfl⟩) rfl hl.1 rfl (Nat.le_of_ble_eq_true rfl) dX4_cheapest_11 ⟨Nat.le_refl _, Nat.le_refl _⟩ (fun H locs w => ?_)
    refine lv_if_ne (tgt := 26) hx hb dX4_cheapest_14 (by decide) (fun h8 => ?_) (fun h8 => ?_)
    · replace hf := it_f h8 hf
      refine lv_aload_n hx hb dX4_cheapest_26 rfl (lv_at hl 0 rfl) ?_
      refine w_get E w in_X4_cheapest_X4 50 (cC_at_50 t a S6) rfl 4 (by decide) fl_X4_cheapest_38 rfl rfl dX4_cheapest_27 ?_
      refine lv_iload_n hx hb dX4_cheapest_30 rfl (lv_at hl 1 rfl) ?_
      refine lv_aload_n hx hb dX4_cheapest_31 rfl (lv_at hl 0 rfl) ?_
      refine w_get E w in_X4_cheapest_X4 50 (cC_at_50 t a S6) rfl 0 (by decide) fl_X4_cheapest_10 rfl rfl dX4_cheapest_32 ?_
      refine w_get E w in_X4_cheapest_X2 0 (cC_at_0 t a S6) rfl 7 (by decide) fl_X4_cheapest_94 rfl rfl dX4_cheapest_35 ?_
      refine lv_iconst (v := 0) hx hb dX4_cheapest_38 (by decide) ?_
      obtain ⟨r11, S10, h9, hf⟩ := bd2_o hf
      refine w_callVi (As := [.int x1, .int (S6 0 7), .int 0]) (rest := []) hX E w (c_X1_findCheapest l hX h9) (cwV 3 hts gX4_cheapest_X1_findCheapest rfl rfl rfl hd_X1_findCheapest ⟨Nat.le_of_ble_eq_true rfl, Nat.le_of_ble_eq_true rfl⟩) (ci := 1) rfl (cC_at_46 t a S6) rfl hl.1 rfl (Nat.le_of_ble_eq_true rfl) dX4_cheapest_39 ⟨Nat.le_refl _, Nat.le_refl _⟩ (fun H locs w => ?_)
      refine lv_if_ne (tgt := 47) hx hb dX4_cheapest_42 (by decide) (fun h12 => ?_) (fun h12 => ?_)
      · replace hf := it_f h12 hf
        refine lv_iload_n hx hb dX4_cheapest_47 rfl (lv_at hl 2 rfl) ?_
        refine lv_if_ne (tgt := 59) hx hb dX4_cheapest_48 (by decide) (fun h13 => ?_) (fun h13 => ?_)
        · replace hf := it_f h13 hf
          refine lv_iload_n hx hb dX4_cheapest_59 rfl (lv_at hl 2 rfl) ?_
          refine lv_iconst (v := 1) hx hb dX4_cheapest_60 (by decide) ?_
          refine lv_icmp_ne (tgt := 74) hx hb dX4_cheapest_61 (by decide) (fun h14 => ?_) (fun h14 => ?_)
          · replace hf := it_f h14 hf
            refine lv_aload_n hx hb dX4_cheapest_74 rfl (lv_at hl 0 rfl) ?_
            refine w_get E w in_X4_cheapest_X4 50 (cC_at_50 t a S10) rfl 4 (by decide) fl_X4_cheapest_38 rfl rfl dX4_cheapest_75 ?_
            refine w_get E w in_X4_cheapest_X1 46 (cC_at_46 t a S10) rfl 9 (by decide) fl_X4_cheapest_147 rfl rfl dX4_cheapest_78 ?_
            exact w_reti E w hf dX4_cheapest_81
          · replace hf := it_t h14 hf
            refine lv_aload_n hx hb dX4_cheapest_64 rfl (lv_at hl 0 rfl) ?_
            refine w_get E w in_X4_cheapest_X4 50 (cC_at_50 t a S10) rfl 4 (by decide) fl_X4_cheapest_38 rfl rfl dX4_cheapest_65 ?_
            refine w_get E w in_X4_cheapest_X1 46 (cC_at_46 t a S10) rfl 7 (by decide) fl_X4_cheapest_146 rfl rfl dX4_cheapest_68 ?_
            refine lv_goto (tgt := 81) hx hb dX4_cheapest_71 (by decide) ?_
            exact w_reti E w hf dX4_cheapest_81
        · replace hf := it_t h13 hf
          refine lv_aload_n hx hb dX4_cheapest_51 rfl (lv_at hl 0 rfl) ?_
          refine w_get E w in_X4_cheapest_X4 50 (cC_at_50 t a S10) rfl 4 (by decide) fl_X4_cheapest_38 rfl rfl dX4_cheapest_52 ?_
          refine w_get E w in_X4_cheapest_X1 46 (cC_at_46 t a S10) rfl 8 (by decide) fl_X4_cheapest_143 rfl rfl dX4_cheapest_55 ?_
          exact w_reti E w hf dX4_cheapest_58
      · replace hf := it_t h12 hf
        refine lv_iconst (v := (-1)) hx hb dX4_cheapest_45 (by decide) ?_
        exact w_reti E w hf dX4_cheapest_46
    · replace hf := it_t h8 hf
      exact k_X4_cheapest_17 hX E w (lv_sub hl [0] rfl) hf
theorem c_X4_cheapest (l : Launch) {D : va_G} {t : Nat → ClassId} {a : Nat → Nat} {X : State → Prop} (hX : XOk (aW 56 a) X) {N : Nat} {S : ST} {x1 : Int32} {x2 : Int32} {r : Int32} {S' : ST} (hf : f_X4_cheapest N S x1 x2 = some (r, S')) : Co l yX4_cheapest wsX4_cheapest rmX4_cheapest D (cC t a) (aW 56 a) (tyC t) X [.ref (a 50), .int x1, .int x2] S (Qi D (cC t a) (aW 56 a) (tyC t) r S') :=
  co_of (cc := cX4_cheapest) (maxL := 3) (ret := (some .int)) (lv := [(0, .ref (a 50)), (1, .int x1), (2, .int x2)]) (by decide) rfl rfl (Nat.le_of_ble_eq_true rfl) rfl rfl (fun p e s m below meth c ls E hl w => k_X4_cheapest_E hX E w hl hf)
