-- X4_takenBy
theorem in_X4_takenBy_X4 : ∀ w ∈ u_ws RX4 TX4 9, w ∈ wsX4_takenBy := by decide +kernel
theorem fl_X4_takenBy_10 : Cond.fieldLink RX4 10 "NextDoor" "street" "LNextDoor$Street;" ∈ wsX4_takenBy := by decide +kernel
theorem in_X4_takenBy_X2 : ∀ w ∈ u_ws RX2 TX2 16, w ∈ wsX4_takenBy := by decide +kernel
theorem fl_X4_takenBy_164 : Cond.fieldLink RX4 164 "NextDoor$Street" "buyers" "I" ∈ wsX4_takenBy := by decide +kernel
theorem fl_X4_takenBy_170 : Cond.fieldLink RX4 170 "NextDoor$Street" "limit" "[I" ∈ wsX4_takenBy := by decide +kernel
theorem fl_X4_takenBy_94 : Cond.fieldLink RX4 94 "NextDoor$Street" "purse" "I" ∈ wsX4_takenBy := by decide +kernel
theorem mi1_X4_takenBy : Cond.methodLink RX4 226 Lib.Math.min.name ∈ wsX4_takenBy := by decide +kernel
theorem mi2_X4_takenBy : Cond.static Lib.Math.min.name ∈ wsX4_takenBy := by decide +kernel
theorem mi3_X4_takenBy : Cond.initialized "java/lang/Math" ∈ wsX4_takenBy := by decide +kernel
theorem mi4_X4_takenBy : Cond.code Lib.Math.min.name Lib.Math.min.code 2 (some .int) ∈ wsX4_takenBy := by decide +kernel
theorem fl_X4_takenBy_38 : Cond.fieldLink RX4 38 "NextDoor" "search" "LNextDoor$Search;" ∈ wsX4_takenBy := by decide +kernel
theorem fl_X4_takenBy_167 : Cond.fieldLink RX4 167 "NextDoor$Street" "want" "[I" ∈ wsX4_takenBy := by decide +kernel
theorem hd_X1_paidTo : yX1_paidTo.cls = RX1 ∧ yX1_paidTo.cls ≠ "java/lang/invoke/MethodHandle" ∧ yX1_paidTo.cls ≠ "java/lang/invoke/VarHandle" ∧ (parseMethodDescriptor yX1_paidTo.desc).map (fun d => d.parameters.length) = some 1 := by decide +kernel
abbrev rmX4_takenBy : Room := { frames := 13, cells := 0, slots := 0, locals := 382 }
set_option maxHeartbeats 4000000 in
set_option maxRecDepth 100000 in
theorem k_X4_takenBy_71 {p : Program} {l : Launch} {e : Env} {s : State} {m : MethodId} {args : Array Value} {below : List Frame} {meth : Method} {c : Code} {D : va_G} {t : Nat → ClassId} {a : Nat → Nat} {X : State → Prop} {N : Nat} {r : Int32} {S' : ST} (hX : XOk (aW 56 a) X) (E : EN p s m args meth c cX4_takenBy RX4 wsX4_takenBy (some .int) 5) {k4 : ST → Int32 → Int32 → Int32 → Option (Int32 × ST)} (hk4 : ∀ {S : ST} {x1 : Int32} {x2 : Int32} {x3 : Int32} {H : Heap} {locs : List Loc} {ls : Array Slot}, Wd D (cC t a) (aW 56 a) (tyC t) X S s H locs → lv_has ls 5 [(0, .ref (a 50)), (1, .int x1), (2, .int x2), (3, .int x3)] → k4 S x1 x2 x3 = some (r, S') → W p l e rmX4_takenBy s m args below meth c H locs 0 0 (MQ below (Qi D (cC t a) (aW 56 a) (tyC t) r S') args s 0 0 (aW 56 a)) (F0 m 4 ls [])) {S : ST} {x1 : Int32} {x2 : Int32} {x3 : Int32} {H : Heap} {locs : List Loc} {ls : Array Slot} (w : Wd D (cC t a) (aW 56 a) (tyC t) X S s H locs) (hl : lv_has ls 5 [(0, .ref (a 50)), (1, .int x1), (2, .int x2), (3, .int x3)]) (hf : b_X4_takenBy_71 N k4 S x1 x2 x3 = some (r, S')) : W p l e rmX4_takenBy s m args below meth c H locs 0 0 (MQ below (Qi D (cC t a) (aW 56 a) (tyC t) r S') args s 0 0 (aW 56 a)) (F0 m 71 ls []) := by
  obtain ⟨⟨hx, hb, hml, hown, hts⟩, hr, hlk⟩ := id E
  unfold b_X4_takenBy_71 at hf
  refine lv_iinc (v := x3 + 1) (lv' := [(3, .int (x3 + 1)), (0, .ref (a 50)), (1, .int x1), (2, .int x2)]) hx hb dX4_takenBy_71 hl (k := 3) rfl rfl (by decide) rfl (fun ls hl => ?_)
  refine lv_goto (tgt := 4) hx hb dX4_takenBy_74 (by decide) ?_
  exact hk4 w (lv_sub hl [1, 2, 3, 0] rfl) hf
set_option maxHeartbeats 4000000 in
set_option maxRecDepth 100000 in
theorem k_X4_takenBy_4 {p : Program} {l : Launch} {e : Env} {s : State} {m : MethodId} {args : Array Value} {below : List Frame} {meth : Method} {c : Code} {D : va_G} {t : Nat → ClassId} {a : Nat → Nat} {X : State → Prop} {N : Nat} {r : Int32} {S' : ST} (hX : XOk (aW 56 a) X) (E : EN p s m args meth c cX4_takenBy RX4 wsX4_takenBy (some .int) 5) : ∀ (n : Nat) {S : ST} {x1 : Int32} {x2 : Int32} {x3 : Int32} {H : Heap} {locs : List Loc} {ls : Array Slot}, Wd D (cC t a) (aW 56 a) (tyC t) X S s H locs → lv_has ls 5 [(0, .ref (a 50)), (1, .int x1), (2, .int x2), (3, .int x3)] → b_X4_takenBy_4 N n S x1 x2 x3 = some (r, S') → W p l e rmX4_takenBy s m args below meth c H locs 0 0 (MQ below (Qi D (cC t a) (aW 56 a) (tyC t) r S') args s 0 0 (aW 56 a)) (F0 m 4 ls []) := by
  obtain ⟨⟨hx, hb, hml, hown, hts⟩, hr, hlk⟩ := id E
  intro n
  induction n with
  | zero => intro S x1 x2 x3 H locs ls w hl hf; cases hf
  | succ n ih =>
    intro S x1 x2 x3 H locs ls w hl hf
    unfold b_X4_takenBy_4 at hf
    refine lv_iload_n hx hb dX4_takenBy_4 rfl (lv_at hl 3 rfl) ?_
    refine lv_aload_n hx hb dX4_takenBy_5 rfl (lv_at hl 0 rfl) ?_
    refine w_get E w in_X4_takenBy_X4 50 (cC_at_50 t a S) rfl 0 (by decide) fl_X4_takenBy_10 rfl rfl dX4_takenBy_6 ?_
    refine w_get E w in_X4_takenBy_X2 0 (cC_at_0 t a S) rfl 13 (by decide) fl_X4_takenBy_164 rfl rfl dX4_takenBy_9 ?_
    refine lv_icmp_ge (tgt := 77) hx hb dX4_takenBy_12 (by decide) (fun h1 => ?_) (fun h1 => ?_)
    · replace hf := it_t h1 hf
      refine lv_iload_n hx hb dX4_takenBy_77 rfl (lv_at hl 2 rfl) ?_
      exact w_reti E w hf dX4_takenBy_78
    · replace hf := it_f h1 hf
      refine lv_aload_n hx hb dX4_takenBy_15 rfl (lv_at hl 0 rfl) ?_
      refine w_get E w in_X4_takenBy_X4 50 (cC_at_50 t a S) rfl 0 (by decide) fl_X4_takenBy_10 rfl rfl dX4_takenBy_16 ?_
      refine w_get E w in_X4_takenBy_X2 0 (cC_at_0 t a S) rfl 15 (by decide) fl_X4_takenBy_170 rfl rfl dX4_takenBy_19 ?_
      refine lv_iload_n hx hb dX4_takenBy_22 rfl (lv_at hl 3 rfl) ?_
      obtain ⟨h2, hf⟩ := it_n hf
      refine w_ald E w 9 0 (cC_at_9 t a S) rfl h2 rfl dX4_takenBy_23 ?_
      refine lv_aload_n hx hb dX4_takenBy_24 rfl (lv_at hl 0 rfl) ?_
      refine w_get E w in_X4_takenBy_X4 50 (cC_at_50 t a S) rfl 0 (by decide) fl_X4_takenBy_10 rfl rfl dX4_takenBy_25 ?_
      refine w_get E w in_X4_takenBy_X2 0 (cC_at_0 t a S) rfl 7 (by decide) fl_X4_takenBy_94 rfl rfl dX4_takenBy_28 ?_
      refine w_min E mi1_X4_takenBy mi2_X4_takenBy mi3_X4_takenBy mi4_X4_takenBy hl.1 (Nat.le_of_ble_eq_true rfl) (Nat.le_of_ble_eq_true rfl) (Nat.le_refl _) (Nat.le_refl _) dX4_takenBy_31 ?_
      refine lv_istore (lv' := [(4, .int (if (S 0 7) < (S 9 x3.toNatClampNeg) then (S 0 7) else (S 9 x3.toNatClampNeg))), (0, .ref (a 50)), (1, .int x1), (2, .int x2), (3, .int x3)]) hx hb dX4_takenBy_34 hl (by decide) rfl (fun ls hl => ?_)
      refine lv_aload_n hx hb dX4_takenBy_36 rfl (lv_at hl 1 rfl) ?_
      refine w_get E w in_X4_takenBy_X4 50 (cC_at_50 t a S) rfl 4 (by decide) fl_X4_takenBy_38 rfl rfl dX4_takenBy_37 ?_
      refine lv_iconst (v := 1) hx hb dX4_takenBy_40 (by decide) ?_
      refine lv_aload_n hx hb dX4_takenBy_41 rfl (lv_at hl 1 rfl) ?_
      refine w_get E w in_X4_takenBy_X4 50 (cC_at_50 t a S) rfl 0 (by decide) fl_X4_takenBy_10 rfl rfl dX4_takenBy_42 ?_
      refine w_get E w in_X4_takenBy_X2 0 (cC_at_0 t a S) rfl 14 (by decide) fl_X4_takenBy_167 rfl rfl dX4_takenBy_45 ?_
      refine lv_iload_n hx hb dX4_takenBy_48 rfl (lv_at hl 4 rfl) ?_
      obtain ⟨h3, hf⟩ := it_n hf
      refine w_ald E w 8 0 (cC_at_8 t a S) rfl h3 rfl dX4_takenBy_49 ?_
      refine lv_ishl hx hb dX4_takenBy_50 ?_
      refine lv_iload hx hb dX4_takenBy_51 (lv_at hl 0 rfl) ?_
      refine lv_iconst (v := 0) hx hb dX4_takenBy_53 (by decide) ?_
      obtain ⟨r6, S5, h4, hf⟩ := bd2_o hf
      refine w_callVi (As := [.int (1 <<< ((S 8 x3.toNatClampNeg) &&& 31)), .int (if (S 0 7) < (S 9 x3.toNatClampNeg) then (S 0 7) else (S 9 x3.toNatClampNeg)), .int 0]) (rest := []) hX E w (c_X1_findCheapest l hX h4) (cwV 3 hts gX4_takenBy_X1_findCheapest rfl rfl rfl hd_X1_findCheapest ⟨Nat.le_of_ble_eq_true rfl, Nat.le_of_ble_eq_true rfl⟩) (ci := 1) rfl (cC_at_46 t a S) rfl hl.1 rfl (Nat.le_of_ble_eq_true rfl) dX4_takenBy_54 ⟨Nat.le_refl _, Nat.le_refl _⟩ (fun H locs w => ?_)
      refine lv_if_eq (tgt := 71) hx hb dX4_takenBy_57 (by decide) (fun h7 => ?_) (fun h7 => ?_)
      · replace hf := it_t h7 hf
        exact k_X4_takenBy_71 hX E (fun w hl hf => ih w hl hf) w (lv_sub hl [1, 2, 3, 4] rfl) hf
      · replace hf := it_f h7 hf
        refine lv_iload_n hx hb dX4_takenBy_60 rfl (lv_at hl 3 rfl) ?_
        refine lv_aload_n hx hb dX4_takenBy_61 rfl (lv_at hl 1 rfl) ?_
        refine w_get E w in_X4_takenBy_X4 50 (cC_at_50 t a S5) rfl 4 (by decide) fl_X4_takenBy_38 rfl rfl dX4_takenBy_62 ?_
        refine lv_iload_n hx hb dX4_takenBy_65 rfl (lv_at hl 2 rfl) ?_
        obtain ⟨r10, S9, h8, hf⟩ := bd2_o hf
        refine w_callVi (As := [.int x1]) (rest := [.int x2]) hX E w (c_X1_paidTo l hX h8) (cwV 1 hts gX4_takenBy_X1_paidTo rfl rfl rfl hd_X1_paidTo ⟨Nat.le_of_ble_eq_true rfl, Nat.le_of_ble_eq_true rfl⟩) (ci := 1) rfl (cC_at_46 t a S5) rfl hl.1 rfl (Nat.le_of_ble_eq_true rfl) dX4_takenBy_66 ⟨Nat.le_refl _, Nat.le_refl _⟩ (fun H locs w => ?_)
        refine lv_iadd hx hb dX4_takenBy_69 ?_
        refine lv_istore_n (lv' := [(2, .int (x2 + r10)), (4, .int (if (S 0 7) < (S 9 x3.toNatClampNeg) then (S 0 7) else (S 9 x3.toNatClampNeg))), (0, .ref (a 50)), (1, .int x1), (3, .int x3)]) hx hb dX4_takenBy_70 rfl hl (by decide) rfl (fun ls hl => ?_)
        exact k_X4_takenBy_71 hX E (fun w hl hf => ih w hl hf) w (lv_sub hl [2, 3, 0, 4] rfl) hf
set_option maxHeartbeats 4000000 in
set_option maxRecDepth 100000 in
theorem k_X4_takenBy_E {p : Program} {l : Launch} {e : Env} {s : State} {m : MethodId} {args : Array Value} {below : List Frame} {meth : Method} {c : Code} {D : va_G} {t : Nat → ClassId} {a : Nat → Nat} {X : State → Prop} {N : Nat} {r : Int32} {S' : ST} (hX : XOk (aW 56 a) X) (E : EN p s m args meth c cX4_takenBy RX4 wsX4_takenBy (some .int) 5) {S : ST} {x1 : Int32} {H : Heap} {locs : List Loc} {ls : Array Slot} (w : Wd D (cC t a) (aW 56 a) (tyC t) X S s H locs) (hl : lv_has ls 5 [(0, .ref (a 50)), (1, .int x1)]) (hf : f_X4_takenBy N S x1 = some (r, S')) : W p l e rmX4_takenBy s m args below meth c H locs 0 0 (MQ below (Qi D (cC t a) (aW 56 a) (tyC t) r S') args s 0 0 (aW 56 a)) (F0 m 0 ls []) := by
  obtain ⟨⟨hx, hb, hml, hown, hts⟩, hr, hlk⟩ := id E
  unfold f_X4_takenBy at hf
  refine lv_iconst (v := 0) hx hb dX4_takenBy_0 (by decide) ?_
  refine lv_istore_n (lv' := [(2, .int 0), (0, .ref (a 50)), (1, .int x1)]) hx hb dX4_takenBy_1 rfl hl (by decide) rfl (fun ls hl => ?_)
  refine lv_iconst (v := 0) hx hb dX4_takenBy_2 (by decide) ?_
  refine lv_istore_n (lv' := [(3, .int 0), (2, .int 0), (0, .ref (a 50)), (1, .int x1)]) hx hb dX4_takenBy_3 rfl hl (by decide) rfl (fun ls hl => ?_)
  exact k_X4_takenBy_4 hX E N w (lv_sub hl [2, 3, 1, 0] rfl) hf
theorem c_X4_takenBy (l : Launch) {D : va_G} {t : Nat → ClassId} {a : Nat → Nat} {X : State → Prop} (hX : XOk (aW 56 a) X) {N : Nat} {S : ST} {x1 : Int32} {r : Int32} {S' : ST} (hf : f_X4_takenBy N S x1 = some (r, S')) : Co l yX4_takenBy wsX4_takenBy rmX4_takenBy D (cC t a) (aW 56 a) (tyC t) X [.ref (a 50), .int x1] S (Qi D (cC t a) (aW 56 a) (tyC t) r S') :=
  co_of (cc := cX4_takenBy) (maxL := 5) (ret := (some .int)) (lv := [(0, .ref (a 50)), (1, .int x1)]) (by decide) rfl rfl (Nat.le_of_ble_eq_true rfl) rfl rfl (fun p e s m below meth c ls E hl w => k_X4_takenBy_E hX E w hl hf)
-- X4_takes
theorem in_X4_takes_X4 : ∀ w ∈ u_ws RX4 TX4 9, w ∈ wsX4_takes := by decide +kernel
theorem fl_X4_takes_10 : Cond.fieldLink RX4 10 "NextDoor" "street" "LNextDoor$Street;" ∈ wsX4_takes := by decide +kernel
theorem hd_X4_takenBy : yX4_takenBy.cls = RX4 ∧ yX4_takenBy.cls ≠ "java/lang/invoke/MethodHandle" ∧ yX4_takenBy.cls ≠ "java/lang/invoke/VarHandle" ∧ (parseMethodDescriptor yX4_takenBy.desc).map (fun d => d.parameters.length) = some 1 := by decide +kernel
abbrev rmX4_takes : Room := { frames := 14, cells := 0, slots := 0, locals := 406 }
set_option maxHeartbeats 4000000 in
set_option maxRecDepth 100000 in
theorem k_X4_takes_E {p : Program} {l : Launch} {e : Env} {s : State} {m : MethodId} {args : Array Value} {below : List Frame} {meth : Method} {c : Code} {D : va_G} {t : Nat → ClassId} {a : Nat → Nat} {X : State → Prop} {N : Nat} {r : Int32} {S' : ST} (hX : XOk (aW 56 a) X) (E : EN p s m args meth c cX4_takes RX4 wsX4_takes (some .int) 2) {S : ST} {x1 : Int32} {H : Heap} {locs : List Loc} {ls : Array Slot} (w : Wd D (cC t a) (aW 56 a) (tyC t) X S s H locs) (hl : lv_has ls 2 [(0, .ref (a 50)), (1, .int x1)]) (hf : f_X4_takes N S x1 = some (r, S')) : W p l e rmX4_takes s m args below meth c H locs 0 0 (MQ below (Qi D (cC t a) (aW 56 a) (tyC t) r S') args s 0 0 (aW 56 a)) (F0 m 0 ls []) := by
  obtain ⟨⟨hx, hb, hml, hown, hts⟩, hr, hlk⟩ := id E
  unfold f_X4_takes at hf
  refine lv_aload_n hx hb dX4_takes_0 rfl (lv_at hl 0 rfl) ?_
  refine w_get E w in_X4_takes_X4 50 (cC_at_50 t a S) rfl 0 (by decide) fl_X4_takes_10 rfl rfl dX4_takes_1 ?_
  refine lv_iload_n hx hb dX4_takes_4 rfl (lv_at hl 1 rfl) ?_
  obtain ⟨r3, S2, h1, hf⟩ := bd2_o hf
  refine w_callVi (As := [.int x1]) (rest := []) hX E w (c_X2_hasShop_0 l hX h1) (cwV 1 hts gX4_takes_X2_hasShop rfl rfl rfl hd_X2_hasShop ⟨Nat.le_of_ble_eq_true rfl, Nat.le_of_ble_eq_true rfl⟩) (ci := 2) rfl (cC_at_0 t a S) rfl hl.1 rfl (Nat.le_of_ble_eq_true rfl) dX4_takes_5 ⟨Nat.le_refl _, Nat.le_refl _⟩ (fun H locs w => ?_)
  refine lv_if_ne (tgt := 20) hx hb dX4_takes_8 (by decide) (fun h4 => ?_) (fun h4 => ?_)
  · replace hf := it_f h4 hf
    refine lv_aload_n hx hb dX4_takes_20 rfl (lv_at hl 0 rfl) ?_
    refine lv_iload_n hx hb dX4_takes_21 rfl (lv_at hl 1 rfl) ?_
    obtain ⟨r7, S6, h5, hf⟩ := bd2_o hf
    refine w_callVi (As := [.int x1]) (rest := []) hX E w (c_X4_takenBy l hX h5) (cwV 1 hts gX4_takes_X4_takenBy rfl rfl rfl hd_X4_takenBy ⟨Nat.le_of_ble_eq_true rfl, Nat.le_of_ble_eq_true rfl⟩) (ci := 4) rfl (cC_at_50 t a S2) rfl hl.1 rfl (Nat.le_of_ble_eq_true rfl) dX4_takes_22 ⟨Nat.le_refl _, Nat.le_refl _⟩ (fun H locs w => ?_)
    exact w_reti E w hf dX4_takes_25
  · replace hf := it_t h4 hf
    refine lv_aload_n hx hb dX4_takes_11 rfl (lv_at hl 0 rfl) ?_
    refine lv_bipush (v := (-2)) hx hb dX4_takes_12 (by decide) ?_
    refine lv_bipush (v := (-2)) hx hb dX4_takes_14 (by decide) ?_
    obtain ⟨r10, S9, h8, hf⟩ := bd2_o hf
    refine w_callVi (As := [.int (-2), .int (-2)]) (rest := []) hX E w (c_X4_refuse l hX h8) (cwV 2 hts gX4_takes_X4_refuse rfl rfl rfl hd_X4_refuse ⟨Nat.le_of_ble_eq_true rfl, Nat.le_of_ble_eq_true rfl⟩) (ci := 4) rfl (cC_at_50 t a S2) rfl hl.1 rfl (Nat.le_of_ble_eq_true rfl) dX4_takes_16 ⟨Nat.le_refl _, Nat.le_refl _⟩ (fun H locs w => ?_)
    exact w_reti E w hf dX4_takes_19
theorem c_X4_takes (l : Launch) {D : va_G} {t : Nat → ClassId} {a : Nat → Nat} {X : State → Prop} (hX : XOk (aW 56 a) X) {N : Nat} {S : ST} {x1 : Int32} {r : Int32} {S' : ST} (hf : f_X4_takes N S x1 = some (r, S')) : Co l yX4_takes wsX4_takes rmX4_takes D (cC t a) (aW 56 a) (tyC t) X [.ref (a 50), .int x1] S (Qi D (cC t a) (aW 56 a) (tyC t) r S') :=
  co_of (cc := cX4_takes) (maxL := 2) (ret := (some .int)) (lv := [(0, .ref (a 50)), (1, .int x1)]) (by decide) rfl rfl (Nat.le_of_ble_eq_true rfl) rfl rfl (fun p e s m below meth c ls E hl w => k_X4_takes_E hX E w hl hf)
-- X4_bestPrice
theorem in_X4_bestPrice_X4 : ∀ w ∈ u_ws RX4 TX4 9, w ∈ wsX4_bestPrice := by decide +kernel
theorem fl_X4_bestPrice_10 : Cond.fieldLink RX4 10 "NextDoor" "street" "LNextDoor$Street;" ∈ wsX4_bestPrice := by decide +kernel
theorem in_X4_bestPrice_X2 : ∀ w ∈ u_ws RX2 TX2 16, w ∈ wsX4_bestPrice := by decide +kernel
theorem fl_X4_bestPrice_100 : Cond.fieldLink RX4 100 "NextDoor$Street" "price" "[I" ∈ wsX4_bestPrice := by decide +kernel
theorem fl_X4_bestPrice_53 : Cond.fieldLink RX4 53 "NextDoor" "taken" "[I" ∈ wsX4_bestPrice := by decide +kernel
abbrev rmX4_bestPrice : Room := { frames := 14, cells := 0, slots := 0, locals := 406 }
set_option maxHeartbeats 4000000 in
set_option maxRecDepth 100000 in
theorem k_X4_bestPrice_64 {p : Program} {l : Launch} {e : Env} {s : State} {m : MethodId} {args : Array Value} {below : List Frame} {meth : Method} {c : Code} {D : va_G} {t : Nat → ClassId} {a : Nat → Nat} {X : State → Prop} {N : Nat} {r : Int32} {S' : ST} (hX : XOk (aW 56 a) X) (E : EN p s m args meth c cX4_bestPrice RX4 wsX4_bestPrice (some .int) 5) {k15 : ST → Int32 → Int32 → Int32 → Int32 → Option (Int32 × ST)} (hk15 : ∀ {S : ST} {x1 : Int32} {x2 : Int32} {x3 : Int32} {x4 : Int32} {H : Heap} {locs : List Loc} {ls : Array Slot}, Wd D (cC t a) (aW 56 a) (tyC t) X S s H locs → lv_has ls 5 [(0, .ref (a 50)), (1, .int x1), (2, .int x2), (3, .int x3), (4, .int x4)] → k15 S x1 x2 x3 x4 = some (r, S') → W p l e rmX4_bestPrice s m args below meth c H locs 0 0 (MQ below (Qi D (cC t a) (aW 56 a) (tyC t) r S') args s 0 0 (aW 56 a)) (F0 m 15 ls [])) {S : ST} {x1 : Int32} {x2 : Int32} {x3 : Int32} {x4 : Int32} {H : Heap} {locs : List Loc} {ls : Array Slot} (w : Wd D (cC t a) (aW 56 a) (tyC t) X S s H locs) (hl : lv_has ls 5 [(0, .ref (a 50)), (1, .int x1), (2, .int x2), (3, .int x3), (4, .int x4)]) (hf : b_X4_bestPrice_64 N k15 S x1 x2 x3 x4 = some (r, S')) : W p l e rmX4_bestPrice s m args below meth c H locs 0 0 (MQ below (Qi D (cC t a) (aW 56 a) (tyC t) r S') args s 0 0 (aW 56 a)) (F0 m 64 ls []) := by
  obtain ⟨⟨hx, hb, hml, hown, hts⟩, hr, hlk⟩ := id E
  unfold b_X4_bestPrice_64 at hf
  refine lv_iinc (v := x4 + 1) (lv' := [(4, .int (x4 + 1)), (0, .ref (a 50)), (1, .int x1), (2, .int x2), (3, .int x3)]) hx hb dX4_bestPrice_64 hl (k := 4) rfl rfl (by decide) rfl (fun ls hl => ?_)
  refine lv_goto (tgt := 15) hx hb dX4_bestPrice_67 (by decide) ?_
  exact hk15 w (lv_sub hl [1, 2, 3, 4, 0] rfl) hf
set_option maxHeartbeats 4000000 in
set_option maxRecDepth 100000 in
theorem k_X4_bestPrice_15 {p : Program} {l : Launch} {e : Env} {s : State} {m : MethodId} {args : Array Value} {below : List Frame} {meth : Method} {c : Code} {D : va_G} {t : Nat → ClassId} {a : Nat → Nat} {X : State → Prop} {N : Nat} {r : Int32} {S' : ST} (hX : XOk (aW 56 a) X) (E : EN p s m args meth c cX4_bestPrice RX4 wsX4_bestPrice (some .int) 5) : ∀ (n : Nat) {S : ST} {x1 : Int32} {x2 : Int32} {x3 : Int32} {x4 : Int32} {H : Heap} {locs : List Loc} {ls : Array Slot}, Wd D (cC t a) (aW 56 a) (tyC t) X S s H locs → lv_has ls 5 [(0, .ref (a 50)), (1, .int x1), (2, .int x2), (3, .int x3), (4, .int x4)] → b_X4_bestPrice_15 N n S x1 x2 x3 x4 = some (r, S') → W p l e rmX4_bestPrice s m args below meth c H locs 0 0 (MQ below (Qi D (cC t a) (aW 56 a) (tyC t) r S') args s 0 0 (aW 56 a)) (F0 m 15 ls []) := by
  obtain ⟨⟨hx, hb, hml, hown, hts⟩, hr, hlk⟩ := id E
  intro n
  induction n with
  | zero => intro S x1 x2 x3 x4 H locs ls w hl hf; cases hf
  | succ n ih =>
    intro S x1 x2 x3 x4 H locs ls w hl hf
    unfold b_X4_bestPrice_15 at hf
    refine lv_iload hx hb dX4_bestPrice_15 (lv_at hl 4 rfl) ?_
    refine lv_bipush (v := 20) hx hb dX4_bestPrice_17 (by decide) ?_
    refine lv_icmp_gt (tgt := 70) hx hb dX4_bestPrice_19 (by decide) (fun h2 => ?_) (fun h2 => ?_)
    · replace hf := it_t h2 hf
      refine lv_aload_n hx hb dX4_bestPrice_70 rfl (lv_at hl 0 rfl) ?_
      refine w_get E w in_X4_bestPrice_X4 50 (cC_at_50 t a S) rfl 0 (by decide) fl_X4_bestPrice_10 rfl rfl dX4_bestPrice_71 ?_
      refine w_get E w in_X4_bestPrice_X2 0 (cC_at_0 t a S) rfl 2 (by decide) fl_X4_bestPrice_100 rfl rfl dX4_bestPrice_74 ?_
      refine lv_iload_n hx hb dX4_bestPrice_77 rfl (lv_at hl 1 rfl) ?_
      refine lv_iload_n hx hb dX4_bestPrice_78 rfl (lv_at hl 2 rfl) ?_
      obtain ⟨h4, hf⟩ := it_n hf
      obtain ⟨S3, eS3, hf⟩ := nm_o hf
      refine w_ast (S1 := S3) E w 2 0 (cC_at_2 t a S) rfl h4 rfl ((cC_st_2 t a S x1.toNatClampNeg x2).trans (congrArg (cC t a) eS3.symm)) dX4_bestPrice_79 (fun H locs w => ?_)
      refine lv_iload_n hx hb dX4_bestPrice_80 rfl (lv_at hl 3 rfl) ?_
      exact w_reti E w hf dX4_bestPrice_81
    · replace hf := it_f h2 hf
      refine lv_aload_n hx hb dX4_bestPrice_22 rfl (lv_at hl 0 rfl) ?_
      refine w_get E w in_X4_bestPrice_X4 50 (cC_at_50 t a S) rfl 0 (by decide) fl_X4_bestPrice_10 rfl rfl dX4_bestPrice_23 ?_
      refine w_get E w in_X4_bestPrice_X2 0 (cC_at_0 t a S) rfl 2 (by decide) fl_X4_bestPrice_100 rfl rfl dX4_bestPrice_26 ?_
      refine lv_iload_n hx hb dX4_bestPrice_29 rfl (lv_at hl 1 rfl) ?_
      refine lv_iload hx hb dX4_bestPrice_30 (lv_at hl 4 rfl) ?_
      obtain ⟨h6, hf⟩ := it_n hf
      obtain ⟨S5, eS5, hf⟩ := nm_o hf
      refine w_ast (S1 := S5) E w 2 0 (cC_at_2 t a S) rfl h6 rfl ((cC_st_2 t a S x1.toNatClampNeg x4).trans (congrArg (cC t a) eS5.symm)) dX4_bestPrice_32 (fun H locs w => ?_)
      refine lv_aload_n hx hb dX4_bestPrice_33 rfl (lv_at hl 0 rfl) ?_
      refine w_get E w in_X4_bestPrice_X4 50 (cC_at_50 t a S5) rfl 7 (by decide) fl_X4_bestPrice_53 rfl rfl dX4_bestPrice_34 ?_
      refine lv_iload hx hb dX4_bestPrice_37 (lv_at hl 4 rfl) ?_
      refine lv_aload_n hx hb dX4_bestPrice_39 rfl (lv_at hl 0 rfl) ?_
      refine lv_iload_n hx hb dX4_bestPrice_40 rfl (lv_at hl 1 rfl) ?_
      obtain ⟨r9, S8, h7, hf⟩ := bd2_o hf
      refine w_callVi (As := [.int x1]) (rest := [.int x4, .ref (a 54)]) hX E w (c_X4_takenBy l hX h7) (cwV 1 hts gX4_bestPrice_X4_takenBy rfl rfl rfl hd_X4_takenBy ⟨Nat.le_of_ble_eq_true rfl, Nat.le_of_ble_eq_true rfl⟩) (ci := 4) rfl (cC_at_50 t a S5) rfl hl.1 rfl (Nat.le_of_ble_eq_true rfl) dX4_bestPrice_41 ⟨Nat.le_refl _, Nat.le_refl _⟩ (fun H locs w => ?_)
      obtain ⟨h11, hf⟩ := it_n hf
      obtain ⟨S10, eS10, hf⟩ := nm_o hf
      refine w_ast (S1 := S10) E w 54 0 (cC_at_54 t a S8) rfl h11 rfl ((cC_st_54 t a S8 x4.toNatClampNeg r9).trans (congrArg (cC t a) eS10.symm)) dX4_bestPrice_44 (fun H locs w => ?_)
      refine lv_aload_n hx hb dX4_bestPrice_45 rfl (lv_at hl 0 rfl) ?_
      refine w_get E w in_X4_bestPrice_X4 50 (cC_at_50 t a S10) rfl 7 (by decide) fl_X4_bestPrice_53 rfl rfl dX4_bestPrice_46 ?_
      refine lv_iload hx hb dX4_bestPrice_49 (lv_at hl 4 rfl) ?_
      obtain ⟨h12, hf⟩ := it_n hf
      refine w_ald E w 54 0 (cC_at_54 t a S10) rfl h12 rfl dX4_bestPrice_51 ?_
      refine lv_aload_n hx hb dX4_bestPrice_52 rfl (lv_at hl 0 rfl) ?_
      refine w_get E w in_X4_bestPrice_X4 50 (cC_at_50 t a S10) rfl 7 (by decide) fl_X4_bestPrice_53 rfl rfl dX4_bestPrice_53 ?_
      refine lv_iload_n hx hb dX4_bestPrice_56 rfl (lv_at hl 3 rfl) ?_
      obtain ⟨h13, hf⟩ := it_n hf
      refine w_ald E w 54 0 (cC_at_54 t a S10) rfl h13 rfl dX4_bestPrice_57 ?_
      refine lv_icmp_le (tgt := 64) hx hb dX4_bestPrice_58 (by decide) (fun h14 => ?_) (fun h14 => ?_)
      · replace hf := it_t h14 hf
        exact k_X4_bestPrice_64 hX E (fun w hl hf => ih w hl hf) w (lv_sub hl [0, 1, 2, 3, 4] rfl) hf
      · replace hf := it_f h14 hf
        refine lv_iload hx hb dX4_bestPrice_61 (lv_at hl 4 rfl) ?_
        refine lv_istore_n (lv' := [(3, .int x4), (0, .ref (a 50)), (1, .int x1), (2, .int x2), (4, .int x4)]) hx hb dX4_bestPrice_63 rfl hl (by decide) rfl (fun ls hl => ?_)
        exact k_X4_bestPrice_64 hX E (fun w hl hf => ih w hl hf) w (lv_sub hl [1, 2, 3, 0, 4] rfl) hf
set_option maxHeartbeats 4000000 in
set_option maxRecDepth 100000 in
theorem k_X4_bestPrice_E {p : Program} {l : Launch} {e : Env} {s : State} {m : MethodId} {args : Array Value} {below : List Frame} {meth : Method} {c : Code} {D : va_G} {t : Nat → ClassId} {a : Nat → Nat} {X : State → Prop} {N : Nat} {r : Int32} {S' : ST} (hX : XOk (aW 56 a) X) (E : EN p s m args meth c cX4_bestPrice RX4 wsX4_bestPrice (some .int) 5) {S : ST} {x1 : Int32} {H : Heap} {locs : List Loc} {ls : Array Slot} (w : Wd D (cC t a) (aW 56 a) (tyC t) X S s H locs) (hl : lv_has ls 5 [(0, .ref (a 50)), (1, .int x1)]) (hf : f_X4_bestPrice N S x1 = some (r, S')) : W p l e rmX4_bestPrice s m args below meth c H locs 0 0 (MQ below (Qi D (cC t a) (aW 56 a) (tyC t) r S') args s 0 0 (aW 56 a)) (F0 m 0 ls []) := by
  obtain ⟨⟨hx, hb, hml, hown, hts⟩, hr, hlk⟩ := id E
  unfold f_X4_bestPrice at hf
  refine lv_aload_n hx hb dX4_bestPrice_0 rfl (lv_at hl 0 rfl) ?_
  refine w_get E w in_X4_bestPrice_X4 50 (cC_at_50 t a S) rfl 0 (by decide) fl_X4_bestPrice_10 rfl rfl dX4_bestPrice_1 ?_
  refine w_get E w in_X4_bestPrice_X2 0 (cC_at_0 t a S) rfl 2 (by decide) fl_X4_bestPrice_100 rfl rfl dX4_bestPrice_4 ?_
  refine lv_iload_n hx hb dX4_bestPrice_7 rfl (lv_at hl 1 rfl) ?_
  obtain ⟨h1, hf⟩ := it_n hf
  refine w_ald E w 2 0 (cC_at_2 t a S) rfl h1 rfl dX4_bestPrice_8 ?_
  refine lv_istore_n (lv' := [(2, .int (S 2 x1.toNatClampNeg)), (0, .ref (a 50)), (1, .int x1)]) hx hb dX4_bestPrice_9 rfl hl (by decide) rfl (fun ls hl => ?_)
  refine lv_iconst (v := 0) hx hb dX4_bestPrice_10 (by decide) ?_
  refine lv_istore_n (lv' := [(3, .int 0), (2, .int (S 2 x1.toNatClampNeg)), (0, .ref (a 50)), (1, .int x1)]) hx hb dX4_bestPrice_11 rfl hl (by decide) rfl (fun ls hl => ?_)
  refine lv_iconst (v := 0) hx hb dX4_bestPrice_12 (by decide) ?_
  refine lv_istore (lv' := [(4, .int 0), (3, .int 0), (2, .int (S 2 x1.toNatClampNeg)), (0, .ref (a 50)), (1, .int x1)]) hx hb dX4_bestPrice_13 hl (by decide) rfl (fun ls hl => ?_)
  exact k_X4_bestPrice_15 hX E N w (lv_sub hl [3, 4, 2, 1, 0] rfl) hf
theorem c_X4_bestPrice (l : Launch) {D : va_G} {t : Nat → ClassId} {a : Nat → Nat} {X : State → Prop} (hX : XOk (aW 56 a) X) {N : Nat} {S : ST} {x1 : Int32} {r : Int32} {S' : ST} (hf : f_X4_bestPrice N S x1 = some (r, S')) : Co l yX4_bestPrice wsX4_bestPrice rmX4_bestPrice D (cC t a) (aW 56 a) (tyC t) X [.ref (a 50), .int x1] S (Qi D (cC t a) (aW 56 a) (tyC t) r S') :=
  co_of (cc := cX4_bestPrice) (maxL := 5) (ret := (some .int)) (lv := [(0, .ref (a 50)), (1, .int x1)]) (by decide) rfl rfl (Nat.le_of_ble_eq_true rfl) rfl rfl (fun p e s m below meth c ls E hl w => k_X4_bestPrice_E hX E w hl hf)
-- X4_asks
theorem in_X4_asks_X4 : ∀ w ∈ u_ws RX4 TX4 9, w ∈ wsX4_asks := by decide +kernel
theorem fl_X4_asks_10 : Cond.fieldLink RX4 10 "NextDoor" "street" "LNextDoor$Street;" ∈ wsX4_asks := by decide +kernel
theorem hd_X4_bestPrice : yX4_bestPrice.cls = RX4 ∧ yX4_bestPrice.cls ≠ "java/lang/invoke/MethodHandle" ∧ yX4_bestPrice.cls ≠ "java/lang/invoke/VarHandle" ∧ (parseMethodDescriptor yX4_bestPrice.desc).map (fun d => d.parameters.length) = some 1 := by decide +kernel
abbrev rmX4_asks : Room := { frames := 15, cells := 0, slots := 0, locals := 430 }
set_option maxHeartbeats 4000000 in
set_option maxRecDepth 100000 in
theorem k_X4_asks_E {p : Program} {l : Launch} {e : Env} {s : State} {m : MethodId} {args : Array Value} {below : List Frame} {meth : Method} {c : Code} {D : va_G} {t : Nat → ClassId} {a : Nat → Nat} {X : State → Prop} {N : Nat} {r : Int32} {S' : ST} (hX : XOk (aW 56 a) X) (E : EN p s m args meth c cX4_asks RX4 wsX4_asks (some .int) 2) {S : ST} {x1 : Int32} {H : Heap} {locs : List Loc} {ls : Array Slot} (w : Wd D (cC t a) (aW 56 a) (tyC t) X S s H locs) (hl : lv_has ls 2 [(0, .ref (a 50)), (1, .int x1)]) (hf : f_X4_asks N S x1 = some (r, S')) : W p l e rmX4_asks s m args below meth c H locs 0 0 (MQ below (Qi D (cC t a) (aW 56 a) (tyC t) r S') args s 0 0 (aW 56 a)) (F0 m 0 ls []) := by
  obtain ⟨⟨hx, hb, hml, hown, hts⟩, hr, hlk⟩ := id E
  unfold f_X4_asks at hf
  refine lv_aload_n hx hb dX4_asks_0 rfl (lv_at hl 0 rfl) ?_
  refine w_get E w in_X4_asks_X4 50 (cC_at_50 t a S) rfl 0 (by decide) fl_X4_asks_10 rfl rfl dX4_asks_1 ?_
  refine lv_iload_n hx hb dX4_asks_4 rfl (lv_at hl 1 rfl) ?_
  obtain ⟨r3, S2, h1, hf⟩ := bd2_o hf
  refine w_callVi (As := [.int x1]) (rest := []) hX E w (c_X2_hasShop_0 l hX h1) (cwV 1 hts gX4_asks_X2_hasShop rfl rfl rfl hd_X2_hasShop ⟨Nat.le_of_ble_eq_true rfl, Nat.le_of_ble_eq_true rfl⟩) (ci := 2) rfl (cC_at_0 t a S) rfl hl.1 rfl (Nat.le_of_ble_eq_true rfl) dX4_asks_5 ⟨Nat.le_refl _, Nat.le_refl _⟩ (fun H locs w => ?_)
  refine lv_if_ne (tgt := 20) hx hb dX4_asks_8 (by decide) (fun h4 => ?_) (fun h4 => ?_)
  · replace hf := it_f h4 hf
    refine lv_aload_n hx hb dX4_asks_20 rfl (lv_at hl 0 rfl) ?_
    refine lv_iload_n hx hb dX4_asks_21 rfl (lv_at hl 1 rfl) ?_
    obtain ⟨r7, S6, h5, hf⟩ := bd2_o hf
    refine w_callVi (As := [.int x1]) (rest := []) hX E w (c_X4_bestPrice l hX h5) (cwV 1 hts gX4_asks_X4_bestPrice rfl rfl rfl hd_X4_bestPrice ⟨Nat.le_of_ble_eq_true rfl, Nat.le_of_ble_eq_true rfl⟩) (ci := 4) rfl (cC_at_50 t a S2) rfl hl.1 rfl (Nat.le_of_ble_eq_true rfl) dX4_asks_22 ⟨Nat.le_refl _, Nat.le_refl _⟩ (fun H locs w => ?_)
    exact w_reti E w hf dX4_asks_25
  · replace hf := it_t h4 hf
    refine lv_aload_n hx hb dX4_asks_11 rfl (lv_at hl 0 rfl) ?_
    refine lv_bipush (v := (-2)) hx hb dX4_asks_12 (by decide) ?_
    refine lv_bipush (v := (-2)) hx hb dX4_asks_14 (by decide) ?_
    obtain ⟨r10, S9, h8, hf⟩ := bd2_o hf
    refine w_callVi (As := [.int (-2), .int (-2)]) (rest := []) hX E w (c_X4_refuse l hX h8) (cwV 2 hts gX4_asks_X4_refuse rfl rfl rfl hd_X4_refuse ⟨Nat.le_of_ble_eq_true rfl, Nat.le_of_ble_eq_true rfl⟩) (ci := 4) rfl (cC_at_50 t a S2) rfl hl.1 rfl (Nat.le_of_ble_eq_true rfl) dX4_asks_16 ⟨Nat.le_refl _, Nat.le_refl _⟩ (fun H locs w => ?_)
    exact w_reti E w hf dX4_asks_19
theorem c_X4_asks (l : Launch) {D : va_G} {t : Nat → ClassId} {a : Nat → Nat} {X : State → Prop} (hX : XOk (aW 56 a) X) {N : Nat} {S : ST} {x1 : Int32} {r : Int32} {S' : ST} (hf : f_X4_asks N S x1 = some (r, S')) : Co l yX4_asks wsX4_asks rmX4_asks D (cC t a) (aW 56 a) (tyC t) X [.ref (a 50), .int x1] S (Qi D (cC t a) (aW 56 a) (tyC t) r S') :=
  co_of (cc := cX4_asks) (maxL := 2) (ret := (some .int)) (lv := [(0, .ref (a 50)), (1, .int x1)]) (by decide) rfl rfl (Nat.le_of_ble_eq_true rfl) rfl rfl (fun p e s m below meth c ls E hl w => k_X4_asks_E hX E w hl hf)
-- X4_roundChanges
theorem in_X4_roundChanges_X4 : ∀ w ∈ u_ws RX4 TX4 9, w ∈ wsX4_roundChanges := by decide +kernel
theorem fl_X4_roundChanges_10 : Cond.fieldLink RX4 10 "NextDoor" "street" "LNextDoor$Street;" ∈ wsX4_roundChanges := by decide +kernel
theorem in_X4_roundChanges_X2 : ∀ w ∈ u_ws RX2 TX2 16, w ∈ wsX4_roundChanges := by decide +kernel
theorem fl_X4_roundChanges_67 : Cond.fieldLink RX4 67 "NextDoor$Street" "shops" "I" ∈ wsX4_roundChanges := by decide +kernel
theorem fl_X4_roundChanges_53 : Cond.fieldLink RX4 53 "NextDoor" "taken" "[I" ∈ wsX4_roundChanges := by decide +kernel
theorem fl_X4_roundChanges_100 : Cond.fieldLink RX4 100 "NextDoor$Street" "price" "[I" ∈ wsX4_roundChanges := by decide +kernel
abbrev rmX4_roundChanges : Room := { frames := 15, cells := 0, slots := 0, locals := 430 }
set_option maxHeartbeats 4000000 in
set_option maxRecDepth 100000 in
theorem k_X4_roundChanges_56 {p : Program} {l : Launch} {e : Env} {s : State} {m : MethodId} {args : Array Value} {below : List Frame} {meth : Method} {c : Code} {D : va_G} {t : Nat → ClassId} {a : Nat → Nat} {X : State → Prop} {N : Nat} {r : Int32} {S' : ST} (hX : XOk (aW 56 a) X) (E : EN p s m args meth c cX4_roundChanges RX4 wsX4_roundChanges (some .boolean) 4) {k4 : ST → Int32 → Int32 → Option (Int32 × ST)} (hk4 : ∀ {S : ST} {x1 : Int32} {x2 : Int32} {H : Heap} {locs : List Loc} {ls : Array Slot}, Wd D (cC t a) (aW 56 a) (tyC t) X S s H locs → lv_has ls 4 [(0, .ref (a 50)), (1, .int x1), (2, .int x2)] → k4 S x1 x2 = some (r, S') → W p l e rmX4_roundChanges s m args below meth c H locs 0 0 (MQ below (Qi D (cC t a) (aW 56 a) (tyC t) r S') args s 0 0 (aW 56 a)) (F0 m 4 ls [])) {S : ST} {x1 : Int32} {x2 : Int32} {H : Heap} {locs : List Loc} {ls : Array Slot} (w : Wd D (cC t a) (aW 56 a) (tyC t) X S s H locs) (hl : lv_has ls 4 [(0, .ref (a 50)), (1, .int x1), (2, .int x2)]) (hf : b_X4_roundChanges_56 N k4 S x1 x2 = some (r, S')) : W p l e rmX4_roundChanges s m args below meth c H locs 0 0 (MQ below (Qi D (cC t a) (aW 56 a) (tyC t) r S') args s 0 0 (aW 56 a)) (F0 m 56 ls []) := by
  obtain ⟨⟨hx, hb, hml, hown, hts⟩, hr, hlk⟩ := id E
  unfold b_X4_roundChanges_56 at hf
  refine lv_iinc (v := x2 + 1) (lv' := [(2, .int (x2 + 1)), (0, .ref (a 50)), (1, .int x1)]) hx hb dX4_roundChanges_56 hl (k := 2) rfl rfl (by decide) rfl (fun ls hl => ?_)
  refine lv_goto (tgt := 4) hx hb dX4_roundChanges_59 (by decide) ?_
  exact hk4 w (lv_sub hl [1, 2, 0] rfl) hf
set_option maxHeartbeats 4000000 in
set_option maxRecDepth 100000 in
theorem k_X4_roundChanges_4 {p : Program} {l : Launch} {e : Env} {s : State} {m : MethodId} {args : Array Value} {below : List Frame} {meth : Method} {c : Code} {D : va_G} {t : Nat → ClassId} {a : Nat → Nat} {X : State → Prop} {N : Nat} {r : Int32} {S' : ST} (hX : XOk (aW 56 a) X) (E : EN p s m args meth c cX4_roundChanges RX4 wsX4_roundChanges (some .boolean) 4) : ∀ (n : Nat) {S : ST} {x1 : Int32} {x2 : Int32} {H : Heap} {locs : List Loc} {ls : Array Slot}, Wd D (cC t a) (aW 56 a) (tyC t) X S s H locs → lv_has ls 4 [(0, .ref (a 50)), (1, .int x1), (2, .int x2)] → b_X4_roundChanges_4 N n S x1 x2 = some (r, S') → W p l e rmX4_roundChanges s m args below meth c H locs 0 0 (MQ below (Qi D (cC t a) (aW 56 a) (tyC t) r S') args s 0 0 (aW 56 a)) (F0 m 4 ls []) := by
  obtain ⟨⟨hx, hb, hml, hown, hts⟩, hr, hlk⟩ := id E
  intro n
  induction n with
  | zero => intro S x1 x2 H locs ls w hl hf; cases hf
  | succ n ih =>
    intro S x1 x2 H locs ls w hl hf
    unfold b_X4_roundChanges_4 at hf
    refine lv_iload_n hx hb dX4_roundChanges_4 rfl (lv_at hl 2 rfl) ?_
    refine lv_aload_n hx hb dX4_roundChanges_5 rfl (lv_at hl 0 rfl) ?_
    refine w_get E w in_X4_roundChanges_X4 50 (cC_at_50 t a S) rfl 0 (by decide) fl_X4_roundChanges_10 rfl rfl dX4_roundChanges_6 ?_
    refine w_get E w in_X4_roundChanges_X2 0 (cC_at_0 t a S) rfl 0 (by decide) fl_X4_roundChanges_67 rfl rfl dX4_roundChanges_9 ?_
    refine lv_icmp_ge (tgt := 62) hx hb dX4_roundChanges_12 (by decide) (fun h1 => ?_) (fun h1 => ?_)
    · replace hf := it_t h1 hf
      refine lv_iload_n hx hb dX4_roundChanges_62 rfl (lv_at hl 1 rfl) ?_
      obtain ⟨h2, hf⟩ := it_s hf
      exact w_retz E w h2 hf dX4_roundChanges_63
    · replace hf := it_f h1 hf
      refine lv_aload_n hx hb dX4_roundChanges_15 rfl (lv_at hl 0 rfl) ?_
      refine lv_iload_n hx hb dX4_roundChanges_16 rfl (lv_at hl 2 rfl) ?_
      obtain ⟨r5, S4, h3, hf⟩ := bd2_o hf
      refine w_callVi (As := [.int x2]) (rest := []) hX E w (c_X4_bestPrice l hX h3) (cwV 1 hts gX4_roundChanges_X4_bestPrice rfl rfl rfl hd_X4_bestPrice ⟨Nat.le_of_ble_eq_true rfl, Nat.le_of_ble_eq_true rfl⟩) (ci := 4) rfl (cC_at_50 t a S) rfl hl.1 rfl (Nat.le_of_ble_eq_true rfl) dX4_roundChanges_17 ⟨Nat.le_refl _, Nat.le_refl _⟩ (fun H locs w => ?_)
      refine lv_istore_n (lv' := [(3, .int r5), (0, .ref (a 50)), (1, .int x1), (2, .int x2)]) hx hb dX4_roundChanges_20 rfl hl (by decide) rfl (fun ls hl => ?_)
      refine lv_aload_n hx hb dX4_roundChanges_21 rfl (lv_at hl 1 rfl) ?_
      refine w_get E w in_X4_roundChanges_X4 50 (cC_at_50 t a S4) rfl 7 (by decide) fl_X4_roundChanges_53 rfl rfl dX4_roundChanges_22 ?_
      refine lv_iload_n hx hb dX4_roundChanges_25 rfl (lv_at hl 0 rfl) ?_
      obtain ⟨h6, hf⟩ := it_n hf
      refine w_ald E w 54 0 (cC_at_54 t a S4) rfl h6 rfl dX4_roundChanges_26 ?_
      refine lv_aload_n hx hb dX4_roundChanges_27 rfl (lv_at hl 1 rfl) ?_
      refine w_get E w in_X4_roundChanges_X4 50 (cC_at_50 t a S4) rfl 7 (by decide) fl_X4_roundChanges_53 rfl rfl dX4_roundChanges_28 ?_
      refine lv_aload_n hx hb dX4_roundChanges_31 rfl (lv_at hl 1 rfl) ?_
      refine w_get E w in_X4_roundChanges_X4 50 (cC_at_50 t a S4) rfl 0 (by decide) fl_X4_roundChanges_10 rfl rfl dX4_roundChanges_32 ?_
      refine w_get E w in_X4_roundChanges_X2 0 (cC_at_0 t a S4) rfl 2 (by decide) fl_X4_roundChanges_100 rfl rfl dX4_roundChanges_35 ?_
      refine lv_iload_n hx hb dX4_roundChanges_38 rfl (lv_at hl 3 rfl) ?_
      obtain ⟨h7, hf⟩ := it_n hf
      refine w_ald E w 2 0 (cC_at_2 t a S4) rfl h7 rfl dX4_roundChanges_39 ?_
      obtain ⟨h8, hf⟩ := it_n hf
      refine w_ald E w 54 0 (cC_at_54 t a S4) rfl h8 rfl dX4_roundChanges_40 ?_
      refine lv_icmp_le (tgt := 56) hx hb dX4_roundChanges_41 (by decide) (fun h9 => ?_) (fun h9 => ?_)
      · replace hf := it_t h9 hf
        exact k_X4_roundChanges_56 hX E (fun w hl hf => ih w hl hf) w (lv_sub hl [1, 2, 3] rfl) hf
      · replace hf := it_f h9 hf
        refine lv_aload_n hx hb dX4_roundChanges_44 rfl (lv_at hl 1 rfl) ?_
        refine w_get E w in_X4_roundChanges_X4 50 (cC_at_50 t a S4) rfl 0 (by decide) fl_X4_roundChanges_10 rfl rfl dX4_roundChanges_45 ?_
        refine w_get E w in_X4_roundChanges_X2 0 (cC_at_0 t a S4) rfl 2 (by decide) fl_X4_roundChanges_100 rfl rfl dX4_roundChanges_48 ?_
        refine lv_iload_n hx hb dX4_roundChanges_51 rfl (lv_at hl 3 rfl) ?_
        refine lv_iload_n hx hb dX4_roundChanges_52 rfl (lv_at hl 0 rfl) ?_
        obtain ⟨h11, hf⟩ := it_n hf
        obtain ⟨S10, eS10, hf⟩ := nm_o hf
        refine w_ast (S1 := S10) E w 2 0 (cC_at_2 t a S4) rfl h11 rfl ((cC_st_2 t a S4 x2.toNatClampNeg r5).trans (congrArg (cC t a) eS10.symm)) dX4_roundChanges_53 (fun H locs w => ?_)
        refine lv_iconst (v := 1) hx hb dX4_roundChanges_54 (by decide) ?_
        refine lv_istore_n (lv' := [(1, .int 1), (3, .int r5), (0, .ref (a 50)), (2, .int x2)]) hx hb dX4_roundChanges_55 rfl hl (by decide) rfl (fun ls hl => ?_)
        exact k_X4_roundChanges_56 hX E (fun w hl hf => ih w hl hf) w (lv_sub hl [2, 0, 3] rfl) hf
set_option maxHeartbeats 4000000 in
set_option maxRecDepth 100000 in
theorem k_X4_roundChanges_E {p : Program} {l : Launch} {e : Env} {s : State} {m : MethodId} {args : Array Value} {below : List Frame} {meth : Method} {c : Code} {D : va_G} {t : Nat → ClassId} {a : Nat → Nat} {X : State → Prop} {N : Nat} {r : Int32} {S' : ST} (hX : XOk (aW 56 a) X) (E : EN p s m args meth c cX4_roundChanges RX4 wsX4_roundChanges (some .boolean) 4) {S : ST} {H : Heap} {locs : List Loc} {ls : Array Slot} (w : Wd D (cC t a) (aW 56 a) (tyC t) X S s H locs) (hl : lv_has ls 4 [(0, .ref (a 50))]) (hf : f_X4_roundChanges N S = some (r, S')) : W p l e rmX4_roundChanges s m args below meth c H locs 0 0 (MQ below (Qi D (cC t a) (aW 56 a) (tyC t) r S') args s 0 0 (aW 56 a)) (F0 m 0 ls []) := by
  obtain ⟨⟨hx, hb, hml, hown, hts⟩, hr, hlk⟩ := id E
  unfold f_X4_roundChanges at hf
  refine lv_iconst (v := 0) hx hb dX4_roundChanges_0 (by decide) ?_
  refine lv_istore_n (lv' := [(1, .int 0), (0, .ref (a 50))]) hx hb dX4_roundChanges_1 rfl hl (by decide) rfl (fun ls hl => ?_)
  refine lv_iconst (v := 0) hx hb dX4_roundChanges_2 (by decide) ?_
  refine lv_istore_n (lv' := [(2, .int 0), (1, .int 0), (0, .ref (a 50))]) hx hb dX4_roundChanges_3 rfl hl (by decide) rfl (fun ls hl => ?_)
  exact k_X4_roundChanges_4 hX E N w (lv_sub hl [2, 1, 0] rfl) hf
theorem c_X4_roundChanges (l : Launch) {D : va_G} {t : Nat → ClassId} {a : Nat → Nat} {X : State → Prop} (hX : XOk (aW 56 a) X) {N : Nat} {S : ST} {r : Int32} {S' : ST} (hf : f_X4_roundChanges N S = some (r, S')) : Co l yX4_roundChanges wsX4_roundChanges rmX4_roundChanges D (cC t a) (aW 56 a) (tyC t) X [.ref (a 50)] S (Qi D (cC t a) (aW 56 a) (tyC t) r S') :=
  co_of (cc := cX4_roundChanges) (maxL := 4) (ret := (some .boolean)) (lv := [(0, .ref (a 50))]) (by decide) rfl rfl (Nat.le_of_ble_eq_true rfl) rfl rfl (fun p e s m below meth c ls E hl w => k_X4_roundChanges_E hX E w hl hf)
-- X4_changes
theorem in_X4_changes_X4 : ∀ w ∈ u_ws RX4 TX4 9, w ∈ wsX4_changes := by decide +kernel
theorem fl_X4_changes_10 : Cond.fieldLink RX4 10 "NextDoor" "street" "LNextDoor$Street;" ∈ wsX4_changes := by decide +kernel
theorem in_X4_changes_X2 : ∀ w ∈ u_ws RX2 TX2 16, w ∈ wsX4_changes := by decide +kernel
theorem fl_X4_changes_100 : Cond.fieldLink RX4 100 "NextDoor$Street" "price" "[I" ∈ wsX4_changes := by decide +kernel
theorem fl_X4_changes_56 : Cond.fieldLink RX4 56 "NextDoor" "pricesTold" "[I" ∈ wsX4_changes := by decide +kernel
theorem cp_2_55_6 (t : Nat → ClassId) (a : Nat → Nat) (S : ST) : (cC t a S).set 55 (a 55, .inl (t 0, 6, .inl (va_cpy (S 2) (S 55) 0 0 6))) = cC t a (cpS S 2 55 0 0 6) := rfl
theorem ac1_X4_changes_179 : Cond.methodLink RX4 179 arraycopyName ∈ wsX4_changes := by decide +kernel
theorem ac2_X4_changes : Cond.native arraycopyName ∈ wsX4_changes := by decide +kernel
theorem ac3_X4_changes : Cond.static arraycopyName ∈ wsX4_changes := by decide +kernel
theorem ac4_X4_changes : Cond.initialized "java/lang/System" ∈ wsX4_changes := by decide +kernel
theorem hd_X4_roundChanges : yX4_roundChanges.cls = RX4 ∧ yX4_roundChanges.cls ≠ "java/lang/invoke/MethodHandle" ∧ yX4_roundChanges.cls ≠ "java/lang/invoke/VarHandle" ∧ (parseMethodDescriptor yX4_roundChanges.desc).map (fun d => d.parameters.length) = some 0 := by decide +kernel
theorem cp_55_2_6 (t : Nat → ClassId) (a : Nat → Nat) (S : ST) : (cC t a S).set 2 (a 2, .inl (t 0, 6, .inl (va_cpy (S 55) (S 2) 0 0 6))) = cC t a (cpS S 55 2 0 0 6) := rfl
abbrev rmX4_changes : Room := { frames := 16, cells := 0, slots := 0, locals := 453 }
set_option maxHeartbeats 4000000 in
set_option maxRecDepth 100000 in
theorem k_X4_changes_86 {p : Program} {l : Launch} {e : Env} {s : State} {m : MethodId} {args : Array Value} {below : List Frame} {meth : Method} {c : Code} {D : va_G} {t : Nat → ClassId} {a : Nat → Nat} {X : State → Prop} {N : Nat} {r : Int32} {S' : ST} (hX : XOk (aW 56 a) X) (E : EN p s m args meth c cX4_changes RX4 wsX4_changes (some .int) 5) {S : ST} {x1 : Int32} {x2 : Int32} {x3 : Int32} {s0 : Int32} {H : Heap} {locs : List Loc} {ls : Array Slot} (w : Wd D (cC t a) (aW 56 a) (tyC t) X S s H locs) (hl : lv_has ls 5 [(0, .ref (a 50)), (1, .int x1), (2, .int x2), (3, .int x3)]) (hf : b_X4_changes_86 N S x1 x2 x3 s0 = some (r, S')) : W p l e rmX4_changes s m args below meth c H locs 0 0 (MQ below (Qi D (cC t a) (aW 56 a) (tyC t) r S') args s 0 0 (aW 56 a)) (F0 m 86 ls [.int s0]) := by
  obtain ⟨⟨hx, hb, hml, hown, hts⟩, hr, hlk⟩ := id E
  unfold b_X4_changes_86 at hf
  refine lv_istore (lv' := [(4, .int s0), (0, .ref (a 50)), (1, .int x1), (2, .int x2), (3, .int x3)]) hx hb dX4_changes_86 hl (by decide) rfl (fun ls hl => ?_)
  refine lv_aload_n hx hb dX4_changes_88 rfl (lv_at hl 1 rfl) ?_
  refine w_get E w in_X4_changes_X4 50 (cC_at_50 t a S) rfl 8 (by decide) fl_X4_changes_56 rfl rfl dX4_changes_89 ?_
  refine lv_iconst (v := 0) hx hb dX4_changes_92 (by decide) ?_
  refine lv_aload_n hx hb dX4_changes_93 rfl (lv_at hl 1 rfl) ?_
  refine w_get E w in_X4_changes_X4 50 (cC_at_50 t a S) rfl 0 (by decide) fl_X4_changes_10 rfl rfl dX4_changes_94 ?_
  refine w_get E w in_X4_changes_X2 0 (cC_at_0 t a S) rfl 2 (by decide) fl_X4_changes_100 rfl rfl dX4_changes_97 ?_
  refine lv_iconst (v := 0) hx hb dX4_changes_100 (by decide) ?_
  refine lv_bipush (v := 6) hx hb dX4_changes_101 (by decide) ?_
  obtain ⟨S17, eS17, hf⟩ := nm_o hf
  refine w_copy (S1 := S17) E w ac1_X4_changes_179 ac2_X4_changes ac3_X4_changes ac4_X4_changes hl.1 55 2 0 (cC_at_55 t a S) (cC_at_2 t a S) rfl 6 ix_6 (by decide) (by decide) (by decide) ((cp_55_2_6 t a S).trans (congrArg (cC t a) eS17.symm)) (Nat.le_of_ble_eq_true rfl) (by decide) dX4_changes_103 (fun H locs w => ?_)
  refine lv_iload_n hx hb dX4_changes_106 rfl (lv_at hl 4 rfl) ?_
  refine lv_if_eq (tgt := 112) hx hb dX4_changes_107 (by decide) (fun h18 => ?_) (fun h18 => ?_)
  · replace hf := it_t h18 hf
    refine lv_iload_n hx hb dX4_changes_112 rfl (lv_at hl 2 rfl) ?_
    refine lv_iconst (v := (-1)) hx hb dX4_changes_113 (by decide) ?_
    refine lv_icmp_ne (tgt := 121) hx hb dX4_changes_114 (by decide) (fun h19 => ?_) (fun h19 => ?_)
    · replace hf := it_f h19 hf
      refine lv_iload hx hb dX4_changes_121 (lv_at hl 0 rfl) ?_
      exact w_reti E w hf dX4_changes_123
    · replace hf := it_t h19 hf
      refine lv_iload_n hx hb dX4_changes_117 rfl (lv_at hl 3 rfl) ?_
      refine lv_goto (tgt := 123) hx hb dX4_changes_118 (by decide) ?_
      exact w_reti E w hf dX4_changes_123
  · replace hf := it_f h18 hf
    refine lv_iconst (v := (-1)) hx hb dX4_changes_110 (by decide) ?_
    exact w_reti E w hf dX4_changes_111
set_option maxHeartbeats 4000000 in
set_option maxRecDepth 100000 in
theorem k_X4_changes_68 {p : Program} {l : Launch} {e : Env} {s : State} {m : MethodId} {args : Array Value} {below : List Frame} {meth : Method} {c : Code} {D : va_G} {t : Nat → ClassId} {a : Nat → Nat} {X : State → Prop} {N : Nat} {r : Int32} {S' : ST} (hX : XOk (aW 56 a) X) (E : EN p s m args meth c cX4_changes RX4 wsX4_changes (some .int) 5) {S : ST} {x1 : Int32} {x2 : Int32} {x3 : Int32} {H : Heap} {locs : List Loc} {ls : Array Slot} (w : Wd D (cC t a) (aW 56 a) (tyC t) X S s H locs) (hl : lv_has ls 5 [(0, .ref (a 50)), (1, .int x1), (2, .int x2), (3, .int x3)]) (hf : b_X4_changes_68 N S x1 x2 x3 = some (r, S')) : W p l e rmX4_changes s m args below meth c H locs 0 0 (MQ below (Qi D (cC t a) (aW 56 a) (tyC t) r S') args s 0 0 (aW 56 a)) (F0 m 68 ls []) := by
  obtain ⟨⟨hx, hb, hml, hown, hts⟩, hr, hlk⟩ := id E
  unfold b_X4_changes_68 at hf
  refine lv_iload_n hx hb dX4_changes_68 rfl (lv_at hl 1 rfl) ?_
  refine lv_iconst (v := (-1)) hx hb dX4_changes_69 (by decide) ?_
  refine lv_icmp_ne (tgt := 77) hx hb dX4_changes_70 (by decide) (fun h15 => ?_) (fun h15 => ?_)
  · replace hf := it_f h15 hf
    refine lv_aload_n hx hb dX4_changes_77 rfl (lv_at hl 0 rfl) ?_
    refine w_get E w in_X4_changes_X4 50 (cC_at_50 t a S) rfl 0 (by decide) fl_X4_changes_10 rfl rfl dX4_changes_78 ?_
    refine w_get E w in_X4_changes_X2 0 (cC_at_0 t a S) rfl 2 (by decide) fl_X4_changes_100 rfl rfl dX4_changes_81 ?_
    refine lv_iload_n hx hb dX4_changes_84 rfl (lv_at hl 1 rfl) ?_
    obtain ⟨h16, hf⟩ := it_n hf
    refine w_ald E w 2 0 (cC_at_2 t a S) rfl h16 rfl dX4_changes_85 ?_
    exact k_X4_changes_86 hX E w (lv_sub hl [0, 1, 2, 3] rfl) hf
  · replace hf := it_t h15 hf
    refine lv_iconst (v := (-1)) hx hb dX4_changes_73 (by decide) ?_
    refine lv_goto (tgt := 86) hx hb dX4_changes_74 (by decide) ?_
    exact k_X4_changes_86 hX E w (lv_sub hl [0, 1, 2, 3] rfl) hf
set_option maxHeartbeats 4000000 in
set_option maxRecDepth 100000 in
theorem k_X4_changes_47 {p : Program} {l : Launch} {e : Env} {s : State} {m : MethodId} {args : Array Value} {below : List Frame} {meth : Method} {c : Code} {D : va_G} {t : Nat → ClassId} {a : Nat → Nat} {X : State → Prop} {N : Nat} {r : Int32} {S' : ST} (hX : XOk (aW 56 a) X) (E : EN p s m args meth c cX4_changes RX4 wsX4_changes (some .int) 5) : ∀ (n : Nat) {S : ST} {x1 : Int32} {x2 : Int32} {x3 : Int32} {H : Heap} {locs : List Loc} {ls : Array Slot}, Wd D (cC t a) (aW 56 a) (tyC t) X S s H locs → lv_has ls 5 [(0, .ref (a 50)), (1, .int x1), (2, .int x2), (3, .int x3)] → b_X4_changes_47 N n S x1 x2 x3 = some (r, S') → W p l e rmX4_changes s m args below meth c H locs 0 0 (MQ below (Qi D (cC t a) (aW 56 a) (tyC t) r S') args s 0 0 (aW 56 a)) (F0 m 47 ls []) := by
  obtain ⟨⟨hx, hb, hml, hown, hts⟩, hr, hlk⟩ := id E
  intro n
  induction n with
  | zero => intro S x1 x2 x3 H locs ls w hl hf; cases hf
  | succ n ih =>
    intro S x1 x2 x3 H locs ls w hl hf
    unfold b_X4_changes_47 at hf
    refine lv_iload_n hx hb dX4_changes_47 rfl (lv_at hl 3 rfl) ?_
    refine lv_if_eq (tgt := 68) hx hb dX4_changes_48 (by decide) (fun h10 => ?_) (fun h10 => ?_)
    · replace hf := it_t h10 hf
      exact k_X4_changes_68 hX E w (lv_sub hl [0, 1, 2, 3] rfl) hf
    · replace hf := it_f h10 hf
      refine lv_iload_n hx hb dX4_changes_51 rfl (lv_at hl 2 rfl) ?_
      refine lv_bipush (v := 8) hx hb dX4_changes_52 (by decide) ?_
      refine lv_icmp_ge (tgt := 68) hx hb dX4_changes_54 (by decide) (fun h11 => ?_) (fun h11 => ?_)
      · replace hf := it_t h11 hf
        exact k_X4_changes_68 hX E w (lv_sub hl [0, 1, 2, 3] rfl) hf
      · replace hf := it_f h11 hf
        refine lv_aload_n hx hb dX4_changes_57 rfl (lv_at hl 0 rfl) ?_
        obtain ⟨r14, S13, h12, hf⟩ := bd2_o hf
        refine w_callVi (As := []) (rest := []) hX E w (c_X4_roundChanges l hX h12) (cwV 0 hts gX4_changes_X4_roundChanges rfl rfl rfl hd_X4_roundChanges ⟨Nat.le_of_ble_eq_true rfl, Nat.le_of_ble_eq_true rfl⟩) (ci := 4) rfl (cC_at_50 t a S) rfl hl.1 rfl (Nat.le_of_ble_eq_true rfl) dX4_changes_58 ⟨Nat.le_refl _, Nat.le_refl _⟩ (fun H locs w => ?_)
        refine lv_istore_n (lv' := [(3, .int r14), (0, .ref (a 50)), (1, .int x1), (2, .int x2)]) hx hb dX4_changes_61 rfl hl (by decide) rfl (fun ls hl => ?_)
        refine lv_iinc (v := x2 + 1) (lv' := [(2, .int (x2 + 1)), (3, .int r14), (0, .ref (a 50)), (1, .int x1)]) hx hb dX4_changes_62 hl (k := 3) rfl rfl (by decide) rfl (fun ls hl => ?_)
        refine lv_goto (tgt := 47) hx hb dX4_changes_65 (by decide) ?_
        exact ih w (lv_sub hl [2, 3, 0, 1] rfl) hf
set_option maxHeartbeats 4000000 in
set_option maxRecDepth 100000 in
theorem k_X4_changes_25 {p : Program} {l : Launch} {e : Env} {s : State} {m : MethodId} {args : Array Value} {below : List Frame} {meth : Method} {c : Code} {D : va_G} {t : Nat → ClassId} {a : Nat → Nat} {X : State → Prop} {N : Nat} {r : Int32} {S' : ST} (hX : XOk (aW 56 a) X) (E : EN p s m args meth c cX4_changes RX4 wsX4_changes (some .int) 5) {S : ST} {x1 : Int32} {H : Heap} {locs : List Loc} {ls : Array Slot} (w : Wd D (cC t a) (aW 56 a) (tyC t) X S s H locs) (hl : lv_has ls 5 [(0, .ref (a 50)), (1, .int x1)]) (hf : b_X4_changes_25 N S x1 = some (r, S')) : W p l e rmX4_changes s m args below meth c H locs 0 0 (MQ below (Qi D (cC t a) (aW 56 a) (tyC t) r S') args s 0 0 (aW 56 a)) (F0 m 25 ls []) := by
  obtain ⟨⟨hx, hb, hml, hown, hts⟩, hr, hlk⟩ := id E
  unfold b_X4_changes_25 at hf
  refine lv_aload_n hx hb dX4_changes_25 rfl (lv_at hl 0 rfl) ?_
  refine w_get E w in_X4_changes_X4 50 (cC_at_50 t a S) rfl 0 (by decide) fl_X4_changes_10 rfl rfl dX4_changes_26 ?_
  refine w_get E w in_X4_changes_X2 0 (cC_at_0 t a S) rfl 2 (by decide) fl_X4_changes_100 rfl rfl dX4_changes_29 ?_
  refine lv_iconst (v := 0) hx hb dX4_changes_32 (by decide) ?_
  refine lv_aload_n hx hb dX4_changes_33 rfl (lv_at hl 0 rfl) ?_
  refine w_get E w in_X4_changes_X4 50 (cC_at_50 t a S) rfl 8 (by decide) fl_X4_changes_56 rfl rfl dX4_changes_34 ?_
  refine lv_iconst (v := 0) hx hb dX4_changes_37 (by decide) ?_
  refine lv_bipush (v := 6) hx hb dX4_changes_38 (by decide) ?_
  obtain ⟨S9, eS9, hf⟩ := nm_o hf
  refine w_copy (S1 := S9) E w ac1_X4_changes_179 ac2_X4_changes ac3_X4_changes ac4_X4_changes hl.1 2 55 0 (cC_at_2 t a S) (cC_at_55 t a S) rfl 6 ix_6 (by decide) (by decide) (by decide) ((cp_2_55_6 t a S).trans (congrArg (cC t a) eS9.symm)) (Nat.le_of_ble_eq_true rfl) (by decide) dX4_changes_40 (fun H locs w => ?_)
  refine lv_iconst (v := 0) hx hb dX4_changes_43 (by decide) ?_
  refine lv_istore_n (lv' := [(2, .int 0), (0, .ref (a 50)), (1, .int x1)]) hx hb dX4_changes_44 rfl hl (by decide) rfl (fun ls hl => ?_)
  refine lv_iconst (v := 1) hx hb dX4_changes_45 (by decide) ?_
  refine lv_istore_n (lv' := [(3, .int 1), (2, .int 0), (0, .ref (a 50)), (1, .int x1)]) hx hb dX4_changes_46 rfl hl (by decide) rfl (fun ls hl => ?_)
  exact k_X4_changes_47 hX E N w (lv_sub hl [2, 3, 1, 0] rfl) hf
set_option maxHeartbeats 4000000 in
set_option maxRecDepth 100000 in
theorem k_X4_changes_E {p : Program} {l : Launch} {e : Env} {s : State} {m : MethodId} {args : Array Value} {below : List Frame} {meth : Method} {c : Code} {D : va_G} {t : Nat → ClassId} {a : Nat → Nat} {X : State → Prop} {N : Nat} {r : Int32} {S' : ST} (hX : XOk (aW 56 a) X) (E : EN p s m args meth c cX4_changes RX4 wsX4_changes (some .int) 5) {S : ST} {x1 : Int32} {H : Heap} {locs : List Loc} {ls : Array Slot} (w : Wd D (cC t a) (aW 56 a) (tyC t) X S s H locs) (hl : lv_has ls 5 [(0, .ref (a 50)), (1, .int x1)]) (hf : f_X4_changes N S x1 = some (r, S')) : W p l e rmX4_changes s m args below meth c H locs 0 0 (MQ below (Qi D (cC t a) (aW 56 a) (tyC t) r S') args s 0 0 (aW 56 a)) (F0 m 0 ls []) := by
  obtain ⟨⟨hx, hb, hml, hown, hts⟩, hr, hlk⟩ := id E
  unfold f_X4_changes at hf
  refine lv_iload_n hx hb dX4_changes_0 rfl (lv_at hl 1 rfl) ?_
  refine lv_iconst (v := (-1)) hx hb dX4_changes_1 (by decide) ?_
  refine lv_icmp_eq (tgt := 25) hx hb dX4_changes_2 (by decide) (fun h1 => ?_) (fun h1 => ?_)
  · replace hf := it_t h1 hf
    exact k_X4_changes_25 hX E w (lv_sub hl [0, 1] rfl) hf
  · replace hf := it_f h1 hf
    refine lv_aload_n hx hb dX4_changes_5 rfl (lv_at hl 0 rfl) ?_
    refine w_get E w in_X4_changes_X4 50 (cC_at_50 t a S) rfl 0 (by decide) fl_X4_changes_10 rfl rfl dX4_changes_6 ?_
    refine lv_iload_n hx hb dX4_changes_9 rfl (lv_at hl 1 rfl) ?_
    obtain ⟨r4, S3, h2, hf⟩ := bd2_o hf
    refine w_callVi (As := [.int x1]) (rest := []) hX E w (c_X2_hasShop_0 l hX h2) (cwV 1 hts gX4_changes_X2_hasShop rfl rfl rfl hd_X2_hasShop ⟨Nat.le_of_ble_eq_true rfl, Nat.le_of_ble_eq_true rfl⟩) (ci := 2) rfl (cC_at_0 t a S) rfl hl.1 rfl (Nat.le_of_ble_eq_true rfl) dX4_changes_10 ⟨Nat.le_refl _, Nat.le_refl _⟩ (fun H locs w => ?_)
    refine lv_if_ne (tgt := 25) hx hb dX4_changes_13 (by decide) (fun h5 => ?_) (fun h5 => ?_)
    · replace hf := it_f h5 hf
      exact k_X4_changes_25 hX E w (lv_sub hl [0, 1] rfl) hf
    · replace hf := it_t h5 hf
      refine lv_aload_n hx hb dX4_changes_16 rfl (lv_at hl 0 rfl) ?_
      refine lv_bipush (v := (-2)) hx hb dX4_changes_17 (by decide) ?_
      refine lv_bipush (v := (-2)) hx hb dX4_changes_19 (by decide) ?_
      obtain ⟨r8, S7, h6, hf⟩ := bd2_o hf
      refine w_callVi (As := [.int (-2), .int (-2)]) (rest := []) hX E w (c_X4_refuse l hX h6) (cwV 2 hts gX4_changes_X4_refuse rfl rfl rfl hd_X4_refuse ⟨Nat.le_of_ble_eq_true rfl, Nat.le_of_ble_eq_true rfl⟩) (ci := 4) rfl (cC_at_50 t a S3) rfl hl.1 rfl (Nat.le_of_ble_eq_true rfl) dX4_changes_21 ⟨Nat.le_refl _, Nat.le_refl _⟩ (fun H locs w => ?_)
      exact w_reti E w hf dX4_changes_24
theorem c_X4_changes (l : Launch) {D : va_G} {t : Nat → ClassId} {a : Nat → Nat} {X : State → Prop} (hX : XOk (aW 56 a) X) {N : Nat} {S : ST} {x1 : Int32} {r : Int32} {S' : ST} (hf : f_X4_changes N S x1 = some (r, S')) : Co l yX4_changes wsX4_changes rmX4_changes D (cC t a) (aW 56 a) (tyC t) X [.ref (a 50), .int x1] S (Qi D (cC t a) (aW 56 a) (tyC t) r S') :=
  co_of (cc := cX4_changes) (maxL := 5) (ret := (some .int)) (lv := [(0, .ref (a 50)), (1, .int x1)]) (by decide) rfl rfl (Nat.le_of_ble_eq_true rfl) rfl rfl (fun p e s m below meth c ls E hl w => k_X4_changes_E hX E w hl hf)
-- X4_isErrandFor
theorem in_X4_isErrandFor_X4 : ∀ w ∈ u_ws RX4 TX4 9, w ∈ wsX4_isErrandFor := by decide +kernel
theorem fl_X4_isErrandFor_38 : Cond.fieldLink RX4 38 "NextDoor" "search" "LNextDoor$Search;" ∈ wsX4_isErrandFor := by decide +kernel
theorem fl_X4_isErrandFor_10 : Cond.fieldLink RX4 10 "NextDoor" "street" "LNextDoor$Street;" ∈ wsX4_isErrandFor := by decide +kernel
theorem in_X4_isErrandFor_X2 : ∀ w ∈ u_ws RX2 TX2 16, w ∈ wsX4_isErrandFor := by decide +kernel
theorem fl_X4_isErrandFor_94 : Cond.fieldLink RX4 94 "NextDoor$Street" "purse" "I" ∈ wsX4_isErrandFor := by decide +kernel
theorem in_X4_isErrandFor_X1 : ∀ w ∈ u_ws RX1 TX1 12, w ∈ wsX4_isErrandFor := by decide +kernel
theorem fl_X4_isErrandFor_146 : Cond.fieldLink RX4 146 "NextDoor$Search" "length" "I" ∈ wsX4_isErrandFor := by decide +kernel
theorem fl_X4_isErrandFor_217 : Cond.fieldLink RX4 217 "NextDoor$Street" "bought" "I" ∈ wsX4_isErrandFor := by decide +kernel
theorem fl_X4_isErrandFor_150 : Cond.fieldLink RX4 150 "NextDoor$Search" "row" "[I" ∈ wsX4_isErrandFor := by decide +kernel
theorem fl_X4_isErrandFor_220 : Cond.fieldLink RX4 220 "NextDoor$Street" "errand" "[I" ∈ wsX4_isErrandFor := by decide +kernel
abbrev rmX4_isErrandFor : Room := { frames := 13, cells := 0, slots := 0, locals := 382 }
set_option maxHeartbeats 4000000 in
set_option maxRecDepth 100000 in
theorem k_X4_isErrandFor_40 {p : Program} {l : Launch} {e : Env} {s : State} {m : MethodId} {args : Array Value} {below : List Frame} {meth : Method} {c : Code} {D : va_G} {t : Nat → ClassId} {a : Nat → Nat} {X : State → Prop} {N : Nat} {r : Int32} {S' : ST} (hX : XOk (aW 56 a) X) (E : EN p s m args meth c cX4_isErrandFor RX4 wsX4_isErrandFor (some .boolean) 3) : ∀ (n : Nat) {S : ST} {x2 : Int32} {H : Heap} {locs : List Loc} {ls : Array Slot}, Wd D (cC t a) (aW 56 a) (tyC t) X S s H locs → lv_has ls 3 [(0, .ref (a 50)), (2, .int x2)] → b_X4_isErrandFor_40 N n S x2 = some (r, S') → W p l e rmX4_isErrandFor s m args below meth c H locs 0 0 (MQ below (Qi D (cC t a) (aW 56 a) (tyC t) r S') args s 0 0 (aW 56 a)) (F0 m 40 ls []) := by
  obtain ⟨⟨hx, hb, hml, hown, hts⟩, hr, hlk⟩ := id E
  intro n
  induction n with
  | zero => intro S x2 H locs ls w hl hf; cases hf
  | succ n ih =>
    intro S x2 H locs ls w hl hf
    unfold b_X4_isErrandFor_40 at hf
    refine lv_iload_n hx hb dX4_isErrandFor_40 rfl (lv_at hl 1 rfl) ?_
    refine lv_aload_n hx hb dX4_isErrandFor_41 rfl (lv_at hl 0 rfl) ?_
    refine w_get E w in_X4_isErrandFor_X4 50 (cC_at_50 t a S) rfl 4 (by decide) fl_X4_isErrandFor_38 rfl rfl dX4_isErrandFor_42 ?_
    refine w_get E w in_X4_isErrandFor_X1 46 (cC_at_46 t a S) rfl 7 (by decide) fl_X4_isErrandFor_146 rfl rfl dX4_isErrandFor_45 ?_
    refine lv_icmp_ge (tgt := 80) hx hb dX4_isErrandFor_48 (by decide) (fun h6 => ?_) (fun h6 => ?_)
    · replace hf := it_t h6 hf
      refine lv_iconst (v := 1) hx hb dX4_isErrandFor_80 (by decide) ?_
      exact w_retz E w (by decide) hf dX4_isErrandFor_81
    · replace hf := it_f h6 hf
      refine lv_aload_n hx hb dX4_isErrandFor_51 rfl (lv_at hl 0 rfl) ?_
      refine w_get E w in_X4_isErrandFor_X4 50 (cC_at_50 t a S) rfl 4 (by decide) fl_X4_isErrandFor_38 rfl rfl dX4_isErrandFor_52 ?_
      refine w_get E w in_X4_isErrandFor_X1 46 (cC_at_46 t a S) rfl 10 (by decide) fl_X4_isErrandFor_150 rfl rfl dX4_isErrandFor_55 ?_
      refine lv_iload_n hx hb dX4_isErrandFor_58 rfl (lv_at hl 1 rfl) ?_
      obtain ⟨h7, hf⟩ := it_n hf
      refine w_ald E w 47 0 (cC_at_47 t a S) rfl h7 rfl dX4_isErrandFor_59 ?_
      refine lv_aload_n hx hb dX4_isErrandFor_60 rfl (lv_at hl 0 rfl) ?_
      refine w_get E w in_X4_isErrandFor_X4 50 (cC_at_50 t a S) rfl 0 (by decide) fl_X4_isErrandFor_10 rfl rfl dX4_isErrandFor_61 ?_
      refine w_get E w in_X4_isErrandFor_X2 0 (cC_at_0 t a S) rfl 10 (by decide) fl_X4_isErrandFor_220 rfl rfl dX4_isErrandFor_64 ?_
      refine lv_iload_n hx hb dX4_isErrandFor_67 rfl (lv_at hl 1 rfl) ?_
      obtain ⟨h8, hf⟩ := it_n hf
      refine w_ald E w 6 0 (cC_at_6 t a S) rfl h8 rfl dX4_isErrandFor_68 ?_
      refine lv_icmp_eq (tgt := 74) hx hb dX4_isErrandFor_69 (by decide) (fun h9 => ?_) (fun h9 => ?_)
      · replace hf := it_t h9 hf
        refine lv_iinc (v := x2 + 1) (lv' := [(2, .int (x2 + 1)), (0, .ref (a 50))]) hx hb dX4_isErrandFor_74 hl (k := 1) rfl rfl (by decide) rfl (fun ls hl => ?_)
        refine lv_goto (tgt := 40) hx hb dX4_isErrandFor_77 (by decide) ?_
        exact ih w (lv_sub hl [1, 0] rfl) hf
      · replace hf := it_f h9 hf
        refine lv_iconst (v := 0) hx hb dX4_isErrandFor_72 (by decide) ?_
        exact w_retz E w (by decide) hf dX4_isErrandFor_73
set_option maxHeartbeats 4000000 in
set_option maxRecDepth 100000 in
theorem k_X4_isErrandFor_E {p : Program} {l : Launch} {e : Env} {s : State} {m : MethodId} {args : Array Value} {below : List Frame} {meth : Method} {c : Code} {D : va_G} {t : Nat → ClassId} {a : Nat → Nat} {X : State → Prop} {N : Nat} {r : Int32} {S' : ST} (hX : XOk (aW 56 a) X) (E : EN p s m args meth c cX4_isErrandFor RX4 wsX4_isErrandFor (some .boolean) 3) {S : ST} {x1 : Int32} {H : Heap} {locs : List Loc} {ls : Array Slot} (w : Wd D (cC t a) (aW 56 a) (tyC t) X S s H locs) (hl : lv_has ls 3 [(0, .ref (a 50)), (1, .int x1)]) (hf : f_X4_isErrandFor N S x1 = some (r, S')) : W p l e rmX4_isErrandFor s m args below meth c H locs 0 0 (MQ below (Qi D (cC t a) (aW 56 a) (tyC t) r S') args s 0 0 (aW 56 a)) (F0 m 0 ls []) := by
  obtain ⟨⟨hx, hb, hml, hown, hts⟩, hr, hlk⟩ := id E
  unfold f_X4_isErrandFor at hf
  refine lv_aload_n hx hb dX4_isErrandFor_0 rfl (lv_at hl 0 rfl) ?_
  refine w_get E w in_X4_isErrandFor_X4 50 (cC_at_50 t a S) rfl 4 (by decide) fl_X4_isErrandFor_38 rfl rfl dX4_isErrandFor_1 ?_
  refine lv_iload_n hx hb dX4_isErrandFor_4 rfl (lv_at hl 1 rfl) ?_
  refine lv_aload_n hx hb dX4_isErrandFor_5 rfl (lv_at hl 0 rfl) ?_
  refine w_get E w in_X4_isErrandFor_X4 50 (cC_at_50 t a S) rfl 0 (by decide) fl_X4_isErrandFor_10 rfl rfl dX4_isErrandFor_6 ?_
  refine w_get E w in_X4_isErrandFor_X2 0 (cC_at_0 t a S) rfl 7 (by decide) fl_X4_isErrandFor_94 rfl rfl dX4_isErrandFor_9 ?_
  refine lv_iconst (v := 0) hx hb dX4_isErrandFor_12 (by decide) ?_
  obtain ⟨r3, S2, h1, hf⟩ := bd2_o hf
  refine w_callVi (As := [.int x1, .int (S 0 7), .int 0]) (rest := []) hX E w (c_X1_findCheapest l hX h1) (cwV 3 hts gX4_isErrandFor_X1_findCheapest rfl rfl rfl hd_X1_findCheapest ⟨Nat.le_of_ble_eq_true rfl, Nat.le_of_ble_eq_true rfl⟩) (ci := 1) rfl (cC_at_46 t a S) rfl hl.1 rfl (Nat.le_of_ble_eq_true rfl) dX4_isErrandFor_13 ⟨Nat.le_refl _, Nat.le_refl _⟩ (fun H locs w => ?_)
  refine lv_if_eq (tgt := 36) hx hb dX4_isErrandFor_16 (by decide) (fun h4 => ?_) (fun h4 => ?_)
  · replace hf := it_t h4 hf
    refine lv_iconst (v := 0) hx hb dX4_isErrandFor_36 (by decide) ?_
    exact w_retz E w (by decide) hf dX4_isErrandFor_37
  · replace hf := it_f h4 hf
    refine lv_aload_n hx hb dX4_isErrandFor_19 rfl (lv_at hl 0 rfl) ?_
    refine w_get E w in_X4_isErrandFor_X4 50 (cC_at_50 t a S2) rfl 4 (by decide) fl_X4_isErrandFor_38 rfl rfl dX4_isErrandFor_20 ?_
    refine w_get E w in_X4_isErrandFor_X1 46 (cC_at_46 t a S2) rfl 7 (by decide) fl_X4_isErrandFor_146 rfl rfl dX4_isErrandFor_23 ?_
    refine lv_aload_n hx hb dX4_isErrandFor_26 rfl (lv_at hl 0 rfl) ?_
    refine w_get E w in_X4_isErrandFor_X4 50 (cC_at_50 t a S2) rfl 0 (by decide) fl_X4_isErrandFor_10 rfl rfl dX4_isErrandFor_27 ?_
    refine w_get E w in_X4_isErrandFor_X2 0 (cC_at_0 t a S2) rfl 9 (by decide) fl_X4_isErrandFor_217 rfl rfl dX4_isErrandFor_30 ?_
    refine lv_icmp_eq (tgt := 38) hx hb dX4_isErrandFor_33 (by decide) (fun h5 => ?_) (fun h5 => ?_)
    · replace hf := it_t h5 hf
      refine lv_iconst (v := 0) hx hb dX4_isErrandFor_38 (by decide) ?_
      refine lv_istore_n (lv' := [(2, .int 0), (0, .ref (a 50)), (1, .int x1)]) hx hb dX4_isErrandFor_39 rfl hl (by decide) rfl (fun ls hl => ?_)
      exact k_X4_isErrandFor_40 hX E N w (lv_sub hl [1, 0] rfl) hf
    · replace hf := it_f h5 hf
      refine lv_iconst (v := 0) hx hb dX4_isErrandFor_36 (by decide) ?_
      exact w_retz E w (by decide) hf dX4_isErrandFor_37
theorem c_X4_isErrandFor (l : Launch) {D : va_G} {t : Nat → ClassId} {a : Nat → Nat} {X : State → Prop} (hX : XOk (aW 56 a) X) {N : Nat} {S : ST} {x1 : Int32} {r : Int32} {S' : ST} (hf : f_X4_isErrandFor N S x1 = some (r, S')) : Co l yX4_isErrandFor wsX4_isErrandFor rmX4_isErrandFor D (cC t a) (aW 56 a) (tyC t) X [.ref (a 50), .int x1] S (Qi D (cC t a) (aW 56 a) (tyC t) r S') :=
  co_of (cc := cX4_isErrandFor) (maxL := 3) (ret := (some .boolean)) (lv := [(0, .ref (a 50)), (1, .int x1)]) (by decide) rfl rfl (Nat.le_of_ble_eq_true rfl) rfl rfl (fun p e s m below meth c ls E hl w => k_X4_isErrandFor_E hX E w hl hf)
-- X4_wanted
theorem in_X4_wanted_X4 : ∀ w ∈ u_ws RX4 TX4 9, w ∈ wsX4_wanted := by decide +kernel
theorem fl_X4_wanted_29 : Cond.fieldLink RX4 29 "NextDoor" "walk" "LNextDoor$Walk;" ∈ wsX4_wanted := by decide +kernel
theorem in_X4_wanted_X3 : ∀ w ∈ u_ws RX3 TX3 7, w ∈ wsX4_wanted := by decide +kernel
theorem fl_X4_wanted_134 : Cond.fieldLink RX4 134 "NextDoor$Walk" "heldAt" "[I" ∈ wsX4_wanted := by decide +kernel
theorem fl_X4_wanted_125 : Cond.fieldLink RX4 125 "NextDoor$Walk" "gone" "I" ∈ wsX4_wanted := by decide +kernel
theorem hd_X4_isErrandFor : yX4_isErrandFor.cls = RX4 ∧ yX4_isErrandFor.cls ≠ "java/lang/invoke/MethodHandle" ∧ yX4_isErrandFor.cls ≠ "java/lang/invoke/VarHandle" ∧ (parseMethodDescriptor yX4_isErrandFor.desc).map (fun d => d.parameters.length) = some 1 := by decide +kernel
abbrev rmX4_wanted : Room := { frames := 14, cells := 0, slots := 0, locals := 404 }
set_option maxHeartbeats 4000000 in
set_option maxRecDepth 100000 in
theorem k_X4_wanted_98 {p : Program} {l : Launch} {e : Env} {s : State} {m : MethodId} {args : Array Value} {below : List Frame} {meth : Method} {c : Code} {D : va_G} {t : Nat → ClassId} {a : Nat → Nat} {X : State → Prop} {N : Nat} {r : Int32} {S' : ST} (hX : XOk (aW 56 a) X) (E : EN p s m args meth c cX4_wanted RX4 wsX4_wanted (some .int) 6) {S : ST} {x1 : Int32} {x4 : Int32} {H : Heap} {locs : List Loc} {ls : Array Slot} (w : Wd D (cC t a) (aW 56 a) (tyC t) X S s H locs) (hl : lv_has ls 6 [(1, .int x1), (4, .int x4)]) (hf : b_X4_wanted_98 N S x1 x4 = some (r, S')) : W p l e rmX4_wanted s m args below meth c H locs 0 0 (MQ below (Qi D (cC t a) (aW 56 a) (tyC t) r S') args s 0 0 (aW 56 a)) (F0 m 98 ls []) := by
  obtain ⟨⟨hx, hb, hml, hown, hts⟩, hr, hlk⟩ := id E
  unfold b_X4_wanted_98 at hf
  refine lv_iload_n hx hb dX4_wanted_98 rfl (lv_at hl 0 rfl) ?_
  refine lv_iconst (v := (-1)) hx hb dX4_wanted_99 (by decide) ?_
  refine lv_icmp_ne (tgt := 108) hx hb dX4_wanted_100 (by decide) (fun h18 => ?_) (fun h18 => ?_)
  · replace hf := it_f h18 hf
    refine lv_bipush (v := (-5)) hx hb dX4_wanted_108 (by decide) ?_
    exact w_reti E w hf dX4_wanted_110
  · replace hf := it_t h18 hf
    refine lv_iload hx hb dX4_wanted_103 (lv_at hl 1 rfl) ?_
    refine lv_goto (tgt := 110) hx hb dX4_wanted_105 (by decide) ?_
    exact w_reti E w hf dX4_wanted_110
set_option maxHeartbeats 4000000 in
set_option maxRecDepth 100000 in
theorem k_X4_wanted_92 {p : Program} {l : Launch} {e : Env} {s : State} {m : MethodId} {args : Array Value} {below : List Frame} {meth : Method} {c : Code} {D : va_G} {t : Nat → ClassId} {a : Nat → Nat} {X : State → Prop} {N : Nat} {r : Int32} {S' : ST} (hX : XOk (aW 56 a) X) (E : EN p s m args meth c cX4_wanted RX4 wsX4_wanted (some .int) 6) {k52 : ST → Int32 → Int32 → Int32 → Int32 → Int32 → Option (Int32 × ST)} (hk52 : ∀ {S : ST} {x1 : Int32} {x2 : Int32} {x3 : Int32} {x4 : Int32} {x5 : Int32} {H : Heap} {locs : List Loc} {ls : Array Slot}, Wd D (cC t a) (aW 56 a) (tyC t) X S s H locs → lv_has ls 6 [(0, .ref (a 50)), (1, .int x1), (2, .int x2), (3, .int x3), (4, .int x4), (5, .int x5)] → k52 S x1 x2 x3 x4 x5 = some (r, S') → W p l e rmX4_wanted s m args below meth c H locs 0 0 (MQ below (Qi D (cC t a) (aW 56 a) (tyC t) r S') args s 0 0 (aW 56 a)) (F0 m 52 ls [])) {S : ST} {x1 : Int32} {x2 : Int32} {x3 : Int32} {x4 : Int32} {x5 : Int32} {H : Heap} {locs : List Loc} {ls : Array Slot} (w : Wd D (cC t a) (aW 56 a) (tyC t) X S s H locs) (hl : lv_has ls 6 [(0, .ref (a 50)), (1, .int x1), (2, .int x2), (3, .int x3), (4, .int x4), (5, .int x5)]) (hf : b_X4_wanted_92 N k52 S x1 x2 x3 x4 x5 = some (r, S')) : W p l e rmX4_wanted s m args below meth c H locs 0 0 (MQ below (Qi D (cC t a) (aW 56 a) (tyC t) r S') args s 0 0 (aW 56 a)) (F0 m 92 ls []) := by
  obtain ⟨⟨hx, hb, hml, hown, hts⟩, hr, hlk⟩ := id E
  unfold b_X4_wanted_92 at hf
  refine lv_iinc (v := x5 + 1) (lv' := [(5, .int (x5 + 1)), (0, .ref (a 50)), (1, .int x1), (2, .int x2), (3, .int x3), (4, .int x4)]) hx hb dX4_wanted_92 hl (k := 5) rfl rfl (by decide) rfl (fun ls hl => ?_)
  refine lv_goto (tgt := 52) hx hb dX4_wanted_95 (by decide) ?_
  exact hk52 w (lv_sub hl [1, 2, 3, 4, 5, 0] rfl) hf
set_option maxHeartbeats 4000000 in
set_option maxRecDepth 100000 in
theorem k_X4_wanted_52 {p : Program} {l : Launch} {e : Env} {s : State} {m : MethodId} {args : Array Value} {below : List Frame} {meth : Method} {c : Code} {D : va_G} {t : Nat → ClassId} {a : Nat → Nat} {X : State → Prop} {N : Nat} {r : Int32} {S' : ST} (hX : XOk (aW 56 a) X) (E : EN p s m args meth c cX4_wanted RX4 wsX4_wanted (some .int) 6) : ∀ (n : Nat) {S : ST} {x1 : Int32} {x2 : Int32} {x3 : Int32} {x4 : Int32} {x5 : Int32} {H : Heap} {locs : List Loc} {ls : Array Slot}, Wd D (cC t a) (aW 56 a) (tyC t) X S s H locs → lv_has ls 6 [(0, .ref (a 50)), (1, .int x1), (2, .int x2), (3, .int x3), (4, .int x4), (5, .int x5)] → b_X4_wanted_52 N n S x1 x2 x3 x4 x5 = some (r, S') → W p l e rmX4_wanted s m args below meth c H locs 0 0 (MQ below (Qi D (cC t a) (aW 56 a) (tyC t) r S') args s 0 0 (aW 56 a)) (F0 m 52 ls []) := by
  obtain ⟨⟨hx, hb, hml, hown, hts⟩, hr, hlk⟩ := id E
  intro n
  induction n with
  | zero => intro S x1 x2 x3 x4 x5 H locs ls w hl hf; cases hf
  | succ n ih =>
    intro S x1 x2 x3 x4 x5 H locs ls w hl hf
    unfold b_X4_wanted_52 at hf
    refine lv_iload hx hb dX4_wanted_52 (lv_at hl 5 rfl) ?_
    refine lv_iload_n hx hb dX4_wanted_54 rfl (lv_at hl 3 rfl) ?_
    refine lv_icmp_gt (tgt := 98) hx hb dX4_wanted_55 (by decide) (fun h10 => ?_) (fun h10 => ?_)
    · replace hf := it_t h10 hf
      exact k_X4_wanted_98 hX E w (lv_sub hl [1, 4] rfl) hf
    · replace hf := it_f h10 hf
      refine lv_iload_n hx hb dX4_wanted_58 rfl (lv_at hl 2 rfl) ?_
      refine lv_if_eq (tgt := 98) hx hb dX4_wanted_59 (by decide) (fun h11 => ?_) (fun h11 => ?_)
      · replace hf := it_t h11 hf
        exact k_X4_wanted_98 hX E w (lv_sub hl [1, 4] rfl) hf
      · replace hf := it_f h11 hf
        refine lv_iload hx hb dX4_wanted_62 (lv_at hl 5 rfl) ?_
        refine lv_iload_n hx hb dX4_wanted_64 rfl (lv_at hl 3 rfl) ?_
        refine lv_iconst (v := (-1)) hx hb dX4_wanted_65 (by decide) ?_
        refine lv_ixor hx hb dX4_wanted_66 ?_
        refine lv_iand hx hb dX4_wanted_67 ?_
        refine lv_if_ne (tgt := 92) hx hb dX4_wanted_68 (by decide) (fun h12 => ?_) (fun h12 => ?_)
        · replace hf := it_f h12 hf
          exact k_X4_wanted_92 hX E (fun w hl hf => ih w hl hf) w (lv_sub hl [0, 1, 2, 3, 4, 5] rfl) hf
        · replace hf := it_t h12 hf
          refine lv_aload_n hx hb dX4_wanted_71 rfl (lv_at hl 0 rfl) ?_
          refine lv_iload hx hb dX4_wanted_72 (lv_at hl 5 rfl) ?_
          obtain ⟨r15, S14, h13, hf⟩ := bd2_o hf
          refine w_callVi (As := [.int x5]) (rest := []) hX E w (c_X4_isErrandFor l hX h13) (cwV 1 hts gX4_wanted_X4_isErrandFor rfl rfl rfl hd_X4_isErrandFor ⟨Nat.le_of_ble_eq_true rfl, Nat.le_of_ble_eq_true rfl⟩) (ci := 4) rfl (cC_at_50 t a S) rfl hl.1 rfl (Nat.le_of_ble_eq_true rfl) dX4_wanted_74 ⟨Nat.le_refl _, Nat.le_refl _⟩ (fun H locs w => ?_)
          refine lv_if_eq (tgt := 92) hx hb dX4_wanted_77 (by decide) (fun h16 => ?_) (fun h16 => ?_)
          · replace hf := it_t h16 hf
            exact k_X4_wanted_92 hX E (fun w hl hf => ih w hl hf) w (lv_sub hl [0, 1, 2, 3, 4, 5] rfl) hf
          · replace hf := it_f h16 hf
            refine lv_iload hx hb dX4_wanted_80 (lv_at hl 4 rfl) ?_
            refine lv_iload_n hx hb dX4_wanted_82 rfl (lv_at hl 1 rfl) ?_
            refine lv_icmp_ne (tgt := 89) hx hb dX4_wanted_83 (by decide) (fun h17 => ?_) (fun h17 => ?_)
            · replace hf := it_f h17 hf
              refine lv_iinc (v := x4 + 1) (lv' := [(4, .int (x4 + 1)), (0, .ref (a 50)), (1, .int x1), (2, .int x2), (3, .int x3), (5, .int x5)]) hx hb dX4_wanted_89 hl (k := 4) rfl rfl (by decide) rfl (fun ls hl => ?_)
              exact k_X4_wanted_92 hX E (fun w hl hf => ih w hl hf) w (lv_sub hl [1, 2, 3, 4, 0, 5] rfl) hf
            · replace hf := it_t h17 hf
              refine lv_iload hx hb dX4_wanted_86 (lv_at hl 5 rfl) ?_
              exact w_reti E w hf dX4_wanted_88
set_option maxHeartbeats 4000000 in
set_option maxRecDepth 100000 in
theorem k_X4_wanted_29 {p : Program} {l : Launch} {e : Env} {s : State} {m : MethodId} {args : Array Value} {below : List Frame} {meth : Method} {c : Code} {D : va_G} {t : Nat → ClassId} {a : Nat → Nat} {X : State → Prop} {N : Nat} {r : Int32} {S' : ST} (hX : XOk (aW 56 a) X) (E : EN p s m args meth c cX4_wanted RX4 wsX4_wanted (some .int) 6) {S : ST} {x1 : Int32} {s0 : Int32} {H : Heap} {locs : List Loc} {ls : Array Slot} (w : Wd D (cC t a) (aW 56 a) (tyC t) X S s H locs) (hl : lv_has ls 6 [(0, .ref (a 50)), (1, .int x1)]) (hf : b_X4_wanted_29 N S x1 s0 = some (r, S')) : W p l e rmX4_wanted s m args below meth c H locs 0 0 (MQ below (Qi D (cC t a) (aW 56 a) (tyC t) r S') args s 0 0 (aW 56 a)) (F0 m 29 ls [.int s0]) := by
  obtain ⟨⟨hx, hb, hml, hown, hts⟩, hr, hlk⟩ := id E
  unfold b_X4_wanted_29 at hf
  refine lv_istore_n (lv' := [(2, .int s0), (0, .ref (a 50)), (1, .int x1)]) hx hb dX4_wanted_29 rfl hl (by decide) rfl (fun ls hl => ?_)
  refine lv_aload_n hx hb dX4_wanted_30 rfl (lv_at hl 1 rfl) ?_
  refine w_get E w in_X4_wanted_X4 50 (cC_at_50 t a S) rfl 3 (by decide) fl_X4_wanted_29 rfl rfl dX4_wanted_31 ?_
  refine w_get E w in_X4_wanted_X3 40 (cC_at_40 t a S) rfl 3 (by decide) fl_X4_wanted_134 rfl rfl dX4_wanted_34 ?_
  refine lv_aload_n hx hb dX4_wanted_37 rfl (lv_at hl 1 rfl) ?_
  refine w_get E w in_X4_wanted_X4 50 (cC_at_50 t a S) rfl 3 (by decide) fl_X4_wanted_29 rfl rfl dX4_wanted_38 ?_
  refine w_get E w in_X4_wanted_X3 40 (cC_at_40 t a S) rfl 6 (by decide) fl_X4_wanted_125 rfl rfl dX4_wanted_41 ?_
  obtain ⟨h9, hf⟩ := it_n hf
  refine w_ald E w 43 0 (cC_at_43 t a S) rfl h9 rfl dX4_wanted_44 ?_
  refine lv_istore_n (lv' := [(3, .int (S 43 (S 40 6).toNatClampNeg)), (2, .int s0), (0, .ref (a 50)), (1, .int x1)]) hx hb dX4_wanted_45 rfl hl (by decide) rfl (fun ls hl => ?_)
  refine lv_iconst (v := 0) hx hb dX4_wanted_46 (by decide) ?_
  refine lv_istore (lv' := [(4, .int 0), (3, .int (S 43 (S 40 6).toNatClampNeg)), (2, .int s0), (0, .ref (a 50)), (1, .int x1)]) hx hb dX4_wanted_47 hl (by decide) rfl (fun ls hl => ?_)
  refine lv_iconst (v := 0) hx hb dX4_wanted_49 (by decide) ?_
  refine lv_istore (lv' := [(5, .int 0), (4, .int 0), (3, .int (S 43 (S 40 6).toNatClampNeg)), (2, .int s0), (0, .ref (a 50)), (1, .int x1)]) hx hb dX4_wanted_50 hl (by decide) rfl (fun ls hl => ?_)
  exact k_X4_wanted_52 hX E N w (lv_sub hl [4, 5, 3, 2, 1, 0] rfl) hf
set_option maxHeartbeats 4000000 in
set_option maxRecDepth 100000 in
theorem k_X4_wanted_E {p : Program} {l : Launch} {e : Env} {s : State} {m : MethodId} {args : Array Value} {below : List Frame} {meth : Method} {c : Code} {D : va_G} {t : Nat → ClassId} {a : Nat → Nat} {X : State → Prop} {N : Nat} {r : Int32} {S' : ST} (hX : XOk (aW 56 a) X) (E : EN p s m args meth c cX4_wanted RX4 wsX4_wanted (some .int) 6) {S : ST} {x1 : Int32} {H : Heap} {locs : List Loc} {ls : Array Slot} (w : Wd D (cC t a) (aW 56 a) (tyC t) X S s H locs) (hl : lv_has ls 6 [(0, .ref (a 50)), (1, .int x1)]) (hf : f_X4_wanted N S x1 = some (r, S')) : W p l e rmX4_wanted s m args below meth c H locs 0 0 (MQ below (Qi D (cC t a) (aW 56 a) (tyC t) r S') args s 0 0 (aW 56 a)) (F0 m 0 ls []) := by
  obtain ⟨⟨hx, hb, hml, hown, hts⟩, hr, hlk⟩ := id E
  unfold f_X4_wanted at hf
  refine lv_iload_n hx hb dX4_wanted_0 rfl (lv_at hl 1 rfl) ?_
  refine lv_iconst (v := (-1)) hx hb dX4_wanted_1 (by decide) ?_
  refine lv_icmp_ge (tgt := 14) hx hb dX4_wanted_2 (by decide) (fun h1 => ?_) (fun h1 => ?_)
  · replace hf := it_t h1 hf
    refine lv_aload_n hx hb dX4_wanted_14 rfl (lv_at hl 0 rfl) ?_
    refine w_get E w in_X4_wanted_X4 50 (cC_at_50 t a S) rfl 3 (by decide) fl_X4_wanted_29 rfl rfl dX4_wanted_15 ?_
    obtain ⟨r4, S3, h2, hf⟩ := bd2_o hf
    refine w_callVi (As := []) (rest := []) hX E w (c_X3_goErrand l hX h2) (cwV 0 hts gX4_wanted_X3_goErrand rfl rfl rfl hd_X3_goErrand ⟨Nat.le_of_ble_eq_true rfl, Nat.le_of_ble_eq_true rfl⟩) (ci := 3) rfl (cC_at_40 t a S) rfl hl.1 rfl (Nat.le_of_ble_eq_true rfl) dX4_wanted_18 ⟨Nat.le_refl _, Nat.le_refl _⟩ (fun H locs w => ?_)
    refine lv_if_ne (tgt := 28) hx hb dX4_wanted_21 (by decide) (fun h5 => ?_) (fun h5 => ?_)
    · replace hf := it_f h5 hf
      refine lv_iconst (v := 0) hx hb dX4_wanted_28 (by decide) ?_
      exact k_X4_wanted_29 hX E w (lv_sub hl [0, 1] rfl) hf
    · replace hf := it_t h5 hf
      refine lv_iconst (v := 1) hx hb dX4_wanted_24 (by decide) ?_
      refine lv_goto (tgt := 29) hx hb dX4_wanted_25 (by decide) ?_
      exact k_X4_wanted_29 hX E w (lv_sub hl [0, 1] rfl) hf
  · replace hf := it_f h1 hf
    refine lv_aload_n hx hb dX4_wanted_5 rfl (lv_at hl 0 rfl) ?_
    refine lv_bipush (v := (-2)) hx hb dX4_wanted_6 (by decide) ?_
    refine lv_bipush (v := (-10)) hx hb dX4_wanted_8 (by decide) ?_
    obtain ⟨r8, S7, h6, hf⟩ := bd2_o hf
    refine w_callVi (As := [.int (-2), .int (-10)]) (rest := []) hX E w (c_X4_refuse l hX h6) (cwV 2 hts gX4_wanted_X4_refuse rfl rfl rfl hd_X4_refuse ⟨Nat.le_of_ble_eq_true rfl, Nat.le_of_ble_eq_true rfl⟩) (ci := 4) rfl (cC_at_50 t a S) rfl hl.1 rfl (Nat.le_of_ble_eq_true rfl) dX4_wanted_10 ⟨Nat.le_refl _, Nat.le_refl _⟩ (fun H locs w => ?_)
    exact w_reti E w hf dX4_wanted_13
theorem c_X4_wanted (l : Launch) {D : va_G} {t : Nat → ClassId} {a : Nat → Nat} {X : State → Prop} (hX : XOk (aW 56 a) X) {N : Nat} {S : ST} {x1 : Int32} {r : Int32} {S' : ST} (hf : f_X4_wanted N S x1 = some (r, S')) : Co l yX4_wanted wsX4_wanted rmX4_wanted D (cC t a) (aW 56 a) (tyC t) X [.ref (a 50), .int x1] S (Qi D (cC t a) (aW 56 a) (tyC t) r S') :=
  co_of (cc := cX4_wanted) (maxL := 6) (ret := (some .int)) (lv := [(0, .ref (a 50)), (1, .int x1)]) (by decide) rfl rfl (Nat.le_of_ble_eq_true rfl) rfl rfl (fun p e s m below meth c ls E hl w => k_X4_wanted_E hX E w hl hf)
-- X2_takeShopsOf_20_0
theorem in_X2_takeShopsOf_X2 : ∀ w ∈ u_ws RX2 TX2 16, w ∈ wsX2_takeShopsOf := by decide +kernel
theorem fl_X2_takeShopsOf_46 : Cond.fieldLink RX2 46 "NextDoor$Street" "shops" "I" ∈ wsX2_takeShopsOf := by decide +kernel
theorem fl_X2_takeShopsOf_9 : Cond.fieldLink RX2 9 "NextDoor$Street" "kind" "[I" ∈ wsX2_takeShopsOf := by decide +kernel
theorem cp_1_21_6 (t : Nat → ClassId) (a : Nat → Nat) (S : ST) : (cC t a S).set 21 (a 21, .inl (t 0, 6, .inl (va_cpy (S 1) (S 21) 0 0 6))) = cC t a (cpS S 1 21 0 0 6) := rfl
theorem ac1_X2_takeShopsOf_61 : Cond.methodLink RX2 61 arraycopyName ∈ wsX2_takeShopsOf := by decide +kernel
theorem ac2_X2_takeShopsOf : Cond.native arraycopyName ∈ wsX2_takeShopsOf := by decide +kernel
theorem ac3_X2_takeShopsOf : Cond.static arraycopyName ∈ wsX2_takeShopsOf := by decide +kernel
theorem ac4_X2_takeShopsOf : Cond.initialized "java/lang/System" ∈ wsX2_takeShopsOf := by decide +kernel
theorem fl_X2_takeShopsOf_15 : Cond.fieldLink RX2 15 "NextDoor$Street" "price" "[I" ∈ wsX2_takeShopsOf := by decide +kernel
theorem cp_2_22_6 (t : Nat → ClassId) (a : Nat → Nat) (S : ST) : (cC t a S).set 22 (a 22, .inl (t 0, 6, .inl (va_cpy (S 2) (S 22) 0 0 6))) = cC t a (cpS S 2 22 0 0 6) := rfl
theorem fl_X2_takeShopsOf_18 : Cond.fieldLink RX2 18 "NextDoor$Street" "minutes" "[I" ∈ wsX2_takeShopsOf := by decide +kernel
theorem cp_3_23_6 (t : Nat → ClassId) (a : Nat → Nat) (S : ST) : (cC t a S).set 23 (a 23, .inl (t 0, 6, .inl (va_cpy (S 3) (S 23) 0 0 6))) = cC t a (cpS S 3 23 0 0 6) := rfl
theorem fl_X2_takeShopsOf_21 : Cond.fieldLink RX2 21 "NextDoor$Street" "shut" "[I" ∈ wsX2_takeShopsOf := by decide +kernel
theorem cp_4_24_6 (t : Nat → ClassId) (a : Nat → Nat) (S : ST) : (cC t a S).set 24 (a 24, .inl (t 0, 6, .inl (va_cpy (S 4) (S 24) 0 0 6))) = cC t a (cpS S 4 24 0 0 6) := rfl
theorem fl_X2_takeShopsOf_24 : Cond.fieldLink RX2 24 "NextDoor$Street" "near" "[I" ∈ wsX2_takeShopsOf := by decide +kernel
theorem cp_5_25_6 (t : Nat → ClassId) (a : Nat → Nat) (S : ST) : (cC t a S).set 25 (a 25, .inl (t 0, 6, .inl (va_cpy (S 5) (S 25) 0 0 6))) = cC t a (cpS S 5 25 0 0 6) := rfl
theorem fl_X2_takeShopsOf_49 : Cond.fieldLink RX2 49 "NextDoor$Street" "freeOnes" "I" ∈ wsX2_takeShopsOf := by decide +kernel
theorem fl_X2_takeShopsOf_52 : Cond.fieldLink RX2 52 "NextDoor$Street" "bought" "I" ∈ wsX2_takeShopsOf := by decide +kernel
theorem fl_X2_takeShopsOf_34 : Cond.fieldLink RX2 34 "NextDoor$Street" "errand" "[I" ∈ wsX2_takeShopsOf := by decide +kernel
theorem cp_6_26_12 (t : Nat → ClassId) (a : Nat → Nat) (S : ST) : (cC t a S).set 26 (a 26, .inl (t 0, 12, .inl (va_cpy (S 6) (S 26) 0 0 12))) = cC t a (cpS S 6 26 0 0 12) := rfl
abbrev rmX2_takeShopsOf_20_0 : Room := { frames := 1, cells := 0, slots := 0, locals := 80 }
set_option maxHeartbeats 4000000 in
set_option maxRecDepth 100000 in
theorem k_X2_takeShopsOf_20_0_E {p : Program} {l : Launch} {e : Env} {s : State} {m : MethodId} {args : Array Value} {below : List Frame} {meth : Method} {c : Code} {D : va_G} {t : Nat → ClassId} {a : Nat → Nat} {X : State → Prop} {N : Nat} {S' : ST} (hX : XOk (aW 56 a) X) (E : EN p s m args meth c cX2_takeShopsOf RX2 wsX2_takeShopsOf none 2) {S : ST} {H : Heap} {locs : List Loc} {ls : Array Slot} (w : Wd D (cC t a) (aW 56 a) (tyC t) X S s H locs) (hl : lv_has ls 2 [(0, .ref (a 20)), (1, .ref (a 0))]) (hf : f_X2_takeShopsOf_20_0 N S = some S') : W p l e rmX2_takeShopsOf_20_0 s m args below meth c H locs 0 0 (MQ below (Qv D (cC t a) (aW 56 a) (tyC t) S') args s 0 0 (aW 56 a)) (F0 m 0 ls []) := by
  obtain ⟨⟨hx, hb, hml, hown, hts⟩, hr, hlk⟩ := id E
  unfold f_X2_takeShopsOf_20_0 at hf
  refine lv_aload_n hx hb dX2_takeShopsOf_0 rfl (lv_at hl 0 rfl) ?_
  refine lv_aload_n hx hb dX2_takeShopsOf_1 rfl (lv_at hl 1 rfl) ?_
  refine w_get E w in_X2_takeShopsOf_X2 0 (cC_at_0 t a S) rfl 0 (by decide) fl_X2_takeShopsOf_46 rfl rfl dX2_takeShopsOf_2 ?_
  obtain ⟨S1, eS1, hf⟩ := nm_o hf
  refine w_put (S1 := S1) E w in_X2_takeShopsOf_X2 tyX2 tyX2_ok nmX2 20 (cC_at_20 t a S) rfl 0 (by decide) fl_X2_takeShopsOf_46 rfl rfl rfl rfl rfl (Nat.le_of_ble_eq_true rfl) ((cC_set_20_0 t a S (S 0 0)).trans (congrArg (cC t a) eS1.symm)) dX2_takeShopsOf_5 (fun H locs w => ?_)
  refine lv_aload_n hx hb dX2_takeShopsOf_8 rfl (lv_at hl 1 rfl) ?_
  refine w_get E w in_X2_takeShopsOf_X2 0 (cC_at_0 t a S1) rfl 1 (by decide) fl_X2_takeShopsOf_9 rfl rfl dX2_takeShopsOf_9 ?_
  refine lv_iconst (v := 0) hx hb dX2_takeShopsOf_12 (by decide) ?_
  refine lv_aload_n hx hb dX2_takeShopsOf_13 rfl (lv_at hl 0 rfl) ?_
  refine w_get E w in_X2_takeShopsOf_X2 20 (cC_at_20 t a S1) rfl 1 (by decide) fl_X2_takeShopsOf_9 rfl rfl dX2_takeShopsOf_14 ?_
  refine lv_iconst (v := 0) hx hb dX2_takeShopsOf_17 (by decide) ?_
  refine lv_bipush (v := 6) hx hb dX2_takeShopsOf_18 (by decide) ?_
  obtain ⟨S2, eS2, hf⟩ := nm_o hf
  refine w_copy (S1 := S2) E w ac1_X2_takeShopsOf_61 ac2_X2_takeShopsOf ac3_X2_takeShopsOf ac4_X2_takeShopsOf hl.1 1 21 0 (cC_at_1 t a S1) (cC_at_21 t a S1) rfl 6 ix_6 (by decide) (by decide) (by decide) ((cp_1_21_6 t a S1).trans (congrArg (cC t a) eS2.symm)) (Nat.le_of_ble_eq_true rfl) (by decide) dX2_takeShopsOf_20 (fun H locs w => ?_)
  refine lv_aload_n hx hb dX2_takeShopsOf_23 rfl (lv_at hl 1 rfl) ?_
  refine w_get E w in_X2_takeShopsOf_X2 0 (cC_at_0 t a S2) rfl 2 (by decide) fl_X2_takeShopsOf_15 rfl rfl dX2_takeShopsOf_24 ?_
  refine lv_iconst (v := 0) hx hb dX2_takeShopsOf_27 (by decide) ?_
  refine lv_aload_n hx hb dX2_takeShopsOf_28 rfl (lv_at hl 0 rfl) ?_
  refine w_get E w in_X2_takeShopsOf_X2 20 (cC_at_20 t a S2) rfl 2 (by decide) fl_X2_takeShopsOf_15 rfl rfl dX2_takeShopsOf_29 ?_
  refine lv_iconst (v := 0) hx hb dX2_takeShopsOf_32 (by decide) ?_
  refine lv_bipush (v := 6) hx hb dX2_takeShopsOf_33 (by decide) ?_
  obtain ⟨S3, eS3, hf⟩ := nm_o hf
  refine w_copy (S1 := S3) E w ac1_X2_takeShopsOf_61 ac2_X2_takeShopsOf ac3_X2_takeShopsOf ac4_X2_takeShopsOf hl.1 2 22 0 (cC_at_2 t a S2) (cC_at_22 t a S2) rfl 6 ix_6 (by decide) (by decide) (by decide) ((cp_2_22_6 t a S2).trans (congrArg (cC t a) eS3.symm)) (Nat.le_of_ble_eq_true rfl) (by decide) dX2_takeShopsOf_35 (fun H locs w => ?_)
  refine lv_aload_n hx hb dX2_takeShopsOf_38 rfl (lv_at hl 1 rfl) ?_
  refine w_get E w in_X2_takeShopsOf_X2 0 (cC_at_0 t a S3) rfl 3 (by decide) fl_X2_takeShopsOf_18 rfl rfl dX2_takeShopsOf_39 ?_
  refine lv_iconst (v := 0) hx hb dX2_takeShopsOf_42 (by decide) ?_
  refine lv_aload_n hx hb dX2_takeShopsOf_43 rfl (lv_at hl 0 rfl) ?_
  refine w_get E w in_X2_takeShopsOf_X2 20 (cC_at_20 t a S3) rfl 3 (by decide) fl_X2_takeShopsOf_18 rfl rfl dX2_takeShopsOf_44 ?_
  refine lv_iconst (v := 0) hx hb dX2_takeShopsOf_47 (by decide) ?_
  refine lv_bipush (v := 6) hx hb dX2_takeShopsOf_48 (by decide) ?_
  obtain ⟨S4, eS4, hf⟩ := nm_o hf
  refine w_copy (S1 := S4) E w ac1_X2_takeShopsOf_61 ac2_X2_takeShopsOf ac3_X2_takeShopsOf ac4_X2_takeShopsOf hl.1 3 23 0 (cC_at_3 t a S3) (cC_at_23 t a S3) rfl 6 ix_6 (by decide) (by decide) (by decide) ((cp_3_23_6 t a S3).trans (congrArg (cC t a) eS4.symm)) (Nat.le_of_ble_eq_true rfl) (by decide) dX2_takeShopsOf_50 (fun H locs w => ?_)
  refine lv_aload_n hx hb dX2_takeShopsOf_53 rfl (lv_at hl 1 rfl) ?_
  refine w_get E w in_X2_takeShopsOf_X2 0 (cC_at_0 t a S4) rfl 4 (by decide) fl_X2_takeShopsOf_21 rfl rfl dX2_takeShopsOf_54 ?_
  refine lv_iconst (v := 0) hx hb dX2_takeShopsOf_57 (by decide) ?_
  refine lv_aload_n hx hb dX2_takeShopsOf_58 rfl (lv_at hl 0 rfl) ?_
  refine w_get E w in_X2_takeShopsOf_X2 20 (cC_at_20 t a S4) rfl 4 (by decide) fl_X2_takeShopsOf_21 rfl rfl dX2_takeShopsOf_59 ?_
  refine lv_iconst (v := 0) hx hb dX2_takeShopsOf_62 (by decide) ?_
  refine lv_bipush (v := 6) hx hb dX2_takeShopsOf_63 (by decide) ?_
  obtain ⟨S5, eS5, hf⟩ := nm_o hf
  refine w_copy (S1 := S5) E w ac1_X2_takeShopsOf_61 ac2_X2_takeShopsOf ac3_X2_takeShopsOf ac4_X2_takeShopsOf hl.1 4 24 0 (cC_at_4 t a S4) (cC_at_24 t a S4) rfl 6 ix_6 (by decide) (by decide) (by decide) ((cp_4_24_6 t a S4).trans (congrArg (cC t a) eS5.symm)) (Nat.le_of_ble_eq_true rfl) (by decide) dX2_takeShopsOf_65 (fun H locs w => ?_)
  refine lv_aload_n hx hb dX2_takeShopsOf_68 rfl (lv_at hl 1 rfl) ?_
  refine w_get E w in_X2_takeShopsOf_X2 0 (cC_at_0 t a S5) rfl 5 (by decide) fl_X2_takeShopsOf_24 rfl rfl dX2_takeShopsOf_69 ?_
  refine lv_iconst (v := 0) hx hb dX2_takeShopsOf_72 (by decide) ?_
  refine lv_aload_n hx hb dX2_takeShopsOf_73 rfl (lv_at hl 0 rfl) ?_
  refine w_get E w in_X2_takeShopsOf_X2 20 (cC_at_20 t a S5) rfl 5 (by decide) fl_X2_takeShopsOf_24 rfl rfl dX2_takeShopsOf_74 ?_
  refine lv_iconst (v := 0) hx hb dX2_takeShopsOf_77 (by decide) ?_
  refine lv_bipush (v := 6) hx hb dX2_takeShopsOf_78 (by decide) ?_
  obtain ⟨S6, eS6, hf⟩ := nm_o hf
  refine w_copy (S1 := S6) E w ac1_X2_takeShopsOf_61 ac2_X2_takeShopsOf ac3_X2_takeShopsOf ac4_X2_takeShopsOf hl.1 5 25 0 (cC_at_5 t a S5) (cC_at_25 t a S5) rfl 6 ix_6 (by decide) (by decide) (by decide) ((cp_5_25_6 t a S5).trans (congrArg (cC t a) eS6.symm)) (Nat.le_of_ble_eq_true rfl) (by decide) dX2_takeShopsOf_80 (fun H locs w => ?_)
  refine lv_aload_n hx hb dX2_takeShopsOf_83 rfl (lv_at hl 0 rfl) ?_
  refine lv_aload_n hx hb dX2_takeShopsOf_84 rfl (lv_at hl 1 rfl) ?_
  refine w_get E w in_X2_takeShopsOf_X2 0 (cC_at_0 t a S6) rfl 6 (by decide) fl_X2_takeShopsOf_49 rfl rfl dX2_takeShopsOf_85 ?_
  obtain ⟨S7, eS7, hf⟩ := nm_o hf
  refine w_put (S1 := S7) E w in_X2_takeShopsOf_X2 tyX2 tyX2_ok nmX2 20 (cC_at_20 t a S6) rfl 6 (by decide) fl_X2_takeShopsOf_49 rfl rfl rfl rfl rfl (Nat.le_of_ble_eq_true rfl) ((cC_set_20_6 t a S6 (S6 0 6)).trans (congrArg (cC t a) eS7.symm)) dX2_takeShopsOf_88 (fun H locs w => ?_)
  refine lv_aload_n hx hb dX2_takeShopsOf_91 rfl (lv_at hl 0 rfl) ?_
  refine lv_aload_n hx hb dX2_takeShopsOf_92 rfl (lv_at hl 1 rfl) ?_
  refine w_get E w in_X2_takeShopsOf_X2 0 (cC_at_0 t a S7) rfl 9 (by decide) fl_X2_takeShopsOf_52 rfl rfl dX2_takeShopsOf_93 ?_
  obtain ⟨S8, eS8, hf⟩ := nm_o hf
  refine w_put (S1 := S8) E w in_X2_takeShopsOf_X2 tyX2 tyX2_ok nmX2 20 (cC_at_20 t a S7) rfl 9 (by decide) fl_X2_takeShopsOf_52 rfl rfl rfl rfl rfl (Nat.le_of_ble_eq_true rfl) ((cC_set_20_9 t a S7 (S7 0 9)).trans (congrArg (cC t a) eS8.symm)) dX2_takeShopsOf_96 (fun H locs w => ?_)
  refine lv_aload_n hx hb dX2_takeShopsOf_99 rfl (lv_at hl 1 rfl) ?_
  refine w_get E w in_X2_takeShopsOf_X2 0 (cC_at_0 t a S8) rfl 10 (by decide) fl_X2_takeShopsOf_34 rfl rfl dX2_takeShopsOf_100 ?_
  refine lv_iconst (v := 0) hx hb dX2_takeShopsOf_103 (by decide) ?_
  refine lv_aload_n hx hb dX2_takeShopsOf_104 rfl (lv_at hl 0 rfl) ?_
  refine w_get E w in_X2_takeShopsOf_X2 20 (cC_at_20 t a S8) rfl 10 (by decide) fl_X2_takeShopsOf_34 rfl rfl dX2_takeShopsOf_105 ?_
  refine lv_iconst (v := 0) hx hb dX2_takeShopsOf_108 (by decide) ?_
  refine lv_bipush (v := 12) hx hb dX2_takeShopsOf_109 (by decide) ?_
  obtain ⟨S9, eS9, hf⟩ := nm_o hf
  refine w_copy (S1 := S9) E w ac1_X2_takeShopsOf_61 ac2_X2_takeShopsOf ac3_X2_takeShopsOf ac4_X2_takeShopsOf hl.1 6 26 0 (cC_at_6 t a S8) (cC_at_26 t a S8) rfl 12 ix_12 (by decide) (by decide) (by decide) ((cp_6_26_12 t a S8).trans (congrArg (cC t a) eS9.symm)) (Nat.le_of_ble_eq_true rfl) (by decide) dX2_takeShopsOf_111 (fun H locs w => ?_)
  exact w_retv E w hf dX2_takeShopsOf_114
theorem c_X2_takeShopsOf_20_0 (l : Launch) {D : va_G} {t : Nat → ClassId} {a : Nat → Nat} {X : State → Prop} (hX : XOk (aW 56 a) X) {N : Nat} {S : ST} {S' : ST} (hf : f_X2_takeShopsOf_20_0 N S = some S') : Co l yX2_takeShopsOf wsX2_takeShopsOf rmX2_takeShopsOf_20_0 D (cC t a) (aW 56 a) (tyC t) X [.ref (a 20), .ref (a 0)] S (Qv D (cC t a) (aW 56 a) (tyC t) S') :=
  co_of (cc := cX2_takeShopsOf) (maxL := 2) (ret := none) (lv := [(0, .ref (a 20)), (1, .ref (a 0))]) (by decide) rfl rfl (Nat.le_of_ble_eq_true rfl) rfl rfl (fun p e s m below meth c ls E hl w => k_X2_takeShopsOf_20_0_E hX E w hl hf)
-- X2_takeAllOf_20_0
theorem hd_X2_takeShopsOf : yX2_takeShopsOf.cls = RX2 ∧ yX2_takeShopsOf.cls ≠ "java/lang/invoke/MethodHandle" ∧ yX2_takeShopsOf.cls ≠ "java/lang/invoke/VarHandle" ∧ (parseMethodDescriptor yX2_takeShopsOf.desc).map (fun d => d.parameters.length) = some 1 := by decide +kernel
theorem in_X2_takeAllOf_X2 : ∀ w ∈ u_ws RX2 TX2 16, w ∈ wsX2_takeAllOf := by decide +kernel
theorem fl_X2_takeAllOf_27 : Cond.fieldLink RX2 27 "NextDoor$Street" "purse" "I" ∈ wsX2_takeAllOf := by decide +kernel
theorem fl_X2_takeAllOf_31 : Cond.fieldLink RX2 31 "NextDoor$Street" "arms" "I" ∈ wsX2_takeAllOf := by decide +kernel
theorem fl_X2_takeAllOf_55 : Cond.fieldLink RX2 55 "NextDoor$Street" "length" "I" ∈ wsX2_takeAllOf := by decide +kernel
theorem fl_X2_takeAllOf_37 : Cond.fieldLink RX2 37 "NextDoor$Street" "text" "[I" ∈ wsX2_takeAllOf := by decide +kernel
theorem cp_7_27_200 (t : Nat → ClassId) (a : Nat → Nat) (S : ST) : (cC t a S).set 27 (a 27, .inl (t 0, 200, .inl (va_cpy (S 7) (S 27) 0 0 200))) = cC t a (cpS S 7 27 0 0 200) := rfl
theorem ac1_X2_takeAllOf_61 : Cond.methodLink RX2 61 arraycopyName ∈ wsX2_takeAllOf := by decide +kernel
theorem ac2_X2_takeAllOf : Cond.native arraycopyName ∈ wsX2_takeAllOf := by decide +kernel
theorem ac3_X2_takeAllOf : Cond.static arraycopyName ∈ wsX2_takeAllOf := by decide +kernel
theorem ac4_X2_takeAllOf : Cond.initialized "java/lang/System" ∈ wsX2_takeAllOf := by decide +kernel
theorem fl_X2_takeAllOf_58 : Cond.fieldLink RX2 58 "NextDoor$Street" "buyers" "I" ∈ wsX2_takeAllOf := by decide +kernel
theorem fl_X2_takeAllOf_40 : Cond.fieldLink RX2 40 "NextDoor$Street" "want" "[I" ∈ wsX2_takeAllOf := by decide +kernel
theorem cp_8_28_6 (t : Nat → ClassId) (a : Nat → Nat) (S : ST) : (cC t a S).set 28 (a 28, .inl (t 0, 6, .inl (va_cpy (S 8) (S 28) 0 0 6))) = cC t a (cpS S 8 28 0 0 6) := rfl
theorem fl_X2_takeAllOf_43 : Cond.fieldLink RX2 43 "NextDoor$Street" "limit" "[I" ∈ wsX2_takeAllOf := by decide +kernel
theorem cp_9_29_6 (t : Nat → ClassId) (a : Nat → Nat) (S : ST) : (cC t a S).set 29 (a 29, .inl (t 0, 6, .inl (va_cpy (S 9) (S 29) 0 0 6))) = cC t a (cpS S 9 29 0 0 6) := rfl
abbrev rmX2_takeAllOf_20_0 : Room := { frames := 2, cells := 0, slots := 0, locals := 101 }
set_option maxHeartbeats 4000000 in
set_option maxRecDepth 100000 in
theorem k_X2_takeAllOf_20_0_E {p : Program} {l : Launch} {e : Env} {s : State} {m : MethodId} {args : Array Value} {below : List Frame} {meth : Method} {c : Code} {D : va_G} {t : Nat → ClassId} {a : Nat → Nat} {X : State → Prop} {N : Nat} {S' : ST} (hX : XOk (aW 56 a) X) (E : EN p s m args meth c cX2_takeAllOf RX2 wsX2_takeAllOf none 2) {S : ST} {H : Heap} {locs : List Loc} {ls : Array Slot} (w : Wd D (cC t a) (aW 56 a) (tyC t) X S s H locs) (hl : lv_has ls 2 [(0, .ref (a 20)), (1, .ref (a 0))]) (hf : f_X2_takeAllOf_20_0 N S = some S') : W p l e rmX2_takeAllOf_20_0 s m args below meth c H locs 0 0 (MQ below (Qv D (cC t a) (aW 56 a) (tyC t) S') args s 0 0 (aW 56 a)) (F0 m 0 ls []) := by
  obtain ⟨⟨hx, hb, hml, hown, hts⟩, hr, hlk⟩ := id E
  unfold f_X2_takeAllOf_20_0 at hf
  refine lv_aload_n hx hb dX2_takeAllOf_0 rfl (lv_at hl 0 rfl) ?_
  refine lv_aload_n hx hb dX2_takeAllOf_1 rfl (lv_at hl 1 rfl) ?_
  obtain ⟨S2, h1, hf⟩ := bd1_o hf
  refine w_callVv (As := [.ref (a 0)]) (rest := []) hX E w (c_X2_takeShopsOf_20_0 l hX h1) (cwV 1 hts gX2_takeAllOf_X2_takeShopsOf rfl rfl rfl hd_X2_takeShopsOf ⟨Nat.le_of_ble_eq_true rfl, Nat.le_of_ble_eq_true rfl⟩) (ci := 2) rfl (cC_at_20 t a S) rfl hl.1 rfl (Nat.le_of_ble_eq_true rfl) dX2_takeAllOf_2 ⟨Nat.le_refl _, Nat.le_refl _⟩ (fun H locs w => ?_)
  refine lv_aload_n hx hb dX2_takeAllOf_5 rfl (lv_at hl 0 rfl) ?_
  refine lv_aload_n hx hb dX2_takeAllOf_6 rfl (lv_at hl 1 rfl) ?_
  refine w_get E w in_X2_takeAllOf_X2 0 (cC_at_0 t a S2) rfl 7 (by decide) fl_X2_takeAllOf_27 rfl rfl dX2_takeAllOf_7 ?_
  obtain ⟨S3, eS3, hf⟩ := nm_o hf
  refine w_put (S1 := S3) E w in_X2_takeAllOf_X2 tyX2 tyX2_ok nmX2 20 (cC_at_20 t a S2) rfl 7 (by decide) fl_X2_takeAllOf_27 rfl rfl rfl rfl rfl (Nat.le_of_ble_eq_true rfl) ((cC_set_20_7 t a S2 (S2 0 7)).trans (congrArg (cC t a) eS3.symm)) dX2_takeAllOf_10 (fun H locs w => ?_)
  refine lv_aload_n hx hb dX2_takeAllOf_13 rfl (lv_at hl 0 rfl) ?_
  refine lv_aload_n hx hb dX2_takeAllOf_14 rfl (lv_at hl 1 rfl) ?_
  refine w_get E w in_X2_takeAllOf_X2 0 (cC_at_0 t a S3) rfl 8 (by decide) fl_X2_takeAllOf_31 rfl rfl dX2_takeAllOf_15 ?_
  obtain ⟨S4, eS4, hf⟩ := nm_o hf
  refine w_put (S1 := S4) E w in_X2_takeAllOf_X2 tyX2 tyX2_ok nmX2 20 (cC_at_20 t a S3) rfl 8 (by decide) fl_X2_takeAllOf_31 rfl rfl rfl rfl rfl (Nat.le_of_ble_eq_true rfl) ((cC_set_20_8 t a S3 (S3 0 8)).trans (congrArg (cC t a) eS4.symm)) dX2_takeAllOf_18 (fun H locs w => ?_)
  refine lv_aload_n hx hb dX2_takeAllOf_21 rfl (lv_at hl 0 rfl) ?_
  refine lv_aload_n hx hb dX2_takeAllOf_22 rfl (lv_at hl 1 rfl) ?_
  refine w_get E w in_X2_takeAllOf_X2 0 (cC_at_0 t a S4) rfl 11 (by decide) fl_X2_takeAllOf_55 rfl rfl dX2_takeAllOf_23 ?_
  obtain ⟨S5, eS5, hf⟩ := nm_o hf
  refine w_put (S1 := S5) E w in_X2_takeAllOf_X2 tyX2 tyX2_ok nmX2 20 (cC_at_20 t a S4) rfl 11 (by decide) fl_X2_takeAllOf_55 rfl rfl rfl rfl rfl (Nat.le_of_ble_eq_true rfl) ((cC_set_20_11 t a S4 (S4 0 11)).trans (congrArg (cC t a) eS5.symm)) dX2_takeAllOf_26 (fun H locs w => ?_)
  refine lv_aload_n hx hb dX2_takeAllOf_29 rfl (lv_at hl 1 rfl) ?_
  refine w_get E w in_X2_takeAllOf_X2 0 (cC_at_0 t a S5) rfl 12 (by decide) fl_X2_takeAllOf_37 rfl rfl dX2_takeAllOf_30 ?_
  refine lv_iconst (v := 0) hx hb dX2_takeAllOf_33 (by decide) ?_
  refine lv_aload_n hx hb dX2_takeAllOf_34 rfl (lv_at hl 0 rfl) ?_
  refine w_get E w in_X2_takeAllOf_X2 20 (cC_at_20 t a S5) rfl 12 (by decide) fl_X2_takeAllOf_37 rfl rfl dX2_takeAllOf_35 ?_
  refine lv_iconst (v := 0) hx hb dX2_takeAllOf_38 (by decide) ?_
  refine lv_sipush (v := 200) hx hb dX2_takeAllOf_39 (by decide) ?_
  obtain ⟨S6, eS6, hf⟩ := nm_o hf
  refine w_copy (S1 := S6) E w ac1_X2_takeAllOf_61 ac2_X2_takeAllOf ac3_X2_takeAllOf ac4_X2_takeAllOf hl.1 7 27 0 (cC_at_7 t a S5) (cC_at_27 t a S5) rfl 200 ix_200 (by decide) (by decide) (by decide) ((cp_7_27_200 t a S5).trans (congrArg (cC t a) eS6.symm)) (Nat.le_of_ble_eq_true rfl) (by decide) dX2_takeAllOf_42 (fun H locs w => ?_)
  refine lv_aload_n hx hb dX2_takeAllOf_45 rfl (lv_at hl 0 rfl) ?_
  refine lv_aload_n hx hb dX2_takeAllOf_46 rfl (lv_at hl 1 rfl) ?_
  refine w_get E w in_X2_takeAllOf_X2 0 (cC_at_0 t a S6) rfl 13 (by decide) fl_X2_takeAllOf_58 rfl rfl dX2_takeAllOf_47 ?_
  obtain ⟨S7, eS7, hf⟩ := nm_o hf
  refine w_put (S1 := S7) E w in_X2_takeAllOf_X2 tyX2 tyX2_ok nmX2 20 (cC_at_20 t a S6) rfl 13 (by decide) fl_X2_takeAllOf_58 rfl rfl rfl rfl rfl (Nat.le_of_ble_eq_true rfl) ((cC_set_20_13 t a S6 (S6 0 13)).trans (congrArg (cC t a) eS7.symm)) dX2_takeAllOf_50 (fun H locs w => ?_)
  refine lv_aload_n hx hb dX2_takeAllOf_53 rfl (lv_at hl 1 rfl) ?_
  refine w_get E w in_X2_takeAllOf_X2 0 (cC_at_0 t a S7) rfl 14 (by decide) fl_X2_takeAllOf_40 rfl rfl dX2_takeAllOf_54 ?_
  refine lv_iconst (v := 0) hx hb dX2_takeAllOf_57 (by decide) ?_
  refine lv_aload_n hx hb dX2_takeAllOf_58 rfl (lv_at hl 0 rfl) ?_
  refine w_get E w in_X2_takeAllOf_X2 20 (cC_at_20 t a S7) rfl 14 (by decide) fl_X2_takeAllOf_40 rfl rfl dX2_takeAllOf_59 ?_
  refine lv_iconst (v := 0) hx hb dX2_takeAllOf_62 (by decide) ?_
  refine lv_bipush (v := 6) hx hb dX2_takeAllOf_63 (by decide) ?_
  obtain ⟨S8, eS8, hf⟩ := nm_o hf
  refine w_copy (S1 := S8) E w ac1_X2_takeAllOf_61 ac2_X2_takeAllOf ac3_X2_takeAllOf ac4_X2_takeAllOf hl.1 8 28 0 (cC_at_8 t a S7) (cC_at_28 t a S7) rfl 6 ix_6 (by decide) (by decide) (by decide) ((cp_8_28_6 t a S7).trans (congrArg (cC t a) eS8.symm)) (Nat.le_of_ble_eq_true rfl) (by decide) dX2_takeAllOf_65 (fun H locs w => ?_)
  refine lv_aload_n hx hb dX2_takeAllOf_68 rfl (lv_at hl 1 rfl) ?_
  refine w_get E w in_X2_takeAllOf_X2 0 (cC_at_0 t a S8) rfl 15 (by decide) fl_X2_takeAllOf_43 rfl rfl dX2_takeAllOf_69 ?_
  refine lv_iconst (v := 0) hx hb dX2_takeAllOf_72 (by decide) ?_
  refine lv_aload_n hx hb dX2_takeAllOf_73 rfl (lv_at hl 0 rfl) ?_
  refine w_get E w in_X2_takeAllOf_X2 20 (cC_at_20 t a S8) rfl 15 (by decide) fl_X2_takeAllOf_43 rfl rfl dX2_takeAllOf_74 ?_
  refine lv_iconst (v := 0) hx hb dX2_takeAllOf_77 (by decide) ?_
  refine lv_bipush (v := 6) hx hb dX2_takeAllOf_78 (by decide) ?_
  obtain ⟨S9, eS9, hf⟩ := nm_o hf
  refine w_copy (S1 := S9) E w ac1_X2_takeAllOf_61 ac2_X2_takeAllOf ac3_X2_takeAllOf ac4_X2_takeAllOf hl.1 9 29 0 (cC_at_9 t a S8) (cC_at_29 t a S8) rfl 6 ix_6 (by decide) (by decide) (by decide) ((cp_9_29_6 t a S8).trans (congrArg (cC t a) eS9.symm)) (Nat.le_of_ble_eq_true rfl) (by decide) dX2_takeAllOf_80 (fun H locs w => ?_)
  exact w_retv E w hf dX2_takeAllOf_83
theorem c_X2_takeAllOf_20_0 (l : Launch) {D : va_G} {t : Nat → ClassId} {a : Nat → Nat} {X : State → Prop} (hX : XOk (aW 56 a) X) {N : Nat} {S : ST} {S' : ST} (hf : f_X2_takeAllOf_20_0 N S = some S') : Co l yX2_takeAllOf wsX2_takeAllOf rmX2_takeAllOf_20_0 D (cC t a) (aW 56 a) (tyC t) X [.ref (a 20), .ref (a 0)] S (Qv D (cC t a) (aW 56 a) (tyC t) S') :=
  co_of (cc := cX2_takeAllOf) (maxL := 2) (ret := none) (lv := [(0, .ref (a 20)), (1, .ref (a 0))]) (by decide) rfl rfl (Nat.le_of_ble_eq_true rfl) rfl rfl (fun p e s m below meth c ls E hl w => k_X2_takeAllOf_20_0_E hX E w hl hf)
-- X2_takeShopsOf_30_0
theorem cp_1_31_6 (t : Nat → ClassId) (a : Nat → Nat) (S : ST) : (cC t a S).set 31 (a 31, .inl (t 0, 6, .inl (va_cpy (S 1) (S 31) 0 0 6))) = cC t a (cpS S 1 31 0 0 6) := rfl
theorem cp_2_32_6 (t : Nat → ClassId) (a : Nat → Nat) (S : ST) : (cC t a S).set 32 (a 32, .inl (t 0, 6, .inl (va_cpy (S 2) (S 32) 0 0 6))) = cC t a (cpS S 2 32 0 0 6) := rfl
theorem cp_3_33_6 (t : Nat → ClassId) (a : Nat → Nat) (S : ST) : (cC t a S).set 33 (a 33, .inl (t 0, 6, .inl (va_cpy (S 3) (S 33) 0 0 6))) = cC t a (cpS S 3 33 0 0 6) := rfl
theorem cp_4_34_6 (t : Nat → ClassId) (a : Nat → Nat) (S : ST) : (cC t a S).set 34 (a 34, .inl (t 0, 6, .inl (va_cpy (S 4) (S 34) 0 0 6))) = cC t a (cpS S 4 34 0 0 6) := rfl
theorem cp_5_35_6 (t : Nat → ClassId) (a : Nat → Nat) (S : ST) : (cC t a S).set 35 (a 35, .inl (t 0, 6, .inl (va_cpy (S 5) (S 35) 0 0 6))) = cC t a (cpS S 5 35 0 0 6) := rfl
theorem cp_6_36_12 (t : Nat → ClassId) (a : Nat → Nat) (S : ST) : (cC t a S).set 36 (a 36, .inl (t 0, 12, .inl (va_cpy (S 6) (S 36) 0 0 12))) = cC t a (cpS S 6 36 0 0 12) := rfl
abbrev rmX2_takeShopsOf_30_0 : Room := { frames := 1, cells := 0, slots := 0, locals := 80 }
set_option maxHeartbeats 4000000 in
set_option maxRecDepth 100000 in
theorem k_X2_takeShopsOf_30_0_E {p : Program} {l : Launch} {e : Env} {s : State} {m : MethodId} {args : Array Value} {below : List Frame} {meth : Method} {c : Code} {D : va_G} {t : Nat → ClassId} {a : Nat → Nat} {X : State → Prop} {N : Nat} {S' : ST} (hX : XOk (aW 56 a) X) (E : EN p s m args meth c cX2_takeShopsOf RX2 wsX2_takeShopsOf none 2) {S : ST} {H : Heap} {locs : List Loc} {ls : Array Slot} (w : Wd D (cC t a) (aW 56 a) (tyC t) X S s H locs) (hl : lv_has ls 2 [(0, .ref (a 30)), (1, .ref (a 0))]) (hf : f_X2_takeShopsOf_30_0 N S = some S') : W p l e rmX2_takeShopsOf_30_0 s m args below meth c H locs 0 0 (MQ below (Qv D (cC t a) (aW 56 a) (tyC t) S') args s 0 0 (aW 56 a)) (F0 m 0 ls []) := by
  obtain ⟨⟨hx, hb, hml, hown, hts⟩, hr, hlk⟩ := id E
  unfold f_X2_takeShopsOf_30_0 at hf
  refine lv_aload_n hx hb dX2_takeShopsOf_0 rfl (lv_at hl 0 rfl) ?_
  refine lv_aload_n hx hb dX2_takeShopsOf_1 rfl (lv_at hl 1 rfl) ?_
  refine w_get E w in_X2_takeShopsOf_X2 0 (cC_at_0 t a S) rfl 0 (by decide) fl_X2_takeShopsOf_46 rfl rfl dX2_takeShopsOf_2 ?_
  obtain ⟨S1, eS1, hf⟩ := nm_o hf
  refine w_put (S1 := S1) E w in_X2_takeShopsOf_X2 tyX2 tyX2_ok nmX2 30 (cC_at_30 t a S) rfl 0 (by decide) fl_X2_takeShopsOf_46 rfl rfl rfl rfl rfl (Nat.le_of_ble_eq_true rfl) ((cC_set_30_0 t a S (S 0 0)).trans (congrArg (cC t a) eS1.symm)) dX2_takeShopsOf_5 (fun H locs w => ?_)
  refine lv_aload_n hx hb dX2_takeShopsOf_8 rfl (lv_at hl 1 rfl) ?_
  refine w_get E w in_X2_takeShopsOf_X2 0 (cC_at_0 t a S1) rfl 1 (by decide) fl_X2_takeShopsOf_9 rfl rfl dX2_takeShopsOf_9 ?_
  refine lv_iconst (v := 0) hx hb dX2_takeShopsOf_12 (by decide) ?_
  refine lv_aload_n hx hb dX2_takeShopsOf_13 rfl (lv_at hl 0 rfl) ?_
  refine w_get E w in_X2_takeShopsOf_X2 30 (cC_at_30 t a S1) rfl 1 (by decide) fl_X2_takeShopsOf_9 rfl rfl dX2_takeShopsOf_14 ?_
  refine lv_iconst (v := 0) hx hb dX2_takeShopsOf_17 (by decide) ?_
  refine lv_bipush (v := 6) hx hb dX2_takeShopsOf_18 (by decide) ?_
  obtain ⟨S2, eS2, hf⟩ := nm_o hf
  refine w_copy (S1 := S2) E w ac1_X2_takeShopsOf_61 ac2_X2_takeShopsOf ac3_X2_takeShopsOf ac4_X2_takeShopsOf hl.1 1 31 0 (cC_at_1 t a S1) (cC_at_31 t a S1) rfl 6 ix_6 (by decide) (by decide) (by decide) ((cp_1_31_6 t a S1).trans (congrArg (cC t a) eS2.symm)) (Nat.le_of_ble_eq_true rfl) (by decide) dX2_takeShopsOf_20 (fun H locs w => ?_)
  refine lv_aload_n hx hb dX2_takeShopsOf_23 rfl (lv_at hl 1 rfl) ?_
  refine w_get E w in_X2_takeShopsOf_X2 0 (cC_at_0 t a S2) rfl 2 (by decide) fl_X2_takeShopsOf_15 rfl rfl dX2_takeShopsOf_24 ?_
  refine lv_iconst (v := 0) hx hb dX2_takeShopsOf_27 (by decide) ?_
  refine lv_aload_n hx hb dX2_takeShopsOf_28 rfl (lv_at hl 0 rfl) ?_
  refine w_get E w in_X2_takeShopsOf_X2 30 (cC_at_30 t a S2) rfl 2 (by decide) fl_X2_takeShopsOf_15 rfl rfl dX2_takeShopsOf_29 ?_
  refine lv_iconst (v := 0) hx hb dX2_takeShopsOf_32 (by decide) ?_
  refine lv_bipush (v := 6) hx hb dX2_takeShopsOf_33 (by decide) ?_
  obtain ⟨S3, eS3, hf⟩ := nm_o hf
  refine w_copy (S1 := S3) E w ac1_X2_takeShopsOf_61 ac2_X2_takeShopsOf ac3_X2_takeShopsOf ac4_X2_takeShopsOf hl.1 2 32 0 (cC_at_2 t a S2) (cC_at_32 t a S2) rfl 6 ix_6 (by decide) (by decide) (by decide) ((cp_2_32_6 t a S2).trans (congrArg (cC t a) eS3.symm)) (Nat.le_of_ble_eq_true rfl) (by decide) dX2_takeShopsOf_35 (fun H locs w => ?_)
  refine lv_aload_n hx hb dX2_takeShopsOf_38 rfl (lv_at hl 1 rfl) ?_
  refine w_get E w in_X2_takeShopsOf_X2 0 (cC_at_0 t a S3) rfl 3 (by decide) fl_X2_takeShopsOf_18 rfl rfl dX2_takeShopsOf_39 ?_
  refine lv_iconst (v := 0) hx hb dX2_takeShopsOf_42 (by decide) ?_
  refine lv_aload_n hx hb dX2_takeShopsOf_43 rfl (lv_at hl 0 rfl) ?_
  refine w_get E w in_X2_takeShopsOf_X2 30 (cC_at_30 t a S3) rfl 3 (by decide) fl_X2_takeShopsOf_18 rfl rfl dX2_takeShopsOf_44 ?_
  refine lv_iconst (v := 0) hx hb dX2_takeShopsOf_47 (by decide) ?_
  refine lv_bipush (v := 6) hx hb dX2_takeShopsOf_48 (by decide) ?_
  obtain ⟨S4, eS4, hf⟩ := nm_o hf
  refine w_copy (S1 := S4) E w ac1_X2_takeShopsOf_61 ac2_X2_takeShopsOf ac3_X2_takeShopsOf ac4_X2_takeShopsOf hl.1 3 33 0 (cC_at_3 t a S3) (cC_at_33 t a S3) rfl 6 ix_6 (by decide) (by decide) (by decide) ((cp_3_33_6 t a S3).trans (congrArg (cC t a) eS4.symm)) (Nat.le_of_ble_eq_true rfl) (by decide) dX2_takeShopsOf_50 (fun H locs w => ?_)
  refine lv_aload_n hx hb dX2_takeShopsOf_53 rfl (lv_at hl 1 rfl) ?_
  refine w_get E w in_X2_takeShopsOf_X2 0 (cC_at_0 t a S4) rfl 4 (by decide) fl_X2_takeShopsOf_21 rfl rfl dX2_takeShopsOf_54 ?_
  refine lv_iconst (v := 0) hx hb dX2_takeShopsOf_57 (by decide) ?_
  refine lv_aload_n hx hb dX2_takeShopsOf_58 rfl (lv_at hl 0 rfl) ?_
  refine w_get E w in_X2_takeShopsOf_X2 30 (cC_at_30 t a S4) rfl 4 (by decide) fl_X2_takeShopsOf_21 rfl rfl dX2_takeShopsOf_59 ?_
  refine lv_iconst (v := 0) hx hb dX2_takeShopsOf_62 (by decide) ?_
  refine lv_bipush (v := 6) hx hb dX2_takeShopsOf_63 (by decide) ?_
  obtain ⟨S5, eS5, hf⟩ := nm_o hf
  refine w_copy (S1 := S5) E w ac1_X2_takeShopsOf_61 ac2_X2_takeShopsOf ac3_X2_takeShopsOf ac4_X2_takeShopsOf hl.1 4 34 0 (cC_at_4 t a S4) (cC_at_34 t a S4) rfl 6 ix_6 (by decide) (by decide) (by decide) ((cp_4_34_6 t a S4).trans (congrArg (cC t a) eS5.symm)) (Nat.le_of_ble_eq_true rfl) (by decide) dX2_takeShopsOf_65 (fun H locs w => ?_)
  refine lv_aload_n hx hb dX2_takeShopsOf_68 rfl (lv_at hl 1 rfl) ?_
  refine w_get E w in_X2_takeShopsOf_X2 0 (cC_at_0 t a S5) rfl 5 (by decide) fl_X2_takeShopsOf_24 rfl rfl dX2_takeShopsOf_69 ?_
  refine lv_iconst (v := 0) hx hb dX2_takeShopsOf_72 (by decide) ?_
  refine lv_aload_n hx hb dX2_takeShopsOf_73 rfl (lv_at hl 0 rfl) ?_
  refine w_get E w in_X2_takeShopsOf_X2 30 (cC_at_30 t a S5) rfl 5 (by decide) fl_X2_takeShopsOf_24 rfl rfl dX2_takeShopsOf_74 ?_
  refine lv_iconst (v := 0) hx hb dX2_takeShopsOf_77 (by decide) ?_
  refine lv_bipush (v := 6) hx hb dX2_takeShopsOf_78 (by decide) ?_
  obtain ⟨S6, eS6, hf⟩ := nm_o hf
  refine w_copy (S1 := S6) E w ac1_X2_takeShopsOf_61 ac2_X2_takeShopsOf ac3_X2_takeShopsOf ac4_X2_takeShopsOf hl.1 5 35 0 (cC_at_5 t a S5) (cC_at_35 t a S5) rfl 6 ix_6 (by decide) (by decide) (by decide) ((cp_5_35_6 t a S5).trans (congrArg (cC t a) eS6.symm)) (Nat.le_of_ble_eq_true rfl) (by decide) dX2_takeShopsOf_80 (fun H locs w => ?_)
  refine lv_aload_n hx hb dX2_takeShopsOf_83 rfl (lv_at hl 0 rfl) ?_
  refine lv_aload_n hx hb dX2_takeShopsOf_84 rfl (lv_at hl 1 rfl) ?_
  refine w_get E w in_X2_takeShopsOf_X2 0 (cC_at_0 t a S6) rfl 6 (by decide) fl_X2_takeShopsOf_49 rfl rfl dX2_takeShopsOf_85 ?_
  obtain ⟨S7, eS7, hf⟩ := nm_o hf
  refine w_put (S1 := S7) E w in_X2_takeShopsOf_X2 tyX2 tyX2_ok nmX2 30 (cC_at_30 t a S6) rfl 6 (by decide) fl_X2_takeShopsOf_49 rfl rfl rfl rfl rfl (Nat.le_of_ble_eq_true rfl) ((cC_set_30_6 t a S6 (S6 0 6)).trans (congrArg (cC t a) eS7.symm)) dX2_takeShopsOf_88 (fun H locs w => ?_)
  refine lv_aload_n hx hb dX2_takeShopsOf_91 rfl (lv_at hl 0 rfl) ?_
  refine lv_aload_n hx hb dX2_takeShopsOf_92 rfl (lv_at hl 1 rfl) ?_
  refine w_get E w in_X2_takeShopsOf_X2 0 (cC_at_0 t a S7) rfl 9 (by decide) fl_X2_takeShopsOf_52 rfl rfl dX2_takeShopsOf_93 ?_
  obtain ⟨S8, eS8, hf⟩ := nm_o hf
  refine w_put (S1 := S8) E w in_X2_takeShopsOf_X2 tyX2 tyX2_ok nmX2 30 (cC_at_30 t a S7) rfl 9 (by decide) fl_X2_takeShopsOf_52 rfl rfl rfl rfl rfl (Nat.le_of_ble_eq_true rfl) ((cC_set_30_9 t a S7 (S7 0 9)).trans (congrArg (cC t a) eS8.symm)) dX2_takeShopsOf_96 (fun H locs w => ?_)
  refine lv_aload_n hx hb dX2_takeShopsOf_99 rfl (lv_at hl 1 rfl) ?_
  refine w_get E w in_X2_takeShopsOf_X2 0 (cC_at_0 t a S8) rfl 10 (by decide) fl_X2_takeShopsOf_34 rfl rfl dX2_takeShopsOf_100 ?_
  refine lv_iconst (v := 0) hx hb dX2_takeShopsOf_103 (by decide) ?_
  refine lv_aload_n hx hb dX2_takeShopsOf_104 rfl (lv_at hl 0 rfl) ?_
  refine w_get E w in_X2_takeShopsOf_X2 30 (cC_at_30 t a S8) rfl 10 (by decide) fl_X2_takeShopsOf_34 rfl rfl dX2_takeShopsOf_105 ?_
  refine lv_iconst (v := 0) hx hb dX2_takeShopsOf_108 (by decide) ?_
  refine lv_bipush (v := 12) hx hb dX2_takeShopsOf_109 (by decide) ?_
  obtain ⟨S9, eS9, hf⟩ := nm_o hf
  refine w_copy (S1 := S9) E w ac1_X2_takeShopsOf_61 ac2_X2_takeShopsOf ac3_X2_takeShopsOf ac4_X2_takeShopsOf hl.1 6 36 0 (cC_at_6 t a S8) (cC_at_36 t a S8) rfl 12 ix_12 (by decide) (by decide) (by decide) ((cp_6_36_12 t a S8).trans (congrArg (cC t a) eS9.symm)) (Nat.le_of_ble_eq_true rfl) (by decide) dX2_takeShopsOf_111 (fun H locs w => ?_)
  exact w_retv E w hf dX2_takeShopsOf_114
theorem c_X2_takeShopsOf_30_0 (l : Launch) {D : va_G} {t : Nat → ClassId} {a : Nat → Nat} {X : State → Prop} (hX : XOk (aW 56 a) X) {N : Nat} {S : ST} {S' : ST} (hf : f_X2_takeShopsOf_30_0 N S = some S') : Co l yX2_takeShopsOf wsX2_takeShopsOf rmX2_takeShopsOf_30_0 D (cC t a) (aW 56 a) (tyC t) X [.ref (a 30), .ref (a 0)] S (Qv D (cC t a) (aW 56 a) (tyC t) S') :=
  co_of (cc := cX2_takeShopsOf) (maxL := 2) (ret := none) (lv := [(0, .ref (a 30)), (1, .ref (a 0))]) (by decide) rfl rfl (Nat.le_of_ble_eq_true rfl) rfl rfl (fun p e s m below meth c ls E hl w => k_X2_takeShopsOf_30_0_E hX E w hl hf)
