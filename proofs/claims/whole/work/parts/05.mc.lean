-- X5_read
theorem in_X5_read_X5 : ∀ w ∈ u_ws RX5 TX5 28, w ∈ wsX5_read := by decide +kernel
theorem fl_X5_read_203 : Cond.fieldLink RX5 203 "NextDoorModel" "readShops" "I" ∈ wsX5_read := by decide +kernel
theorem fl_X5_read_23 : Cond.fieldLink RX5 23 "NextDoorModel" "reading" "[I" ∈ wsX5_read := by decide +kernel
theorem fl_X5_read_182 : Cond.fieldLink RX5 182 "NextDoorModel" "token" "I" ∈ wsX5_read := by decide +kernel
theorem hd_X5_readItem : yX5_readItem.cls = RX5 ∧ yX5_readItem.cls ≠ "java/lang/invoke/MethodHandle" ∧ yX5_readItem.cls ≠ "java/lang/invoke/VarHandle" ∧ (parseMethodDescriptor yX5_readItem.desc).map (fun d => d.parameters.length) = some 0 := by decide +kernel
theorem fl_X5_read_173 : Cond.fieldLink RX5 173 "NextDoorModel" "tokenAt" "I" ∈ wsX5_read := by decide +kernel
theorem fl_X5_read_7 : Cond.fieldLink RX5 7 "NextDoorModel" "now" "[I" ∈ wsX5_read := by decide +kernel
abbrev rmX5_read : Room := { frames := 7, cells := 0, slots := 0, locals := 154 }
set_option maxHeartbeats 4000000 in
set_option maxRecDepth 100000 in
theorem k_X5_read_108 {p : Program} {l : Launch} {e : Env} {s : State} {m : MethodId} {args : Array Value} {below : List Frame} {meth : Method} {c : Code} {D : va_G} {t : Nat → ClassId} {a : Nat → Nat} {X : State → Prop} {N : Nat} {r : Int32} {S' : ST} (hX : XOk (aW 17 a) X) (E : EN p s m args meth c cX5_read RX5 wsX5_read (some .int) 3) {k70 : ST → Int32 → Int32 → Option (Int32 × ST)} (hk70 : ∀ {S : ST} {x1 : Int32} {x2 : Int32} {H : Heap} {locs : List Loc} {ls : Array Slot}, Wd D (cM t a) (aW 17 a) (tyM t) X S s H locs → lv_has ls 3 [(0, .ref (a 0)), (1, .int x1), (2, .int x2)] → k70 S x1 x2 = some (r, S') → W p l e rmX5_read s m args below meth c H locs 0 0 (MQ below (Qi D (cM t a) (aW 17 a) (tyM t) r S') args s 0 0 (aW 17 a)) (F0 m 70 ls [])) {S : ST} {x1 : Int32} {x2 : Int32} {s1 : Int32} {s2 : Int32} {H : Heap} {locs : List Loc} {ls : Array Slot} (w : Wd D (cM t a) (aW 17 a) (tyM t) X S s H locs) (hl : lv_has ls 3 [(0, .ref (a 0)), (1, .int x1), (2, .int x2)]) (hf : b_X5_read_108 N k70 S x1 x2 s1 s2 = some (r, S')) : W p l e rmX5_read s m args below meth c H locs 0 0 (MQ below (Qi D (cM t a) (aW 17 a) (tyM t) r S') args s 0 0 (aW 17 a)) (F0 m 108 ls [.int s2, .int s1, .ref (a 1)]) := by
  obtain ⟨⟨hx, hb, hml, hown, hts⟩, hr, hlk⟩ := id E
  unfold b_X5_read_108 at hf
  obtain ⟨h21, hf⟩ := it_n hf
  obtain ⟨S20, eS20, hf⟩ := nm_o hf
  refine w_ast (S1 := S20) E w 1 0 (cM_at_1 t a S) rfl h21 rfl ((cM_st_1 t a S s1.toNatClampNeg s2).trans (congrArg (cM t a) eS20.symm)) dX5_read_108 (fun H locs w => ?_)
  refine lv_iinc (v := x2 + 1) (lv' := [(2, .int (x2 + 1)), (0, .ref (a 0)), (1, .int x1)]) hx hb dX5_read_109 hl (k := 2) rfl rfl (by decide) rfl (fun ls hl => ?_)
  refine lv_goto (tgt := 70) hx hb dX5_read_112 (by decide) ?_
  exact hk70 w (lv_sub hl [1, 2, 0] rfl) hf
set_option maxHeartbeats 4000000 in
set_option maxRecDepth 100000 in
theorem k_X5_read_93 {p : Program} {l : Launch} {e : Env} {s : State} {m : MethodId} {args : Array Value} {below : List Frame} {meth : Method} {c : Code} {D : va_G} {t : Nat → ClassId} {a : Nat → Nat} {X : State → Prop} {N : Nat} {r : Int32} {S' : ST} (hX : XOk (aW 17 a) X) (E : EN p s m args meth c cX5_read RX5 wsX5_read (some .int) 3) {k70 : ST → Int32 → Int32 → Option (Int32 × ST)} (hk70 : ∀ {S : ST} {x1 : Int32} {x2 : Int32} {H : Heap} {locs : List Loc} {ls : Array Slot}, Wd D (cM t a) (aW 17 a) (tyM t) X S s H locs → lv_has ls 3 [(0, .ref (a 0)), (1, .int x1), (2, .int x2)] → k70 S x1 x2 = some (r, S') → W p l e rmX5_read s m args below meth c H locs 0 0 (MQ below (Qi D (cM t a) (aW 17 a) (tyM t) r S') args s 0 0 (aW 17 a)) (F0 m 70 ls [])) {S : ST} {x1 : Int32} {x2 : Int32} {s1 : Int32} {H : Heap} {locs : List Loc} {ls : Array Slot} (w : Wd D (cM t a) (aW 17 a) (tyM t) X S s H locs) (hl : lv_has ls 3 [(0, .ref (a 0)), (1, .int x1), (2, .int x2)]) (hf : b_X5_read_93 N k70 S x1 x2 s1 = some (r, S')) : W p l e rmX5_read s m args below meth c H locs 0 0 (MQ below (Qi D (cM t a) (aW 17 a) (tyM t) r S') args s 0 0 (aW 17 a)) (F0 m 93 ls [.int s1, .ref (a 1)]) := by
  obtain ⟨⟨hx, hb, hml, hown, hts⟩, hr, hlk⟩ := id E
  unfold b_X5_read_93 at hf
  refine lv_aload_n hx hb dX5_read_93 rfl (lv_at hl 0 rfl) ?_
  refine w_get E w in_X5_read_X5 0 (cM_at_0 t a S) rfl 0 (by decide) fl_X5_read_7 rfl rfl dX5_read_94 ?_
  refine lv_iload_n hx hb dX5_read_97 rfl (lv_at hl 2 rfl) ?_
  obtain ⟨h19, hf⟩ := it_n hf
  refine w_ald E w 1 0 (cM_at_1 t a S) rfl h19 rfl dX5_read_98 ?_
  refine lv_goto (tgt := 108) hx hb dX5_read_99 (by decide) ?_
  exact k_X5_read_108 hX E hk70 w (lv_sub hl [0, 1, 2] rfl) hf
set_option maxHeartbeats 4000000 in
set_option maxRecDepth 100000 in
theorem k_X5_read_70 {p : Program} {l : Launch} {e : Env} {s : State} {m : MethodId} {args : Array Value} {below : List Frame} {meth : Method} {c : Code} {D : va_G} {t : Nat → ClassId} {a : Nat → Nat} {X : State → Prop} {N : Nat} {r : Int32} {S' : ST} (hX : XOk (aW 17 a) X) (E : EN p s m args meth c cX5_read RX5 wsX5_read (some .int) 3) : ∀ (n : Nat) {S : ST} {x1 : Int32} {x2 : Int32} {H : Heap} {locs : List Loc} {ls : Array Slot}, Wd D (cM t a) (aW 17 a) (tyM t) X S s H locs → lv_has ls 3 [(0, .ref (a 0)), (1, .int x1), (2, .int x2)] → b_X5_read_70 N n S x1 x2 = some (r, S') → W p l e rmX5_read s m args below meth c H locs 0 0 (MQ below (Qi D (cM t a) (aW 17 a) (tyM t) r S') args s 0 0 (aW 17 a)) (F0 m 70 ls []) := by
  obtain ⟨⟨hx, hb, hml, hown, hts⟩, hr, hlk⟩ := id E
  intro n
  induction n with
  | zero => intro S x1 x2 H locs ls w hl hf; cases hf
  | succ n ih =>
    intro S x1 x2 H locs ls w hl hf
    unfold b_X5_read_70 at hf
    refine lv_iload_n hx hb dX5_read_70 rfl (lv_at hl 2 rfl) ?_
    refine lv_bipush (v := 46) hx hb dX5_read_71 (by decide) ?_
    refine lv_icmp_ge (tgt := 115) hx hb dX5_read_73 (by decide) (fun h14 => ?_) (fun h14 => ?_)
    · replace hf := it_t h14 hf
      refine lv_aload_n hx hb dX5_read_115 rfl (lv_at hl 0 rfl) ?_
      refine w_get E w in_X5_read_X5 0 (cM_at_0 t a S) rfl 0 (by decide) fl_X5_read_7 rfl rfl dX5_read_116 ?_
      refine lv_sipush (v := 259) hx hb dX5_read_119 (by decide) ?_
      refine lv_aload_n hx hb dX5_read_122 rfl (lv_at hl 0 rfl) ?_
      refine w_get E w in_X5_read_X5 0 (cM_at_0 t a S) rfl 14 (by decide) fl_X5_read_203 rfl rfl dX5_read_123 ?_
      obtain ⟨S15, eS15, hf⟩ := nm_o hf
      refine w_ast (S1 := S15) E w 1 0 (cM_at_1 t a S) rfl (by decide) ix_259 ((cM_st_1 t a S 259 (S 0 14)).trans (congrArg (cM t a) eS15.symm)) dX5_read_126 (fun H locs w => ?_)
      refine lv_iload_n hx hb dX5_read_127 rfl (lv_at hl 1 rfl) ?_
      exact w_reti E w hf dX5_read_128
    · replace hf := it_f h14 hf
      refine lv_aload_n hx hb dX5_read_76 rfl (lv_at hl 0 rfl) ?_
      refine w_get E w in_X5_read_X5 0 (cM_at_0 t a S) rfl 0 (by decide) fl_X5_read_7 rfl rfl dX5_read_77 ?_
      refine lv_iload_n hx hb dX5_read_80 rfl (lv_at hl 2 rfl) ?_
      refine lv_iload_n hx hb dX5_read_81 rfl (lv_at hl 2 rfl) ?_
      refine lv_bipush (v := 31) hx hb dX5_read_82 (by decide) ?_
      refine lv_icmp_eq (tgt := 93) hx hb dX5_read_84 (by decide) (fun h16 => ?_) (fun h16 => ?_)
      · replace hf := it_t h16 hf
        exact k_X5_read_93 hX E (fun w hl hf => ih w hl hf) w (lv_sub hl [0, 1, 2] rfl) hf
      · replace hf := it_f h16 hf
        refine lv_iload_n hx hb dX5_read_87 rfl (lv_at hl 2 rfl) ?_
        refine lv_bipush (v := 32) hx hb dX5_read_88 (by decide) ?_
        refine lv_icmp_ne (tgt := 102) hx hb dX5_read_90 (by decide) (fun h17 => ?_) (fun h17 => ?_)
        · replace hf := it_f h17 hf
          refine lv_aload_n hx hb dX5_read_102 rfl (lv_at hl 0 rfl) ?_
          refine w_get E w in_X5_read_X5 0 (cM_at_0 t a S) rfl 13 (by decide) fl_X5_read_23 rfl rfl dX5_read_103 ?_
          refine lv_iload_n hx hb dX5_read_106 rfl (lv_at hl 2 rfl) ?_
          obtain ⟨h18, hf⟩ := it_n hf
          refine w_ald E w 5 0 (cM_at_5 t a S) rfl h18 rfl dX5_read_107 ?_
          exact k_X5_read_108 hX E (fun w hl hf => ih w hl hf) w (lv_sub hl [0, 1, 2] rfl) hf
        · replace hf := it_t h17 hf
          exact k_X5_read_93 hX E (fun w hl hf => ih w hl hf) w (lv_sub hl [0, 1, 2] rfl) hf
set_option maxHeartbeats 4000000 in
set_option maxRecDepth 100000 in
theorem k_X5_read_50 {p : Program} {l : Launch} {e : Env} {s : State} {m : MethodId} {args : Array Value} {below : List Frame} {meth : Method} {c : Code} {D : va_G} {t : Nat → ClassId} {a : Nat → Nat} {X : State → Prop} {N : Nat} {r : Int32} {S' : ST} (hX : XOk (aW 17 a) X) (E : EN p s m args meth c cX5_read RX5 wsX5_read (some .int) 3) {S : ST} {H : Heap} {locs : List Loc} {ls : Array Slot} (w : Wd D (cM t a) (aW 17 a) (tyM t) X S s H locs) (hl : lv_has ls 3 [(0, .ref (a 0))]) (hf : b_X5_read_50 N S = some (r, S')) : W p l e rmX5_read s m args below meth c H locs 0 0 (MQ below (Qi D (cM t a) (aW 17 a) (tyM t) r S') args s 0 0 (aW 17 a)) (F0 m 50 ls []) := by
  obtain ⟨⟨hx, hb, hml, hown, hts⟩, hr, hlk⟩ := id E
  unfold b_X5_read_50 at hf
  refine lv_bipush (v := (-10)) hx hb dX5_read_50 (by decide) ?_
  refine lv_aload_n hx hb dX5_read_52 rfl (lv_at hl 0 rfl) ?_
  refine w_get E w in_X5_read_X5 0 (cM_at_0 t a S) rfl 9 (by decide) fl_X5_read_173 rfl rfl dX5_read_53 ?_
  refine lv_isub hx hb dX5_read_56 ?_
  exact w_reti E w hf dX5_read_57
set_option maxHeartbeats 4000000 in
set_option maxRecDepth 100000 in
theorem k_X5_read_28 {p : Program} {l : Launch} {e : Env} {s : State} {m : MethodId} {args : Array Value} {below : List Frame} {meth : Method} {c : Code} {D : va_G} {t : Nat → ClassId} {a : Nat → Nat} {X : State → Prop} {N : Nat} {r : Int32} {S' : ST} (hX : XOk (aW 17 a) X) (E : EN p s m args meth c cX5_read RX5 wsX5_read (some .int) 3) : ∀ (n : Nat) {S : ST} {x1 : Int32} {H : Heap} {locs : List Loc} {ls : Array Slot}, Wd D (cM t a) (aW 17 a) (tyM t) X S s H locs → lv_has ls 3 [(0, .ref (a 0)), (1, .int x1)] → b_X5_read_28 N n S x1 = some (r, S') → W p l e rmX5_read s m args below meth c H locs 0 0 (MQ below (Qi D (cM t a) (aW 17 a) (tyM t) r S') args s 0 0 (aW 17 a)) (F0 m 28 ls []) := by
  obtain ⟨⟨hx, hb, hml, hown, hts⟩, hr, hlk⟩ := id E
  intro n
  induction n with
  | zero => intro S x1 H locs ls w hl hf; cases hf
  | succ n ih =>
    intro S x1 H locs ls w hl hf
    unfold b_X5_read_28 at hf
    refine lv_aload_n hx hb dX5_read_28 rfl (lv_at hl 0 rfl) ?_
    refine w_get E w in_X5_read_X5 0 (cM_at_0 t a S) rfl 11 (by decide) fl_X5_read_182 rfl rfl dX5_read_29 ?_
    refine lv_if_eq (tgt := 68) hx hb dX5_read_32 (by decide) (fun h6 => ?_) (fun h6 => ?_)
    · replace hf := it_t h6 hf
      refine lv_iconst (v := 0) hx hb dX5_read_68 (by decide) ?_
      refine lv_istore_n (lv' := [(2, .int 0), (0, .ref (a 0)), (1, .int x1)]) hx hb dX5_read_69 rfl hl (by decide) rfl (fun ls hl => ?_)
      exact k_X5_read_70 hX E N w (lv_sub hl [1, 2, 0] rfl) hf
    · replace hf := it_f h6 hf
      refine lv_aload_n hx hb dX5_read_35 rfl (lv_at hl 0 rfl) ?_
      obtain ⟨r9, S8, h7, hf⟩ := bd2_o hf
      refine w_callVi (As := []) (rest := []) hX E w (c_X5_readItem l hX h7) (cwV 0 hts gX5_read_X5_readItem rfl rfl rfl hd_X5_readItem ⟨Nat.le_of_ble_eq_true rfl, Nat.le_of_ble_eq_true rfl⟩) (ci := 5) rfl (cM_at_0 t a S) rfl hl.1 rfl (Nat.le_of_ble_eq_true rfl) dX5_read_36 ⟨Nat.le_refl _, Nat.le_refl _⟩ (fun H locs w => ?_)
      refine lv_if_eq (tgt := 50) hx hb dX5_read_39 (by decide) (fun h10 => ?_) (fun h10 => ?_)
      · replace hf := it_t h10 hf
        exact k_X5_read_50 hX E w (lv_sub hl [0] rfl) hf
      · replace hf := it_f h10 hf
        refine lv_aload_n hx hb dX5_read_42 rfl (lv_at hl 0 rfl) ?_
        refine w_get E w in_X5_read_X5 0 (cM_at_0 t a S8) rfl 11 (by decide) fl_X5_read_182 rfl rfl dX5_read_43 ?_
        refine lv_iconst (v := 3) hx hb dX5_read_46 (by decide) ?_
        refine lv_icmp_eq (tgt := 58) hx hb dX5_read_47 (by decide) (fun h11 => ?_) (fun h11 => ?_)
        · replace hf := it_t h11 hf
          refine lv_aload_n hx hb dX5_read_58 rfl (lv_at hl 0 rfl) ?_
          obtain ⟨S13, h12, hf⟩ := bd1_o hf
          refine w_callVv (As := []) (rest := []) hX E w (c_X5_goOn l hX h12) (cwV 0 hts gX5_read_X5_goOn rfl rfl rfl hd_X5_goOn ⟨Nat.le_of_ble_eq_true rfl, Nat.le_of_ble_eq_true rfl⟩) (ci := 5) rfl (cM_at_0 t a S8) rfl hl.1 rfl (Nat.le_of_ble_eq_true rfl) dX5_read_59 ⟨Nat.le_refl _, Nat.le_refl _⟩ (fun H locs w => ?_)
          refine lv_iinc (v := x1 + 1) (lv' := [(1, .int (x1 + 1)), (0, .ref (a 0))]) hx hb dX5_read_62 hl (k := 1) rfl rfl (by decide) rfl (fun ls hl => ?_)
          refine lv_goto (tgt := 28) hx hb dX5_read_65 (by decide) ?_
          exact ih w (lv_sub hl [1, 0] rfl) hf
        · replace hf := it_f h11 hf
          exact k_X5_read_50 hX E w (lv_sub hl [0] rfl) hf
set_option maxHeartbeats 4000000 in
set_option maxRecDepth 100000 in
theorem k_X5_read_E {p : Program} {l : Launch} {e : Env} {s : State} {m : MethodId} {args : Array Value} {below : List Frame} {meth : Method} {c : Code} {D : va_G} {t : Nat → ClassId} {a : Nat → Nat} {X : State → Prop} {N : Nat} {r : Int32} {S' : ST} (hX : XOk (aW 17 a) X) (E : EN p s m args meth c cX5_read RX5 wsX5_read (some .int) 3) {S : ST} {H : Heap} {locs : List Loc} {ls : Array Slot} (w : Wd D (cM t a) (aW 17 a) (tyM t) X S s H locs) (hl : lv_has ls 3 [(0, .ref (a 0))]) (hf : f_X5_read N S = some (r, S')) : W p l e rmX5_read s m args below meth c H locs 0 0 (MQ below (Qi D (cM t a) (aW 17 a) (tyM t) r S') args s 0 0 (aW 17 a)) (F0 m 0 ls []) := by
  obtain ⟨⟨hx, hb, hml, hown, hts⟩, hr, hlk⟩ := id E
  unfold f_X5_read at hf
  refine lv_aload_n hx hb dX5_read_0 rfl (lv_at hl 0 rfl) ?_
  refine lv_iconst (v := 0) hx hb dX5_read_1 (by decide) ?_
  obtain ⟨S1, eS1, hf⟩ := nm_o hf
  refine w_put (S1 := S1) E w in_X5_read_X5 tyX5 tyX5_ok nmX5 0 (cM_at_0 t a S) rfl 14 (by decide) fl_X5_read_203 rfl rfl rfl rfl rfl (Nat.le_of_ble_eq_true rfl) ((cM_set_0_14 t a S 0).trans (congrArg (cM t a) eS1.symm)) dX5_read_2 (fun H locs w => ?_)
  refine lv_aload_n hx hb dX5_read_5 rfl (lv_at hl 0 rfl) ?_
  refine w_get E w in_X5_read_X5 0 (cM_at_0 t a S1) rfl 13 (by decide) fl_X5_read_23 rfl rfl dX5_read_6 ?_
  refine lv_bipush (v := 30) hx hb dX5_read_9 (by decide) ?_
  refine lv_iconst (v := 0) hx hb dX5_read_11 (by decide) ?_
  obtain ⟨S2, eS2, hf⟩ := nm_o hf
  refine w_ast (S1 := S2) E w 5 0 (cM_at_5 t a S1) rfl (by decide) ix_30 ((cM_st_5 t a S1 30 0).trans (congrArg (cM t a) eS2.symm)) dX5_read_12 (fun H locs w => ?_)
  refine lv_aload_n hx hb dX5_read_13 rfl (lv_at hl 0 rfl) ?_
  refine w_get E w in_X5_read_X5 0 (cM_at_0 t a S2) rfl 13 (by decide) fl_X5_read_23 rfl rfl dX5_read_14 ?_
  refine lv_bipush (v := 33) hx hb dX5_read_17 (by decide) ?_
  refine lv_iconst (v := 0) hx hb dX5_read_19 (by decide) ?_
  obtain ⟨S3, eS3, hf⟩ := nm_o hf
  refine w_ast (S1 := S3) E w 5 0 (cM_at_5 t a S2) rfl (by decide) ix_33 ((cM_st_5 t a S2 33 0).trans (congrArg (cM t a) eS3.symm)) dX5_read_20 (fun H locs w => ?_)
  refine lv_iconst (v := 0) hx hb dX5_read_21 (by decide) ?_
  refine lv_istore_n (lv' := [(1, .int 0), (0, .ref (a 0))]) hx hb dX5_read_22 rfl hl (by decide) rfl (fun ls hl => ?_)
  refine lv_aload_n hx hb dX5_read_23 rfl (lv_at hl 1 rfl) ?_
  refine lv_iconst (v := 0) hx hb dX5_read_24 (by decide) ?_
  obtain ⟨S5, h4, hf⟩ := bd1_o hf
  refine w_callVv (As := [.int 0]) (rest := []) hX E w (c_X5_look l hX h4) (cwV 1 hts gX5_read_X5_look rfl rfl rfl hd_X5_look ⟨Nat.le_of_ble_eq_true rfl, Nat.le_of_ble_eq_true rfl⟩) (ci := 5) rfl (cM_at_0 t a S3) rfl hl.1 rfl (Nat.le_of_ble_eq_true rfl) dX5_read_25 ⟨Nat.le_refl _, Nat.le_refl _⟩ (fun H locs w => ?_)
  exact k_X5_read_28 hX E N w (lv_sub hl [1, 0] rfl) hf
theorem c_X5_read (l : Launch) {D : va_G} {t : Nat → ClassId} {a : Nat → Nat} {X : State → Prop} (hX : XOk (aW 17 a) X) {N : Nat} {S : ST} {r : Int32} {S' : ST} (hf : f_X5_read N S = some (r, S')) : Co l yX5_read wsX5_read rmX5_read D (cM t a) (aW 17 a) (tyM t) X [.ref (a 0)] S (Qi D (cM t a) (aW 17 a) (tyM t) r S') :=
  co_of (cc := cX5_read) (maxL := 3) (ret := (some .int)) (lv := [(0, .ref (a 0))]) (by decide) rfl rfl (Nat.le_of_ble_eq_true rfl) rfl rfl (fun p e s m below meth c ls E hl w => k_X5_read_E hX E w hl hf)
-- X5_begin
theorem in_X5_begin_X5 : ∀ w ∈ u_ws RX5 TX5 28, w ∈ wsX5_begin := by decide +kernel
theorem fl_X5_begin_121 : Cond.fieldLink RX5 121 "NextDoorModel" "last" "I" ∈ wsX5_begin := by decide +kernel
theorem fl_X5_begin_128 : Cond.fieldLink RX5 128 "NextDoorModel" "held" "I" ∈ wsX5_begin := by decide +kernel
theorem fl_X5_begin_140 : Cond.fieldLink RX5 140 "NextDoorModel" "paid" "I" ∈ wsX5_begin := by decide +kernel
theorem fl_X5_begin_131 : Cond.fieldLink RX5 131 "NextDoorModel" "minute" "I" ∈ wsX5_begin := by decide +kernel
theorem fl_X5_begin_125 : Cond.fieldLink RX5 125 "NextDoorModel" "been" "I" ∈ wsX5_begin := by decide +kernel
abbrev rmX5_begin : Room := { frames := 0, cells := 0, slots := 0, locals := 0 }
set_option maxHeartbeats 4000000 in
set_option maxRecDepth 100000 in
theorem k_X5_begin_E {p : Program} {l : Launch} {e : Env} {s : State} {m : MethodId} {args : Array Value} {below : List Frame} {meth : Method} {c : Code} {D : va_G} {t : Nat → ClassId} {a : Nat → Nat} {X : State → Prop} {N : Nat} {S' : ST} (hX : XOk (aW 17 a) X) (E : EN p s m args meth c cX5_begin RX5 wsX5_begin none 1) {S : ST} {H : Heap} {locs : List Loc} {ls : Array Slot} (w : Wd D (cM t a) (aW 17 a) (tyM t) X S s H locs) (hl : lv_has ls 1 [(0, .ref (a 0))]) (hf : f_X5_begin N S = some S') : W p l e rmX5_begin s m args below meth c H locs 0 0 (MQ below (Qv D (cM t a) (aW 17 a) (tyM t) S') args s 0 0 (aW 17 a)) (F0 m 0 ls []) := by
  obtain ⟨⟨hx, hb, hml, hown, hts⟩, hr, hlk⟩ := id E
  unfold f_X5_begin at hf
  refine lv_aload_n hx hb dX5_begin_0 rfl (lv_at hl 0 rfl) ?_
  refine lv_iconst (v := (-1)) hx hb dX5_begin_1 (by decide) ?_
  obtain ⟨S1, eS1, hf⟩ := nm_o hf
  refine w_put (S1 := S1) E w in_X5_begin_X5 tyX5 tyX5_ok nmX5 0 (cM_at_0 t a S) rfl 4 (by decide) fl_X5_begin_121 rfl rfl rfl rfl rfl (Nat.le_of_ble_eq_true rfl) ((cM_set_0_4 t a S (-1)).trans (congrArg (cM t a) eS1.symm)) dX5_begin_2 (fun H locs w => ?_)
  refine lv_aload_n hx hb dX5_begin_5 rfl (lv_at hl 0 rfl) ?_
  refine lv_iconst (v := 0) hx hb dX5_begin_6 (by decide) ?_
  obtain ⟨S2, eS2, hf⟩ := nm_o hf
  refine w_put (S1 := S2) E w in_X5_begin_X5 tyX5 tyX5_ok nmX5 0 (cM_at_0 t a S1) rfl 5 (by decide) fl_X5_begin_128 rfl rfl rfl rfl rfl (Nat.le_of_ble_eq_true rfl) ((cM_set_0_5 t a S1 0).trans (congrArg (cM t a) eS2.symm)) dX5_begin_7 (fun H locs w => ?_)
  refine lv_aload_n hx hb dX5_begin_10 rfl (lv_at hl 0 rfl) ?_
  refine lv_iconst (v := 0) hx hb dX5_begin_11 (by decide) ?_
  obtain ⟨S3, eS3, hf⟩ := nm_o hf
  refine w_put (S1 := S3) E w in_X5_begin_X5 tyX5 tyX5_ok nmX5 0 (cM_at_0 t a S2) rfl 6 (by decide) fl_X5_begin_140 rfl rfl rfl rfl rfl (Nat.le_of_ble_eq_true rfl) ((cM_set_0_6 t a S2 0).trans (congrArg (cM t a) eS3.symm)) dX5_begin_12 (fun H locs w => ?_)
  refine lv_aload_n hx hb dX5_begin_15 rfl (lv_at hl 0 rfl) ?_
  refine lv_iconst (v := 0) hx hb dX5_begin_16 (by decide) ?_
  obtain ⟨S4, eS4, hf⟩ := nm_o hf
  refine w_put (S1 := S4) E w in_X5_begin_X5 tyX5 tyX5_ok nmX5 0 (cM_at_0 t a S3) rfl 7 (by decide) fl_X5_begin_131 rfl rfl rfl rfl rfl (Nat.le_of_ble_eq_true rfl) ((cM_set_0_7 t a S3 0).trans (congrArg (cM t a) eS4.symm)) dX5_begin_17 (fun H locs w => ?_)
  refine lv_aload_n hx hb dX5_begin_20 rfl (lv_at hl 0 rfl) ?_
  refine lv_iconst (v := 0) hx hb dX5_begin_21 (by decide) ?_
  obtain ⟨S5, eS5, hf⟩ := nm_o hf
  refine w_put (S1 := S5) E w in_X5_begin_X5 tyX5 tyX5_ok nmX5 0 (cM_at_0 t a S4) rfl 8 (by decide) fl_X5_begin_125 rfl rfl rfl rfl rfl (Nat.le_of_ble_eq_true rfl) ((cM_set_0_8 t a S4 0).trans (congrArg (cM t a) eS5.symm)) dX5_begin_22 (fun H locs w => ?_)
  exact w_retv E w hf dX5_begin_25
theorem c_X5_begin (l : Launch) {D : va_G} {t : Nat → ClassId} {a : Nat → Nat} {X : State → Prop} (hX : XOk (aW 17 a) X) {N : Nat} {S : ST} {S' : ST} (hf : f_X5_begin N S = some S') : Co l yX5_begin wsX5_begin rmX5_begin D (cM t a) (aW 17 a) (tyM t) X [.ref (a 0)] S (Qv D (cM t a) (aW 17 a) (tyM t) S') :=
  co_of (cc := cX5_begin) (maxL := 1) (ret := none) (lv := [(0, .ref (a 0))]) (by decide) rfl rfl (Nat.le_of_ble_eq_true rfl) rfl rfl (fun p e s m below meth c ls E hl w => k_X5_begin_E hX E w hl hf)
-- X5_manyIn
abbrev rmX5_manyIn : Room := { frames := 0, cells := 0, slots := 0, locals := 0 }
set_option maxHeartbeats 4000000 in
set_option maxRecDepth 100000 in
theorem k_X5_manyIn_4 {p : Program} {l : Launch} {e : Env} {s : State} {m : MethodId} {args : Array Value} {below : List Frame} {meth : Method} {c : Code} {D : va_G} {t : Nat → ClassId} {a : Nat → Nat} {X : State → Prop} {N : Nat} {r : Int32} {S' : ST} (hX : XOk (aW 17 a) X) (E : EN p s m args meth c cX5_manyIn RX5 wsX5_manyIn (some .int) 3) : ∀ (n : Nat) {S : ST} {x0 : Int32} {x1 : Int32} {x2 : Int32} {H : Heap} {locs : List Loc} {ls : Array Slot}, Wd D (cM t a) (aW 17 a) (tyM t) X S s H locs → lv_has ls 3 [(0, .int x0), (1, .int x1), (2, .int x2)] → b_X5_manyIn_4 N n S x0 x1 x2 = some (r, S') → W p l e rmX5_manyIn s m args below meth c H locs 0 0 (MQ below (Qi D (cM t a) (aW 17 a) (tyM t) r S') args s 0 0 (aW 17 a)) (F0 m 4 ls []) := by
  obtain ⟨⟨hx, hb, hml, hown, hts⟩, hr, hlk⟩ := id E
  intro n
  induction n with
  | zero => intro S x0 x1 x2 H locs ls w hl hf; cases hf
  | succ n ih =>
    intro S x0 x1 x2 H locs ls w hl hf
    unfold b_X5_manyIn_4 at hf
    refine lv_iload_n hx hb dX5_manyIn_4 rfl (lv_at hl 2 rfl) ?_
    refine lv_bipush (v := 6) hx hb dX5_manyIn_5 (by decide) ?_
    refine lv_icmp_ge (tgt := 24) hx hb dX5_manyIn_7 (by decide) (fun h1 => ?_) (fun h1 => ?_)
    · replace hf := it_t h1 hf
      refine lv_iload_n hx hb dX5_manyIn_24 rfl (lv_at hl 1 rfl) ?_
      exact w_reti E w hf dX5_manyIn_25
    · replace hf := it_f h1 hf
      refine lv_iload_n hx hb dX5_manyIn_10 rfl (lv_at hl 1 rfl) ?_
      refine lv_iload_n hx hb dX5_manyIn_11 rfl (lv_at hl 0 rfl) ?_
      refine lv_iload_n hx hb dX5_manyIn_12 rfl (lv_at hl 2 rfl) ?_
      refine lv_ishr hx hb dX5_manyIn_13 ?_
      refine lv_iconst (v := 1) hx hb dX5_manyIn_14 (by decide) ?_
      refine lv_iand hx hb dX5_manyIn_15 ?_
      refine lv_iadd hx hb dX5_manyIn_16 ?_
      refine lv_istore_n (lv' := [(1, .int (x1 + ((x0 >>> (x2 &&& 31)) &&& 1))), (0, .int x0), (2, .int x2)]) hx hb dX5_manyIn_17 rfl hl (by decide) rfl (fun ls hl => ?_)
      refine lv_iinc (v := x2 + 1) (lv' := [(2, .int (x2 + 1)), (1, .int (x1 + ((x0 >>> (x2 &&& 31)) &&& 1))), (0, .int x0)]) hx hb dX5_manyIn_18 hl (k := 2) rfl rfl (by decide) rfl (fun ls hl => ?_)
      refine lv_goto (tgt := 4) hx hb dX5_manyIn_21 (by decide) ?_
      exact ih w (lv_sub hl [2, 1, 0] rfl) hf
set_option maxHeartbeats 4000000 in
set_option maxRecDepth 100000 in
theorem k_X5_manyIn_E {p : Program} {l : Launch} {e : Env} {s : State} {m : MethodId} {args : Array Value} {below : List Frame} {meth : Method} {c : Code} {D : va_G} {t : Nat → ClassId} {a : Nat → Nat} {X : State → Prop} {N : Nat} {r : Int32} {S' : ST} (hX : XOk (aW 17 a) X) (E : EN p s m args meth c cX5_manyIn RX5 wsX5_manyIn (some .int) 3) {S : ST} {x0 : Int32} {H : Heap} {locs : List Loc} {ls : Array Slot} (w : Wd D (cM t a) (aW 17 a) (tyM t) X S s H locs) (hl : lv_has ls 3 [(0, .int x0)]) (hf : f_X5_manyIn N S x0 = some (r, S')) : W p l e rmX5_manyIn s m args below meth c H locs 0 0 (MQ below (Qi D (cM t a) (aW 17 a) (tyM t) r S') args s 0 0 (aW 17 a)) (F0 m 0 ls []) := by
  obtain ⟨⟨hx, hb, hml, hown, hts⟩, hr, hlk⟩ := id E
  unfold f_X5_manyIn at hf
  refine lv_iconst (v := 0) hx hb dX5_manyIn_0 (by decide) ?_
  refine lv_istore_n (lv' := [(1, .int 0), (0, .int x0)]) hx hb dX5_manyIn_1 rfl hl (by decide) rfl (fun ls hl => ?_)
  refine lv_iconst (v := 0) hx hb dX5_manyIn_2 (by decide) ?_
  refine lv_istore_n (lv' := [(2, .int 0), (1, .int 0), (0, .int x0)]) hx hb dX5_manyIn_3 rfl hl (by decide) rfl (fun ls hl => ?_)
  exact k_X5_manyIn_4 hX E N w (lv_sub hl [2, 1, 0] rfl) hf
theorem c_X5_manyIn (l : Launch) {D : va_G} {t : Nat → ClassId} {a : Nat → Nat} {X : State → Prop} (hX : XOk (aW 17 a) X) {N : Nat} {S : ST} {x0 : Int32} {r : Int32} {S' : ST} (hf : f_X5_manyIn N S x0 = some (r, S')) : Co l yX5_manyIn wsX5_manyIn rmX5_manyIn D (cM t a) (aW 17 a) (tyM t) X [.int x0] S (Qi D (cM t a) (aW 17 a) (tyM t) r S') :=
  co_of (cc := cX5_manyIn) (maxL := 3) (ret := (some .int)) (lv := [(0, .int x0)]) (by decide) rfl rfl (Nat.le_of_ble_eq_true rfl) rfl rfl (fun p e s m below meth c ls E hl w => k_X5_manyIn_E hX E w hl hf)
-- X5_minutesOf
abbrev rmX5_minutesOf : Room := { frames := 1, cells := 0, slots := 0, locals := 22 }
set_option maxHeartbeats 4000000 in
set_option maxRecDepth 100000 in
theorem k_X5_minutesOf_E {p : Program} {l : Launch} {e : Env} {s : State} {m : MethodId} {args : Array Value} {below : List Frame} {meth : Method} {c : Code} {D : va_G} {t : Nat → ClassId} {a : Nat → Nat} {X : State → Prop} {N : Nat} {r : Int32} {S' : ST} (hX : XOk (aW 17 a) X) (E : EN p s m args meth c cX5_minutesOf RX5 wsX5_minutesOf (some .int) 2) {S : ST} {x1 : Int32} {H : Heap} {locs : List Loc} {ls : Array Slot} (w : Wd D (cM t a) (aW 17 a) (tyM t) X S s H locs) (hl : lv_has ls 2 [(0, .ref (a 0)), (1, .int x1)]) (hf : f_X5_minutesOf N S x1 = some (r, S')) : W p l e rmX5_minutesOf s m args below meth c H locs 0 0 (MQ below (Qi D (cM t a) (aW 17 a) (tyM t) r S') args s 0 0 (aW 17 a)) (F0 m 0 ls []) := by
  obtain ⟨⟨hx, hb, hml, hown, hts⟩, hr, hlk⟩ := id E
  unfold f_X5_minutesOf at hf
  refine lv_aload_n hx hb dX5_minutesOf_0 rfl (lv_at hl 0 rfl) ?_
  refine lv_iload_n hx hb dX5_minutesOf_1 rfl (lv_at hl 1 rfl) ?_
  refine lv_iconst (v := 0) hx hb dX5_minutesOf_2 (by decide) ?_
  obtain ⟨r3, S2, h1, hf⟩ := bd2_o hf
  refine w_callVi (As := [.int x1, .int 0]) (rest := []) hX E w (c_X5_of l hX h1) (cwV 2 hts gX5_minutesOf_X5_of rfl rfl rfl hd_X5_of ⟨Nat.le_of_ble_eq_true rfl, Nat.le_of_ble_eq_true rfl⟩) (ci := 5) rfl (cM_at_0 t a S) rfl hl.1 rfl (Nat.le_of_ble_eq_true rfl) dX5_minutesOf_3 ⟨Nat.le_refl _, Nat.le_refl _⟩ (fun H locs w => ?_)
  refine lv_iconst (v := 3) hx hb dX5_minutesOf_6 (by decide) ?_
  refine lv_icmp_ne (tgt := 21) hx hb dX5_minutesOf_7 (by decide) (fun h4 => ?_) (fun h4 => ?_)
  · replace hf := it_f h4 hf
    refine lv_aload_n hx hb dX5_minutesOf_21 rfl (lv_at hl 0 rfl) ?_
    refine lv_iload_n hx hb dX5_minutesOf_22 rfl (lv_at hl 1 rfl) ?_
    refine lv_iconst (v := 2) hx hb dX5_minutesOf_23 (by decide) ?_
    obtain ⟨r7, S6, h5, hf⟩ := bd2_o hf
    refine w_callVi (As := [.int x1, .int 2]) (rest := []) hX E w (c_X5_of l hX h5) (cwV 2 hts gX5_minutesOf_X5_of rfl rfl rfl hd_X5_of ⟨Nat.le_of_ble_eq_true rfl, Nat.le_of_ble_eq_true rfl⟩) (ci := 5) rfl (cM_at_0 t a S2) rfl hl.1 rfl (Nat.le_of_ble_eq_true rfl) dX5_minutesOf_24 ⟨Nat.le_refl _, Nat.le_refl _⟩ (fun H locs w => ?_)
    exact w_reti E w hf dX5_minutesOf_27
  · replace hf := it_t h4 hf
    refine lv_iconst (v := 2) hx hb dX5_minutesOf_10 (by decide) ?_
    refine lv_aload_n hx hb dX5_minutesOf_11 rfl (lv_at hl 0 rfl) ?_
    refine lv_iload_n hx hb dX5_minutesOf_12 rfl (lv_at hl 1 rfl) ?_
    refine lv_iconst (v := 2) hx hb dX5_minutesOf_13 (by decide) ?_
    obtain ⟨r10, S9, h8, hf⟩ := bd2_o hf
    refine w_callVi (As := [.int x1, .int 2]) (rest := [.int 2]) hX E w (c_X5_of l hX h8) (cwV 2 hts gX5_minutesOf_X5_of rfl rfl rfl hd_X5_of ⟨Nat.le_of_ble_eq_true rfl, Nat.le_of_ble_eq_true rfl⟩) (ci := 5) rfl (cM_at_0 t a S2) rfl hl.1 rfl (Nat.le_of_ble_eq_true rfl) dX5_minutesOf_14 ⟨Nat.le_refl _, Nat.le_refl _⟩ (fun H locs w => ?_)
    refine lv_imul hx hb dX5_minutesOf_17 ?_
    refine lv_goto (tgt := 27) hx hb dX5_minutesOf_18 (by decide) ?_
    exact w_reti E w hf dX5_minutesOf_27
theorem c_X5_minutesOf (l : Launch) {D : va_G} {t : Nat → ClassId} {a : Nat → Nat} {X : State → Prop} (hX : XOk (aW 17 a) X) {N : Nat} {S : ST} {x1 : Int32} {r : Int32} {S' : ST} (hf : f_X5_minutesOf N S x1 = some (r, S')) : Co l yX5_minutesOf wsX5_minutesOf rmX5_minutesOf D (cM t a) (aW 17 a) (tyM t) X [.ref (a 0), .int x1] S (Qi D (cM t a) (aW 17 a) (tyM t) r S') :=
  co_of (cc := cX5_minutesOf) (maxL := 2) (ret := (some .int)) (lv := [(0, .ref (a 0)), (1, .int x1)]) (by decide) rfl rfl (Nat.le_of_ble_eq_true rfl) rfl rfl (fun p e s m below meth c ls E hl w => k_X5_minutesOf_E hX E w hl hf)
-- X5_goodBack
abbrev rmX5_goodBack : Room := { frames := 1, cells := 0, slots := 0, locals := 20 }
set_option maxHeartbeats 4000000 in
set_option maxRecDepth 100000 in
theorem k_X5_goodBack_E {p : Program} {l : Launch} {e : Env} {s : State} {m : MethodId} {args : Array Value} {below : List Frame} {meth : Method} {c : Code} {D : va_G} {t : Nat → ClassId} {a : Nat → Nat} {X : State → Prop} {N : Nat} {r : Int32} {S' : ST} (hX : XOk (aW 17 a) X) (E : EN p s m args meth c cX5_goodBack RX5 wsX5_goodBack (some .int) 2) {S : ST} {x1 : Int32} {H : Heap} {locs : List Loc} {ls : Array Slot} (w : Wd D (cM t a) (aW 17 a) (tyM t) X S s H locs) (hl : lv_has ls 2 [(0, .ref (a 0)), (1, .int x1)]) (hf : f_X5_goodBack N S x1 = some (r, S')) : W p l e rmX5_goodBack s m args below meth c H locs 0 0 (MQ below (Qi D (cM t a) (aW 17 a) (tyM t) r S') args s 0 0 (aW 17 a)) (F0 m 0 ls []) := by
  obtain ⟨⟨hx, hb, hml, hown, hts⟩, hr, hlk⟩ := id E
  unfold f_X5_goodBack at hf
  refine lv_iload_n hx hb dX5_goodBack_0 rfl (lv_at hl 1 rfl) ?_
  refine lv_if_ne (tgt := 13) hx hb dX5_goodBack_1 (by decide) (fun h1 => ?_) (fun h1 => ?_)
  · replace hf := it_f h1 hf
    refine lv_iload_n hx hb dX5_goodBack_13 rfl (lv_at hl 1 rfl) ?_
    refine lv_iconst (v := 1) hx hb dX5_goodBack_14 (by decide) ?_
    refine lv_isub hx hb dX5_goodBack_15 ?_
    exact w_reti E w hf dX5_goodBack_16
  · replace hf := it_t h1 hf
    refine lv_aload_n hx hb dX5_goodBack_4 rfl (lv_at hl 0 rfl) ?_
    obtain ⟨r4, S3, h2, hf⟩ := bd2_o hf
    refine w_callVi (As := []) (rest := []) hX E w (c_X5_shops l hX h2) (cwV 0 hts gX5_goodBack_X5_shops rfl rfl rfl hd_X5_shops ⟨Nat.le_of_ble_eq_true rfl, Nat.le_of_ble_eq_true rfl⟩) (ci := 5) rfl (cM_at_0 t a S) rfl hl.1 rfl (Nat.le_of_ble_eq_true rfl) dX5_goodBack_5 ⟨Nat.le_refl _, Nat.le_refl _⟩ (fun H locs w => ?_)
    refine lv_iconst (v := 1) hx hb dX5_goodBack_8 (by decide) ?_
    refine lv_isub hx hb dX5_goodBack_9 ?_
    refine lv_goto (tgt := 16) hx hb dX5_goodBack_10 (by decide) ?_
    exact w_reti E w hf dX5_goodBack_16
theorem c_X5_goodBack (l : Launch) {D : va_G} {t : Nat → ClassId} {a : Nat → Nat} {X : State → Prop} (hX : XOk (aW 17 a) X) {N : Nat} {S : ST} {x1 : Int32} {r : Int32} {S' : ST} (hf : f_X5_goodBack N S x1 = some (r, S')) : Co l yX5_goodBack wsX5_goodBack rmX5_goodBack D (cM t a) (aW 17 a) (tyM t) X [.ref (a 0), .int x1] S (Qi D (cM t a) (aW 17 a) (tyM t) r S') :=
  co_of (cc := cX5_goodBack) (maxL := 2) (ret := (some .int)) (lv := [(0, .ref (a 0)), (1, .int x1)]) (by decide) rfl rfl (Nat.le_of_ble_eq_true rfl) rfl rfl (fun p e s m below meth c ls E hl w => k_X5_goodBack_E hX E w hl hf)
-- X5_takesBack
theorem hd_X5_goodBack : yX5_goodBack.cls = RX5 ∧ yX5_goodBack.cls ≠ "java/lang/invoke/MethodHandle" ∧ yX5_goodBack.cls ≠ "java/lang/invoke/VarHandle" ∧ (parseMethodDescriptor yX5_goodBack.desc).map (fun d => d.parameters.length) = some 1 := by decide +kernel
abbrev rmX5_takesBack : Room := { frames := 2, cells := 0, slots := 0, locals := 41 }
set_option maxHeartbeats 4000000 in
set_option maxRecDepth 100000 in
theorem k_X5_takesBack_17 {p : Program} {l : Launch} {e : Env} {s : State} {m : MethodId} {args : Array Value} {below : List Frame} {meth : Method} {c : Code} {D : va_G} {t : Nat → ClassId} {a : Nat → Nat} {X : State → Prop} {N : Nat} {r : Int32} {S' : ST} (hX : XOk (aW 17 a) X) (E : EN p s m args meth c cX5_takesBack RX5 wsX5_takesBack (some .boolean) 4) {S : ST} {x1 : Int32} {x2 : Int32} {H : Heap} {locs : List Loc} {ls : Array Slot} (w : Wd D (cM t a) (aW 17 a) (tyM t) X S s H locs) (hl : lv_has ls 4 [(0, .ref (a 0)), (1, .int x1), (2, .int x2)]) (hf : b_X5_takesBack_17 N S x1 x2 = some (r, S')) : W p l e rmX5_takesBack s m args below meth c H locs 0 0 (MQ below (Qi D (cM t a) (aW 17 a) (tyM t) r S') args s 0 0 (aW 17 a)) (F0 m 17 ls []) := by
  obtain ⟨⟨hx, hb, hml, hown, hts⟩, hr, hlk⟩ := id E
  unfold b_X5_takesBack_17 at hf
  refine lv_iload_n hx hb dX5_takesBack_17 rfl (lv_at hl 2 rfl) ?_
  refine lv_aload_n hx hb dX5_takesBack_18 rfl (lv_at hl 0 rfl) ?_
  refine lv_iload_n hx hb dX5_takesBack_19 rfl (lv_at hl 1 rfl) ?_
  obtain ⟨r8, S7, h6, hf⟩ := bd2_o hf
  refine w_callVi (As := [.int x1]) (rest := [.int x2]) hX E w (c_X5_goodBack l hX h6) (cwV 1 hts gX5_takesBack_X5_goodBack rfl rfl rfl hd_X5_goodBack ⟨Nat.le_of_ble_eq_true rfl, Nat.le_of_ble_eq_true rfl⟩) (ci := 5) rfl (cM_at_0 t a S) rfl hl.1 rfl (Nat.le_of_ble_eq_true rfl) dX5_takesBack_20 ⟨Nat.le_refl _, Nat.le_refl _⟩ (fun H locs w => ?_)
  refine lv_ishr hx hb dX5_takesBack_23 ?_
  refine lv_iconst (v := 1) hx hb dX5_takesBack_24 (by decide) ?_
  refine lv_iand hx hb dX5_takesBack_25 ?_
  refine lv_iconst (v := 1) hx hb dX5_takesBack_26 (by decide) ?_
  refine lv_icmp_ne (tgt := 34) hx hb dX5_takesBack_27 (by decide) (fun h9 => ?_) (fun h9 => ?_)
  · replace hf := it_f h9 hf
    refine lv_iconst (v := 0) hx hb dX5_takesBack_34 (by decide) ?_
    exact w_retz E w (by decide) hf dX5_takesBack_35
  · replace hf := it_t h9 hf
    refine lv_iconst (v := 1) hx hb dX5_takesBack_30 (by decide) ?_
    refine lv_goto (tgt := 35) hx hb dX5_takesBack_31 (by decide) ?_
    exact w_retz E w (by decide) hf dX5_takesBack_35
set_option maxHeartbeats 4000000 in
set_option maxRecDepth 100000 in
theorem k_X5_takesBack_E {p : Program} {l : Launch} {e : Env} {s : State} {m : MethodId} {args : Array Value} {below : List Frame} {meth : Method} {c : Code} {D : va_G} {t : Nat → ClassId} {a : Nat → Nat} {X : State → Prop} {N : Nat} {r : Int32} {S' : ST} (hX : XOk (aW 17 a) X) (E : EN p s m args meth c cX5_takesBack RX5 wsX5_takesBack (some .boolean) 4) {S : ST} {x1 : Int32} {x2 : Int32} {H : Heap} {locs : List Loc} {ls : Array Slot} (w : Wd D (cM t a) (aW 17 a) (tyM t) X S s H locs) (hl : lv_has ls 4 [(0, .ref (a 0)), (1, .int x1), (2, .int x2)]) (hf : f_X5_takesBack N S x1 x2 = some (r, S')) : W p l e rmX5_takesBack s m args below meth c H locs 0 0 (MQ below (Qi D (cM t a) (aW 17 a) (tyM t) r S') args s 0 0 (aW 17 a)) (F0 m 0 ls []) := by
  obtain ⟨⟨hx, hb, hml, hown, hts⟩, hr, hlk⟩ := id E
  unfold f_X5_takesBack at hf
  refine lv_aload_n hx hb dX5_takesBack_0 rfl (lv_at hl 0 rfl) ?_
  refine lv_iload_n hx hb dX5_takesBack_1 rfl (lv_at hl 1 rfl) ?_
  refine lv_iconst (v := 0) hx hb dX5_takesBack_2 (by decide) ?_
  obtain ⟨r3, S2, h1, hf⟩ := bd2_o hf
  refine w_callVi (As := [.int x1, .int 0]) (rest := []) hX E w (c_X5_of l hX h1) (cwV 2 hts gX5_takesBack_X5_of rfl rfl rfl hd_X5_of ⟨Nat.le_of_ble_eq_true rfl, Nat.le_of_ble_eq_true rfl⟩) (ci := 5) rfl (cM_at_0 t a S) rfl hl.1 rfl (Nat.le_of_ble_eq_true rfl) dX5_takesBack_3 ⟨Nat.le_refl _, Nat.le_refl _⟩ (fun H locs w => ?_)
  refine lv_istore_n (lv' := [(3, .int r3), (0, .ref (a 0)), (1, .int x1), (2, .int x2)]) hx hb dX5_takesBack_6 rfl hl (by decide) rfl (fun ls hl => ?_)
  refine lv_iload_n hx hb dX5_takesBack_7 rfl (lv_at hl 0 rfl) ?_
  refine lv_iconst (v := 2) hx hb dX5_takesBack_8 (by decide) ?_
  refine lv_icmp_eq (tgt := 17) hx hb dX5_takesBack_9 (by decide) (fun h4 => ?_) (fun h4 => ?_)
  · replace hf := it_t h4 hf
    exact k_X5_takesBack_17 hX E w (lv_sub hl [1, 2, 3] rfl) hf
  · replace hf := it_f h4 hf
    refine lv_iload_n hx hb dX5_takesBack_12 rfl (lv_at hl 0 rfl) ?_
    refine lv_iconst (v := 4) hx hb dX5_takesBack_13 (by decide) ?_
    refine lv_icmp_ne (tgt := 34) hx hb dX5_takesBack_14 (by decide) (fun h5 => ?_) (fun h5 => ?_)
    · replace hf := it_f h5 hf
      refine lv_iconst (v := 0) hx hb dX5_takesBack_34 (by decide) ?_
      exact w_retz E w (by decide) hf dX5_takesBack_35
    · replace hf := it_t h5 hf
      exact k_X5_takesBack_17 hX E w (lv_sub hl [1, 2, 3] rfl) hf
theorem c_X5_takesBack (l : Launch) {D : va_G} {t : Nat → ClassId} {a : Nat → Nat} {X : State → Prop} (hX : XOk (aW 17 a) X) {N : Nat} {S : ST} {x1 : Int32} {x2 : Int32} {r : Int32} {S' : ST} (hf : f_X5_takesBack N S x1 x2 = some (r, S')) : Co l yX5_takesBack wsX5_takesBack rmX5_takesBack D (cM t a) (aW 17 a) (tyM t) X [.ref (a 0), .int x1, .int x2] S (Qi D (cM t a) (aW 17 a) (tyM t) r S') :=
  co_of (cc := cX5_takesBack) (maxL := 4) (ret := (some .boolean)) (lv := [(0, .ref (a 0)), (1, .int x1), (2, .int x2)]) (by decide) rfl rfl (Nat.le_of_ble_eq_true rfl) rfl rfl (fun p e s m below meth c ls E hl w => k_X5_takesBack_E hX E w hl hf)
-- X5_heldBehind
theorem hd_X5_takesBack : yX5_takesBack.cls = RX5 ∧ yX5_takesBack.cls ≠ "java/lang/invoke/MethodHandle" ∧ yX5_takesBack.cls ≠ "java/lang/invoke/VarHandle" ∧ (parseMethodDescriptor yX5_takesBack.desc).map (fun d => d.parameters.length) = some 2 := by decide +kernel
abbrev rmX5_heldBehind : Room := { frames := 3, cells := 0, slots := 0, locals := 64 }
set_option maxHeartbeats 4000000 in
set_option maxRecDepth 100000 in
theorem k_X5_heldBehind_24 {p : Program} {l : Launch} {e : Env} {s : State} {m : MethodId} {args : Array Value} {below : List Frame} {meth : Method} {c : Code} {D : va_G} {t : Nat → ClassId} {a : Nat → Nat} {X : State → Prop} {N : Nat} {r : Int32} {S' : ST} (hX : XOk (aW 17 a) X) (E : EN p s m args meth c cX5_heldBehind RX5 wsX5_heldBehind (some .int) 4) {S : ST} {x1 : Int32} {s0 : Int32} {H : Heap} {locs : List Loc} {ls : Array Slot} (w : Wd D (cM t a) (aW 17 a) (tyM t) X S s H locs) (hl : lv_has ls 4 [(1, .int x1)]) (hf : b_X5_heldBehind_24 N S x1 s0 = some (r, S')) : W p l e rmX5_heldBehind s m args below meth c H locs 0 0 (MQ below (Qi D (cM t a) (aW 17 a) (tyM t) r S') args s 0 0 (aW 17 a)) (F0 m 24 ls [.int s0]) := by
  obtain ⟨⟨hx, hb, hml, hown, hts⟩, hr, hlk⟩ := id E
  unfold b_X5_heldBehind_24 at hf
  refine lv_istore_n (lv' := [(3, .int s0), (1, .int x1)]) hx hb dX5_heldBehind_24 rfl hl (by decide) rfl (fun ls hl => ?_)
  refine lv_iload_n hx hb dX5_heldBehind_25 rfl (lv_at hl 0 rfl) ?_
  refine lv_iconst (v := 1) hx hb dX5_heldBehind_26 (by decide) ?_
  refine lv_iload_n hx hb dX5_heldBehind_27 rfl (lv_at hl 1 rfl) ?_
  refine lv_ishl hx hb dX5_heldBehind_28 ?_
  refine lv_ior hx hb dX5_heldBehind_29 ?_
  exact w_reti E w hf dX5_heldBehind_30
set_option maxHeartbeats 4000000 in
set_option maxRecDepth 100000 in
theorem k_X5_heldBehind_E {p : Program} {l : Launch} {e : Env} {s : State} {m : MethodId} {args : Array Value} {below : List Frame} {meth : Method} {c : Code} {D : va_G} {t : Nat → ClassId} {a : Nat → Nat} {X : State → Prop} {N : Nat} {r : Int32} {S' : ST} (hX : XOk (aW 17 a) X) (E : EN p s m args meth c cX5_heldBehind RX5 wsX5_heldBehind (some .int) 4) {S : ST} {x1 : Int32} {x2 : Int32} {H : Heap} {locs : List Loc} {ls : Array Slot} (w : Wd D (cM t a) (aW 17 a) (tyM t) X S s H locs) (hl : lv_has ls 4 [(0, .ref (a 0)), (1, .int x1), (2, .int x2)]) (hf : f_X5_heldBehind N S x1 x2 = some (r, S')) : W p l e rmX5_heldBehind s m args below meth c H locs 0 0 (MQ below (Qi D (cM t a) (aW 17 a) (tyM t) r S') args s 0 0 (aW 17 a)) (F0 m 0 ls []) := by
  obtain ⟨⟨hx, hb, hml, hown, hts⟩, hr, hlk⟩ := id E
  unfold f_X5_heldBehind at hf
  refine lv_aload_n hx hb dX5_heldBehind_0 rfl (lv_at hl 0 rfl) ?_
  refine lv_iload_n hx hb dX5_heldBehind_1 rfl (lv_at hl 1 rfl) ?_
  refine lv_iload_n hx hb dX5_heldBehind_2 rfl (lv_at hl 2 rfl) ?_
  obtain ⟨r3, S2, h1, hf⟩ := bd2_o hf
  refine w_callVi (As := [.int x1, .int x2]) (rest := []) hX E w (c_X5_takesBack l hX h1) (cwV 2 hts gX5_heldBehind_X5_takesBack rfl rfl rfl hd_X5_takesBack ⟨Nat.le_of_ble_eq_true rfl, Nat.le_of_ble_eq_true rfl⟩) (ci := 5) rfl (cM_at_0 t a S) rfl hl.1 rfl (Nat.le_of_ble_eq_true rfl) dX5_heldBehind_3 ⟨Nat.le_refl _, Nat.le_refl _⟩ (fun H locs w => ?_)
  refine lv_if_eq (tgt := 23) hx hb dX5_heldBehind_6 (by decide) (fun h4 => ?_) (fun h4 => ?_)
  · replace hf := it_t h4 hf
    refine lv_iload_n hx hb dX5_heldBehind_23 rfl (lv_at hl 2 rfl) ?_
    exact k_X5_heldBehind_24 hX E w (lv_sub hl [1] rfl) hf
  · replace hf := it_f h4 hf
    refine lv_iload_n hx hb dX5_heldBehind_9 rfl (lv_at hl 2 rfl) ?_
    refine lv_iconst (v := 1) hx hb dX5_heldBehind_10 (by decide) ?_
    refine lv_aload_n hx hb dX5_heldBehind_11 rfl (lv_at hl 0 rfl) ?_
    refine lv_iload_n hx hb dX5_heldBehind_12 rfl (lv_at hl 1 rfl) ?_
    obtain ⟨r7, S6, h5, hf⟩ := bd2_o hf
    refine w_callVi (As := [.int x1]) (rest := [.int 1, .int x2]) hX E w (c_X5_goodBack l hX h5) (cwV 1 hts gX5_heldBehind_X5_goodBack rfl rfl rfl hd_X5_goodBack ⟨Nat.le_of_ble_eq_true rfl, Nat.le_of_ble_eq_true rfl⟩) (ci := 5) rfl (cM_at_0 t a S2) rfl hl.1 rfl (Nat.le_of_ble_eq_true rfl) dX5_heldBehind_13 ⟨Nat.le_refl _, Nat.le_refl _⟩ (fun H locs w => ?_)
    refine lv_ishl hx hb dX5_heldBehind_16 ?_
    refine lv_iconst (v := (-1)) hx hb dX5_heldBehind_17 (by decide) ?_
    refine lv_ixor hx hb dX5_heldBehind_18 ?_
    refine lv_iand hx hb dX5_heldBehind_19 ?_
    refine lv_goto (tgt := 24) hx hb dX5_heldBehind_20 (by decide) ?_
    exact k_X5_heldBehind_24 hX E w (lv_sub hl [1] rfl) hf
theorem c_X5_heldBehind (l : Launch) {D : va_G} {t : Nat → ClassId} {a : Nat → Nat} {X : State → Prop} (hX : XOk (aW 17 a) X) {N : Nat} {S : ST} {x1 : Int32} {x2 : Int32} {r : Int32} {S' : ST} (hf : f_X5_heldBehind N S x1 x2 = some (r, S')) : Co l yX5_heldBehind wsX5_heldBehind rmX5_heldBehind D (cM t a) (aW 17 a) (tyM t) X [.ref (a 0), .int x1, .int x2] S (Qi D (cM t a) (aW 17 a) (tyM t) r S') :=
  co_of (cc := cX5_heldBehind) (maxL := 4) (ret := (some .int)) (lv := [(0, .ref (a 0)), (1, .int x1), (2, .int x2)]) (by decide) rfl rfl (Nat.le_of_ble_eq_true rfl) rfl rfl (fun p e s m below meth c ls E hl w => k_X5_heldBehind_E hX E w hl hf)
-- X5_priceOf
theorem hd_X5_manyIn : yX5_manyIn.cls ≠ "java/lang/invoke/MethodHandle" ∧ yX5_manyIn.cls ≠ "java/lang/invoke/VarHandle" ∧ (parseMethodDescriptor yX5_manyIn.desc).map (fun d => d.parameters.length) = some 1 := by decide +kernel
abbrev rmX5_priceOf : Room := { frames := 3, cells := 0, slots := 0, locals := 64 }
set_option maxHeartbeats 4000000 in
set_option maxRecDepth 100000 in
theorem k_X5_priceOf_74 {p : Program} {l : Launch} {e : Env} {s : State} {m : MethodId} {args : Array Value} {below : List Frame} {meth : Method} {c : Code} {D : va_G} {t : Nat → ClassId} {a : Nat → Nat} {X : State → Prop} {N : Nat} {r : Int32} {S' : ST} (hX : XOk (aW 17 a) X) (E : EN p s m args meth c cX5_priceOf RX5 wsX5_priceOf (some .int) 6) {S : ST} {x4 : Int32} {s0 : Int32} {H : Heap} {locs : List Loc} {ls : Array Slot} (w : Wd D (cM t a) (aW 17 a) (tyM t) X S s H locs) (hl : lv_has ls 6 [(4, .int x4)]) (hf : b_X5_priceOf_74 N S x4 s0 = some (r, S')) : W p l e rmX5_priceOf s m args below meth c H locs 0 0 (MQ below (Qi D (cM t a) (aW 17 a) (tyM t) r S') args s 0 0 (aW 17 a)) (F0 m 74 ls [.int s0]) := by
  obtain ⟨⟨hx, hb, hml, hown, hts⟩, hr, hlk⟩ := id E
  unfold b_X5_priceOf_74 at hf
  refine lv_istore (lv' := [(5, .int s0), (4, .int x4)]) hx hb dX5_priceOf_74 hl (by decide) rfl (fun ls hl => ?_)
  refine lv_iload hx hb dX5_priceOf_76 (lv_at hl 1 rfl) ?_
  refine lv_iload hx hb dX5_priceOf_78 (lv_at hl 0 rfl) ?_
  refine lv_icmp_le (tgt := 91) hx hb dX5_priceOf_80 (by decide) (fun h25 => ?_) (fun h25 => ?_)
  · replace hf := it_t h25 hf
    refine lv_iconst (v := 0) hx hb dX5_priceOf_91 (by decide) ?_
    exact w_reti E w hf dX5_priceOf_92
  · replace hf := it_f h25 hf
    refine lv_iload hx hb dX5_priceOf_83 (lv_at hl 1 rfl) ?_
    refine lv_iload hx hb dX5_priceOf_85 (lv_at hl 0 rfl) ?_
    refine lv_isub hx hb dX5_priceOf_87 ?_
    refine lv_goto (tgt := 92) hx hb dX5_priceOf_88 (by decide) ?_
    exact w_reti E w hf dX5_priceOf_92
set_option maxHeartbeats 4000000 in
set_option maxRecDepth 100000 in
theorem k_X5_priceOf_41 {p : Program} {l : Launch} {e : Env} {s : State} {m : MethodId} {args : Array Value} {below : List Frame} {meth : Method} {c : Code} {D : va_G} {t : Nat → ClassId} {a : Nat → Nat} {X : State → Prop} {N : Nat} {r : Int32} {S' : ST} (hX : XOk (aW 17 a) X) (E : EN p s m args meth c cX5_priceOf RX5 wsX5_priceOf (some .int) 6) {S : ST} {x2 : Int32} {x4 : Int32} {H : Heap} {locs : List Loc} {ls : Array Slot} (w : Wd D (cM t a) (aW 17 a) (tyM t) X S s H locs) (hl : lv_has ls 6 [(2, .int x2), (4, .int x4)]) (hf : b_X5_priceOf_41 N S x2 x4 = some (r, S')) : W p l e rmX5_priceOf s m args below meth c H locs 0 0 (MQ below (Qi D (cM t a) (aW 17 a) (tyM t) r S') args s 0 0 (aW 17 a)) (F0 m 41 ls []) := by
  obtain ⟨⟨hx, hb, hml, hown, hts⟩, hr, hlk⟩ := id E
  unfold b_X5_priceOf_41 at hf
  refine lv_iload hx hb dX5_priceOf_41 (lv_at hl 1 rfl) ?_
  refine lv_iload_n hx hb dX5_priceOf_43 rfl (lv_at hl 0 rfl) ?_
  obtain ⟨r24, S23, h22, hf⟩ := bd2_o hf
  refine w_callSi (As := [.int x2]) (rest := [.int x4]) hX E w (c_X5_manyIn l hX h22) (va_cwS 1 hts gX5_priceOf_X5_manyIn rfl rfl rfl hd_X5_manyIn ⟨Nat.le_of_ble_eq_true rfl, Nat.le_of_ble_eq_true rfl⟩) rfl hl.1 rfl (Nat.le_of_ble_eq_true rfl) dX5_priceOf_44 ⟨Nat.le_refl _, Nat.le_refl _⟩ (fun H locs w => ?_)
  refine lv_iadd hx hb dX5_priceOf_47 ?_
  exact w_reti E w hf dX5_priceOf_48
set_option maxHeartbeats 4000000 in
set_option maxRecDepth 100000 in
theorem k_X5_priceOf_26 {p : Program} {l : Launch} {e : Env} {s : State} {m : MethodId} {args : Array Value} {below : List Frame} {meth : Method} {c : Code} {D : va_G} {t : Nat → ClassId} {a : Nat → Nat} {X : State → Prop} {N : Nat} {r : Int32} {S' : ST} (hX : XOk (aW 17 a) X) (E : EN p s m args meth c cX5_priceOf RX5 wsX5_priceOf (some .int) 6) {S : ST} {x1 : Int32} {x2 : Int32} {x3 : Int32} {x4 : Int32} {H : Heap} {locs : List Loc} {ls : Array Slot} (w : Wd D (cM t a) (aW 17 a) (tyM t) X S s H locs) (hl : lv_has ls 6 [(0, .ref (a 0)), (1, .int x1), (2, .int x2), (3, .int x3), (4, .int x4)]) (hf : b_X5_priceOf_26 N S x1 x2 x3 x4 = some (r, S')) : W p l e rmX5_priceOf s m args below meth c H locs 0 0 (MQ below (Qi D (cM t a) (aW 17 a) (tyM t) r S') args s 0 0 (aW 17 a)) (F0 m 26 ls []) := by
  obtain ⟨⟨hx, hb, hml, hown, hts⟩, hr, hlk⟩ := id E
  unfold b_X5_priceOf_26 at hf
  refine lv_iload_n hx hb dX5_priceOf_26 rfl (lv_at hl 3 rfl) ?_
  refine lv_iconst (v := 1) hx hb dX5_priceOf_27 (by decide) ?_
  refine lv_icmp_eq (tgt := 41) hx hb dX5_priceOf_28 (by decide) (fun h9 => ?_) (fun h9 => ?_)
  · replace hf := it_t h9 hf
    exact k_X5_priceOf_41 hX E w (lv_sub hl [2, 4] rfl) hf
  · replace hf := it_f h9 hf
    refine lv_iload_n hx hb dX5_priceOf_31 rfl (lv_at hl 3 rfl) ?_
    refine lv_iconst (v := 3) hx hb dX5_priceOf_32 (by decide) ?_
    refine lv_icmp_eq (tgt := 41) hx hb dX5_priceOf_33 (by decide) (fun h10 => ?_) (fun h10 => ?_)
    · replace hf := it_t h10 hf
      exact k_X5_priceOf_41 hX E w (lv_sub hl [2, 4] rfl) hf
    · replace hf := it_f h10 hf
      refine lv_iload_n hx hb dX5_priceOf_36 rfl (lv_at hl 3 rfl) ?_
      refine lv_iconst (v := 5) hx hb dX5_priceOf_37 (by decide) ?_
      refine lv_icmp_ne (tgt := 49) hx hb dX5_priceOf_38 (by decide) (fun h11 => ?_) (fun h11 => ?_)
      · replace hf := it_f h11 hf
        refine lv_aload_n hx hb dX5_priceOf_49 rfl (lv_at hl 0 rfl) ?_
        refine lv_iload_n hx hb dX5_priceOf_50 rfl (lv_at hl 1 rfl) ?_
        refine lv_iload_n hx hb dX5_priceOf_51 rfl (lv_at hl 2 rfl) ?_
        obtain ⟨r14, S13, h12, hf⟩ := bd2_o hf
        refine w_callVi (As := [.int x1, .int x2]) (rest := []) hX E w (c_X5_takesBack l hX h12) (cwV 2 hts gX5_priceOf_X5_takesBack rfl rfl rfl hd_X5_takesBack ⟨Nat.le_of_ble_eq_true rfl, Nat.le_of_ble_eq_true rfl⟩) (ci := 5) rfl (cM_at_0 t a S) rfl hl.1 rfl (Nat.le_of_ble_eq_true rfl) dX5_priceOf_52 ⟨Nat.le_refl _, Nat.le_refl _⟩ (fun H locs w => ?_)
        refine lv_if_eq (tgt := 73) hx hb dX5_priceOf_55 (by decide) (fun h15 => ?_) (fun h15 => ?_)
        · replace hf := it_t h15 hf
          refine lv_iconst (v := 0) hx hb dX5_priceOf_73 (by decide) ?_
          exact k_X5_priceOf_74 hX E w (lv_sub hl [4] rfl) hf
        · replace hf := it_f h15 hf
          refine lv_aload_n hx hb dX5_priceOf_58 rfl (lv_at hl 0 rfl) ?_
          refine lv_aload_n hx hb dX5_priceOf_59 rfl (lv_at hl 0 rfl) ?_
          refine lv_iload_n hx hb dX5_priceOf_60 rfl (lv_at hl 1 rfl) ?_
          obtain ⟨r18, S17, h16, hf⟩ := bd2_o hf
          refine w_callVi (As := [.int x1]) (rest := [.ref (a 0)]) hX E w (c_X5_goodBack l hX h16) (cwV 1 hts gX5_priceOf_X5_goodBack rfl rfl rfl hd_X5_goodBack ⟨Nat.le_of_ble_eq_true rfl, Nat.le_of_ble_eq_true rfl⟩) (ci := 5) rfl (cM_at_0 t a S13) rfl hl.1 rfl (Nat.le_of_ble_eq_true rfl) dX5_priceOf_61 ⟨Nat.le_refl _, Nat.le_refl _⟩ (fun H locs w => ?_)
          refine lv_iconst (v := 1) hx hb dX5_priceOf_64 (by decide) ?_
          obtain ⟨r21, S20, h19, hf⟩ := bd2_o hf
          refine w_callVi (As := [.int r18, .int 1]) (rest := []) hX E w (c_X5_of l hX h19) (cwV 2 hts gX5_priceOf_X5_of rfl rfl rfl hd_X5_of ⟨Nat.le_of_ble_eq_true rfl, Nat.le_of_ble_eq_true rfl⟩) (ci := 5) rfl (cM_at_0 t a S17) rfl hl.1 rfl (Nat.le_of_ble_eq_true rfl) dX5_priceOf_65 ⟨Nat.le_refl _, Nat.le_refl _⟩ (fun H locs w => ?_)
          refine lv_iconst (v := 2) hx hb dX5_priceOf_68 (by decide) ?_
          refine lv_idiv hx hb dX5_priceOf_69 (by decide) ?_
          refine lv_goto (tgt := 74) hx hb dX5_priceOf_70 (by decide) ?_
          exact k_X5_priceOf_74 hX E w (lv_sub hl [4] rfl) hf
      · replace hf := it_t h11 hf
        exact k_X5_priceOf_41 hX E w (lv_sub hl [2, 4] rfl) hf
set_option maxHeartbeats 4000000 in
set_option maxRecDepth 100000 in
theorem k_X5_priceOf_E {p : Program} {l : Launch} {e : Env} {s : State} {m : MethodId} {args : Array Value} {below : List Frame} {meth : Method} {c : Code} {D : va_G} {t : Nat → ClassId} {a : Nat → Nat} {X : State → Prop} {N : Nat} {r : Int32} {S' : ST} (hX : XOk (aW 17 a) X) (E : EN p s m args meth c cX5_priceOf RX5 wsX5_priceOf (some .int) 6) {S : ST} {x1 : Int32} {x2 : Int32} {H : Heap} {locs : List Loc} {ls : Array Slot} (w : Wd D (cM t a) (aW 17 a) (tyM t) X S s H locs) (hl : lv_has ls 6 [(0, .ref (a 0)), (1, .int x1), (2, .int x2)]) (hf : f_X5_priceOf N S x1 x2 = some (r, S')) : W p l e rmX5_priceOf s m args below meth c H locs 0 0 (MQ below (Qi D (cM t a) (aW 17 a) (tyM t) r S') args s 0 0 (aW 17 a)) (F0 m 0 ls []) := by
  obtain ⟨⟨hx, hb, hml, hown, hts⟩, hr, hlk⟩ := id E
  unfold f_X5_priceOf at hf
  refine lv_aload_n hx hb dX5_priceOf_0 rfl (lv_at hl 0 rfl) ?_
  refine lv_iload_n hx hb dX5_priceOf_1 rfl (lv_at hl 1 rfl) ?_
  refine lv_iconst (v := 0) hx hb dX5_priceOf_2 (by decide) ?_
  obtain ⟨r3, S2, h1, hf⟩ := bd2_o hf
  refine w_callVi (As := [.int x1, .int 0]) (rest := []) hX E w (c_X5_of l hX h1) (cwV 2 hts gX5_priceOf_X5_of rfl rfl rfl hd_X5_of ⟨Nat.le_of_ble_eq_true rfl, Nat.le_of_ble_eq_true rfl⟩) (ci := 5) rfl (cM_at_0 t a S) rfl hl.1 rfl (Nat.le_of_ble_eq_true rfl) dX5_priceOf_3 ⟨Nat.le_refl _, Nat.le_refl _⟩ (fun H locs w => ?_)
  refine lv_istore_n (lv' := [(3, .int r3), (0, .ref (a 0)), (1, .int x1), (2, .int x2)]) hx hb dX5_priceOf_6 rfl hl (by decide) rfl (fun ls hl => ?_)
  refine lv_aload_n hx hb dX5_priceOf_7 rfl (lv_at hl 1 rfl) ?_
  refine lv_iload_n hx hb dX5_priceOf_8 rfl (lv_at hl 2 rfl) ?_
  refine lv_iconst (v := 1) hx hb dX5_priceOf_9 (by decide) ?_
  obtain ⟨r6, S5, h4, hf⟩ := bd2_o hf
  refine w_callVi (As := [.int x1, .int 1]) (rest := []) hX E w (c_X5_of l hX h4) (cwV 2 hts gX5_priceOf_X5_of rfl rfl rfl hd_X5_of ⟨Nat.le_of_ble_eq_true rfl, Nat.le_of_ble_eq_true rfl⟩) (ci := 5) rfl (cM_at_0 t a S2) rfl hl.1 rfl (Nat.le_of_ble_eq_true rfl) dX5_priceOf_10 ⟨Nat.le_refl _, Nat.le_refl _⟩ (fun H locs w => ?_)
  refine lv_istore (lv' := [(4, .int r6), (3, .int r3), (0, .ref (a 0)), (1, .int x1), (2, .int x2)]) hx hb dX5_priceOf_13 hl (by decide) rfl (fun ls hl => ?_)
  refine lv_iload_n hx hb dX5_priceOf_15 rfl (lv_at hl 1 rfl) ?_
  refine lv_iconst (v := 4) hx hb dX5_priceOf_16 (by decide) ?_
  refine lv_icmp_ne (tgt := 26) hx hb dX5_priceOf_17 (by decide) (fun h7 => ?_) (fun h7 => ?_)
  · replace hf := it_f h7 hf
    exact k_X5_priceOf_26 hX E w (lv_sub hl [2, 3, 4, 1, 0] rfl) hf
  · replace hf := it_t h7 hf
    refine lv_iload_n hx hb dX5_priceOf_20 rfl (lv_at hl 4 rfl) ?_
    refine lv_if_ne (tgt := 26) hx hb dX5_priceOf_21 (by decide) (fun h8 => ?_) (fun h8 => ?_)
    · replace hf := it_f h8 hf
      exact k_X5_priceOf_26 hX E w (lv_sub hl [2, 3, 4, 1, 0] rfl) hf
    · replace hf := it_t h8 hf
      refine lv_iconst (v := 0) hx hb dX5_priceOf_24 (by decide) ?_
      exact w_reti E w hf dX5_priceOf_25
theorem c_X5_priceOf (l : Launch) {D : va_G} {t : Nat → ClassId} {a : Nat → Nat} {X : State → Prop} (hX : XOk (aW 17 a) X) {N : Nat} {S : ST} {x1 : Int32} {x2 : Int32} {r : Int32} {S' : ST} (hf : f_X5_priceOf N S x1 x2 = some (r, S')) : Co l yX5_priceOf wsX5_priceOf rmX5_priceOf D (cM t a) (aW 17 a) (tyM t) X [.ref (a 0), .int x1, .int x2] S (Qi D (cM t a) (aW 17 a) (tyM t) r S') :=
  co_of (cc := cX5_priceOf) (maxL := 6) (ret := (some .int)) (lv := [(0, .ref (a 0)), (1, .int x1), (2, .int x2)]) (by decide) rfl rfl (Nat.le_of_ble_eq_true rfl) rfl rfl (fun p e s m below meth c ls E hl w => k_X5_priceOf_E hX E w hl hf)
-- X5_whyNot
theorem in_X5_whyNot_X5 : ∀ w ∈ u_ws RX5 TX5 28, w ∈ wsX5_whyNot := by decide +kernel
theorem fl_X5_whyNot_121 : Cond.fieldLink RX5 121 "NextDoorModel" "last" "I" ∈ wsX5_whyNot := by decide +kernel
theorem fl_X5_whyNot_125 : Cond.fieldLink RX5 125 "NextDoorModel" "been" "I" ∈ wsX5_whyNot := by decide +kernel
theorem fl_X5_whyNot_128 : Cond.fieldLink RX5 128 "NextDoorModel" "held" "I" ∈ wsX5_whyNot := by decide +kernel
theorem fl_X5_whyNot_131 : Cond.fieldLink RX5 131 "NextDoorModel" "minute" "I" ∈ wsX5_whyNot := by decide +kernel
theorem hd_X5_minutesOf : yX5_minutesOf.cls = RX5 ∧ yX5_minutesOf.cls ≠ "java/lang/invoke/MethodHandle" ∧ yX5_minutesOf.cls ≠ "java/lang/invoke/VarHandle" ∧ (parseMethodDescriptor yX5_minutesOf.desc).map (fun d => d.parameters.length) = some 1 := by decide +kernel
theorem hd_X5_heldBehind : yX5_heldBehind.cls = RX5 ∧ yX5_heldBehind.cls ≠ "java/lang/invoke/MethodHandle" ∧ yX5_heldBehind.cls ≠ "java/lang/invoke/VarHandle" ∧ (parseMethodDescriptor yX5_heldBehind.desc).map (fun d => d.parameters.length) = some 2 := by decide +kernel
theorem fl_X5_whyNot_7 : Cond.fieldLink RX5 7 "NextDoorModel" "now" "[I" ∈ wsX5_whyNot := by decide +kernel
theorem fl_X5_whyNot_140 : Cond.fieldLink RX5 140 "NextDoorModel" "paid" "I" ∈ wsX5_whyNot := by decide +kernel
theorem hd_X5_priceOf : yX5_priceOf.cls = RX5 ∧ yX5_priceOf.cls ≠ "java/lang/invoke/MethodHandle" ∧ yX5_priceOf.cls ≠ "java/lang/invoke/VarHandle" ∧ (parseMethodDescriptor yX5_priceOf.desc).map (fun d => d.parameters.length) = some 2 := by decide +kernel
abbrev rmX5_whyNot : Room := { frames := 4, cells := 0, slots := 0, locals := 89 }
set_option maxHeartbeats 4000000 in
set_option maxRecDepth 100000 in
theorem k_X5_whyNot_85 {p : Program} {l : Launch} {e : Env} {s : State} {m : MethodId} {args : Array Value} {below : List Frame} {meth : Method} {c : Code} {D : va_G} {t : Nat → ClassId} {a : Nat → Nat} {X : State → Prop} {N : Nat} {r : Int32} {S' : ST} (hX : XOk (aW 17 a) X) (E : EN p s m args meth c cX5_whyNot RX5 wsX5_whyNot (some .int) 4) {S : ST} {x1 : Int32} {H : Heap} {locs : List Loc} {ls : Array Slot} (w : Wd D (cM t a) (aW 17 a) (tyM t) X S s H locs) (hl : lv_has ls 4 [(0, .ref (a 0)), (1, .int x1)]) (hf : b_X5_whyNot_85 N S x1 = some (r, S')) : W p l e rmX5_whyNot s m args below meth c H locs 0 0 (MQ below (Qi D (cM t a) (aW 17 a) (tyM t) r S') args s 0 0 (aW 17 a)) (F0 m 85 ls []) := by
  obtain ⟨⟨hx, hb, hml, hown, hts⟩, hr, hlk⟩ := id E
  unfold b_X5_whyNot_85 at hf
  refine lv_aload_n hx hb dX5_whyNot_85 rfl (lv_at hl 0 rfl) ?_
  refine w_get E w in_X5_whyNot_X5 0 (cM_at_0 t a S) rfl 7 (by decide) fl_X5_whyNot_131 rfl rfl dX5_whyNot_86 ?_
  refine lv_aload_n hx hb dX5_whyNot_89 rfl (lv_at hl 0 rfl) ?_
  refine lv_iload_n hx hb dX5_whyNot_90 rfl (lv_at hl 1 rfl) ?_
  obtain ⟨r23, S22, h21, hf⟩ := bd2_o hf
  refine w_callVi (As := [.int x1]) (rest := [.int (S 0 7)]) hX E w (c_X5_minutesOf l hX h21) (cwV 1 hts gX5_whyNot_X5_minutesOf rfl rfl rfl hd_X5_minutesOf ⟨Nat.le_of_ble_eq_true rfl, Nat.le_of_ble_eq_true rfl⟩) (ci := 5) rfl (cM_at_0 t a S) rfl hl.1 rfl (Nat.le_of_ble_eq_true rfl) dX5_whyNot_91 ⟨Nat.le_refl _, Nat.le_refl _⟩ (fun H locs w => ?_)
  refine lv_iadd hx hb dX5_whyNot_94 ?_
  refine lv_aload_n hx hb dX5_whyNot_95 rfl (lv_at hl 0 rfl) ?_
  refine lv_iload_n hx hb dX5_whyNot_96 rfl (lv_at hl 1 rfl) ?_
  refine lv_iconst (v := 3) hx hb dX5_whyNot_97 (by decide) ?_
  obtain ⟨r26, S25, h24, hf⟩ := bd2_o hf
  refine w_callVi (As := [.int x1, .int 3]) (rest := [.int ((S 0 7) + r23)]) hX E w (c_X5_of l hX h24) (cwV 2 hts gX5_whyNot_X5_of rfl rfl rfl hd_X5_of ⟨Nat.le_of_ble_eq_true rfl, Nat.le_of_ble_eq_true rfl⟩) (ci := 5) rfl (cM_at_0 t a S22) rfl hl.1 rfl (Nat.le_of_ble_eq_true rfl) dX5_whyNot_98 ⟨Nat.le_refl _, Nat.le_refl _⟩ (fun H locs w => ?_)
  refine lv_icmp_le (tgt := 106) hx hb dX5_whyNot_101 (by decide) (fun h27 => ?_) (fun h27 => ?_)
  · replace hf := it_t h27 hf
    refine lv_aload_n hx hb dX5_whyNot_106 rfl (lv_at hl 0 rfl) ?_
    refine lv_iload_n hx hb dX5_whyNot_107 rfl (lv_at hl 1 rfl) ?_
    refine lv_aload_n hx hb dX5_whyNot_108 rfl (lv_at hl 0 rfl) ?_
    refine w_get E w in_X5_whyNot_X5 0 (cM_at_0 t a S25) rfl 5 (by decide) fl_X5_whyNot_128 rfl rfl dX5_whyNot_109 ?_
    obtain ⟨r30, S29, h28, hf⟩ := bd2_o hf
    refine w_callVi (As := [.int x1, .int (S25 0 5)]) (rest := []) hX E w (c_X5_heldBehind l hX h28) (cwV 2 hts gX5_whyNot_X5_heldBehind rfl rfl rfl hd_X5_heldBehind ⟨Nat.le_of_ble_eq_true rfl, Nat.le_of_ble_eq_true rfl⟩) (ci := 5) rfl (cM_at_0 t a S25) rfl hl.1 rfl (Nat.le_of_ble_eq_true rfl) dX5_whyNot_112 ⟨Nat.le_refl _, Nat.le_refl _⟩ (fun H locs w => ?_)
    obtain ⟨r33, S32, h31, hf⟩ := bd2_o hf
    refine w_callSi (As := [.int r30]) (rest := []) hX E w (c_X5_manyIn l hX h31) (va_cwS 1 hts gX5_whyNot_X5_manyIn rfl rfl rfl hd_X5_manyIn ⟨Nat.le_of_ble_eq_true rfl, Nat.le_of_ble_eq_true rfl⟩) rfl hl.1 rfl (Nat.le_of_ble_eq_true rfl) dX5_whyNot_115 ⟨Nat.le_refl _, Nat.le_refl _⟩ (fun H locs w => ?_)
    refine lv_aload_n hx hb dX5_whyNot_118 rfl (lv_at hl 0 rfl) ?_
    refine w_get E w in_X5_whyNot_X5 0 (cM_at_0 t a S32) rfl 0 (by decide) fl_X5_whyNot_7 rfl rfl dX5_whyNot_119 ?_
    refine lv_bipush (v := 32) hx hb dX5_whyNot_122 (by decide) ?_
    refine w_ald E w 1 0 (cM_at_1 t a S32) rfl (by decide) (congrArg (S32 1) ix_32) dX5_whyNot_124 ?_
    refine lv_icmp_le (tgt := 130) hx hb dX5_whyNot_125 (by decide) (fun h34 => ?_) (fun h34 => ?_)
    · replace hf := it_t h34 hf
      refine lv_aload_n hx hb dX5_whyNot_130 rfl (lv_at hl 0 rfl) ?_
      refine w_get E w in_X5_whyNot_X5 0 (cM_at_0 t a S32) rfl 6 (by decide) fl_X5_whyNot_140 rfl rfl dX5_whyNot_131 ?_
      refine lv_aload_n hx hb dX5_whyNot_134 rfl (lv_at hl 0 rfl) ?_
      refine lv_iload_n hx hb dX5_whyNot_135 rfl (lv_at hl 1 rfl) ?_
      refine lv_aload_n hx hb dX5_whyNot_136 rfl (lv_at hl 0 rfl) ?_
      refine w_get E w in_X5_whyNot_X5 0 (cM_at_0 t a S32) rfl 5 (by decide) fl_X5_whyNot_128 rfl rfl dX5_whyNot_137 ?_
      obtain ⟨r37, S36, h35, hf⟩ := bd2_o hf
      refine w_callVi (As := [.int x1, .int (S32 0 5)]) (rest := [.int (S32 0 6)]) hX E w (c_X5_priceOf l hX h35) (cwV 2 hts gX5_whyNot_X5_priceOf rfl rfl rfl hd_X5_priceOf ⟨Nat.le_of_ble_eq_true rfl, Nat.le_of_ble_eq_true rfl⟩) (ci := 5) rfl (cM_at_0 t a S32) rfl hl.1 rfl (Nat.le_of_ble_eq_true rfl) dX5_whyNot_140 ⟨Nat.le_refl _, Nat.le_refl _⟩ (fun H locs w => ?_)
      refine lv_iadd hx hb dX5_whyNot_143 ?_
      refine lv_aload_n hx hb dX5_whyNot_144 rfl (lv_at hl 0 rfl) ?_
      refine w_get E w in_X5_whyNot_X5 0 (cM_at_0 t a S36) rfl 0 (by decide) fl_X5_whyNot_7 rfl rfl dX5_whyNot_145 ?_
      refine lv_bipush (v := 31) hx hb dX5_whyNot_148 (by decide) ?_
      refine w_ald E w 1 0 (cM_at_1 t a S36) rfl (by decide) (congrArg (S36 1) ix_31) dX5_whyNot_150 ?_
      refine lv_icmp_le (tgt := 159) hx hb dX5_whyNot_151 (by decide) (fun h38 => ?_) (fun h38 => ?_)
      · replace hf := it_t h38 hf
        refine lv_iconst (v := 0) hx hb dX5_whyNot_159 (by decide) ?_
        exact w_reti E w hf dX5_whyNot_160
      · replace hf := it_f h38 hf
        refine lv_bipush (v := 6) hx hb dX5_whyNot_154 (by decide) ?_
        refine lv_goto (tgt := 160) hx hb dX5_whyNot_156 (by decide) ?_
        exact w_reti E w hf dX5_whyNot_160
    · replace hf := it_f h34 hf
      refine lv_iconst (v := 5) hx hb dX5_whyNot_128 (by decide) ?_
      exact w_reti E w hf dX5_whyNot_129
  · replace hf := it_f h27 hf
    refine lv_iconst (v := 4) hx hb dX5_whyNot_104 (by decide) ?_
    exact w_reti E w hf dX5_whyNot_105
set_option maxHeartbeats 4000000 in
set_option maxRecDepth 100000 in
theorem k_X5_whyNot_41 {p : Program} {l : Launch} {e : Env} {s : State} {m : MethodId} {args : Array Value} {below : List Frame} {meth : Method} {c : Code} {D : va_G} {t : Nat → ClassId} {a : Nat → Nat} {X : State → Prop} {N : Nat} {r : Int32} {S' : ST} (hX : XOk (aW 17 a) X) (E : EN p s m args meth c cX5_whyNot RX5 wsX5_whyNot (some .int) 4) {S : ST} {x1 : Int32} {s0 : Int32} {H : Heap} {locs : List Loc} {ls : Array Slot} (w : Wd D (cM t a) (aW 17 a) (tyM t) X S s H locs) (hl : lv_has ls 4 [(0, .ref (a 0)), (1, .int x1)]) (hf : b_X5_whyNot_41 N S x1 s0 = some (r, S')) : W p l e rmX5_whyNot s m args below meth c H locs 0 0 (MQ below (Qi D (cM t a) (aW 17 a) (tyM t) r S') args s 0 0 (aW 17 a)) (F0 m 41 ls [.int s0]) := by
  obtain ⟨⟨hx, hb, hml, hown, hts⟩, hr, hlk⟩ := id E
  unfold b_X5_whyNot_41 at hf
  refine lv_istore_n (lv' := [(3, .int s0), (0, .ref (a 0)), (1, .int x1)]) hx hb dX5_whyNot_41 rfl hl (by decide) rfl (fun ls hl => ?_)
  refine lv_iload_n hx hb dX5_whyNot_42 rfl (lv_at hl 0 rfl) ?_
  refine lv_if_ne (tgt := 48) hx hb dX5_whyNot_43 (by decide) (fun h11 => ?_) (fun h11 => ?_)
  · replace hf := it_f h11 hf
    refine lv_aload_n hx hb dX5_whyNot_48 rfl (lv_at hl 1 rfl) ?_
    refine w_get E w in_X5_whyNot_X5 0 (cM_at_0 t a S) rfl 8 (by decide) fl_X5_whyNot_125 rfl rfl dX5_whyNot_49 ?_
    refine lv_iload_n hx hb dX5_whyNot_52 rfl (lv_at hl 2 rfl) ?_
    refine lv_ishr hx hb dX5_whyNot_53 ?_
    refine lv_iconst (v := 1) hx hb dX5_whyNot_54 (by decide) ?_
    refine lv_iand hx hb dX5_whyNot_55 ?_
    refine lv_iconst (v := 1) hx hb dX5_whyNot_56 (by decide) ?_
    refine lv_icmp_ne (tgt := 62) hx hb dX5_whyNot_57 (by decide) (fun h12 => ?_) (fun h12 => ?_)
    · replace hf := it_f h12 hf
      refine lv_aload_n hx hb dX5_whyNot_62 rfl (lv_at hl 1 rfl) ?_
      refine lv_iload_n hx hb dX5_whyNot_63 rfl (lv_at hl 2 rfl) ?_
      refine lv_iconst (v := 0) hx hb dX5_whyNot_64 (by decide) ?_
      obtain ⟨r15, S14, h13, hf⟩ := bd2_o hf
      refine w_callVi (As := [.int x1, .int 0]) (rest := []) hX E w (c_X5_of l hX h13) (cwV 2 hts gX5_whyNot_X5_of rfl rfl rfl hd_X5_of ⟨Nat.le_of_ble_eq_true rfl, Nat.le_of_ble_eq_true rfl⟩) (ci := 5) rfl (cM_at_0 t a S) rfl hl.1 rfl (Nat.le_of_ble_eq_true rfl) dX5_whyNot_65 ⟨Nat.le_refl _, Nat.le_refl _⟩ (fun H locs w => ?_)
      refine lv_iconst (v := 5) hx hb dX5_whyNot_68 (by decide) ?_
      refine lv_icmp_ne (tgt := 85) hx hb dX5_whyNot_69 (by decide) (fun h16 => ?_) (fun h16 => ?_)
      · replace hf := it_f h16 hf
        exact k_X5_whyNot_85 hX E w (lv_sub hl [1, 2] rfl) hf
      · replace hf := it_t h16 hf
        refine lv_aload_n hx hb dX5_whyNot_72 rfl (lv_at hl 1 rfl) ?_
        refine w_get E w in_X5_whyNot_X5 0 (cM_at_0 t a S14) rfl 5 (by decide) fl_X5_whyNot_128 rfl rfl dX5_whyNot_73 ?_
        obtain ⟨r19, S18, h17, hf⟩ := bd2_o hf
        refine w_callSi (As := [.int (S14 0 5)]) (rest := []) hX E w (c_X5_manyIn l hX h17) (va_cwS 1 hts gX5_whyNot_X5_manyIn rfl rfl rfl hd_X5_manyIn ⟨Nat.le_of_ble_eq_true rfl, Nat.le_of_ble_eq_true rfl⟩) rfl hl.1 rfl (Nat.le_of_ble_eq_true rfl) dX5_whyNot_76 ⟨Nat.le_refl _, Nat.le_refl _⟩ (fun H locs w => ?_)
        refine lv_iconst (v := 2) hx hb dX5_whyNot_79 (by decide) ?_
        refine lv_icmp_ge (tgt := 85) hx hb dX5_whyNot_80 (by decide) (fun h20 => ?_) (fun h20 => ?_)
        · replace hf := it_t h20 hf
          exact k_X5_whyNot_85 hX E w (lv_sub hl [1, 2] rfl) hf
        · replace hf := it_f h20 hf
          refine lv_iconst (v := 3) hx hb dX5_whyNot_83 (by decide) ?_
          exact w_reti E w hf dX5_whyNot_84
    · replace hf := it_t h12 hf
      refine lv_iconst (v := 2) hx hb dX5_whyNot_60 (by decide) ?_
      exact w_reti E w hf dX5_whyNot_61
  · replace hf := it_t h11 hf
    refine lv_iconst (v := 1) hx hb dX5_whyNot_46 (by decide) ?_
    exact w_reti E w hf dX5_whyNot_47
set_option maxHeartbeats 4000000 in
set_option maxRecDepth 100000 in
theorem k_X5_whyNot_40 {p : Program} {l : Launch} {e : Env} {s : State} {m : MethodId} {args : Array Value} {below : List Frame} {meth : Method} {c : Code} {D : va_G} {t : Nat → ClassId} {a : Nat → Nat} {X : State → Prop} {N : Nat} {r : Int32} {S' : ST} (hX : XOk (aW 17 a) X) (E : EN p s m args meth c cX5_whyNot RX5 wsX5_whyNot (some .int) 4) {S : ST} {x1 : Int32} {H : Heap} {locs : List Loc} {ls : Array Slot} (w : Wd D (cM t a) (aW 17 a) (tyM t) X S s H locs) (hl : lv_has ls 4 [(0, .ref (a 0)), (1, .int x1)]) (hf : b_X5_whyNot_40 N S x1 = some (r, S')) : W p l e rmX5_whyNot s m args below meth c H locs 0 0 (MQ below (Qi D (cM t a) (aW 17 a) (tyM t) r S') args s 0 0 (aW 17 a)) (F0 m 40 ls []) := by
  obtain ⟨⟨hx, hb, hml, hown, hts⟩, hr, hlk⟩ := id E
  unfold b_X5_whyNot_40 at hf
  refine lv_iconst (v := 0) hx hb dX5_whyNot_40 (by decide) ?_
  exact k_X5_whyNot_41 hX E w (lv_sub hl [0, 1] rfl) hf
set_option maxHeartbeats 4000000 in
set_option maxRecDepth 100000 in
theorem k_X5_whyNot_36 {p : Program} {l : Launch} {e : Env} {s : State} {m : MethodId} {args : Array Value} {below : List Frame} {meth : Method} {c : Code} {D : va_G} {t : Nat → ClassId} {a : Nat → Nat} {X : State → Prop} {N : Nat} {r : Int32} {S' : ST} (hX : XOk (aW 17 a) X) (E : EN p s m args meth c cX5_whyNot RX5 wsX5_whyNot (some .int) 4) {S : ST} {x1 : Int32} {H : Heap} {locs : List Loc} {ls : Array Slot} (w : Wd D (cM t a) (aW 17 a) (tyM t) X S s H locs) (hl : lv_has ls 4 [(0, .ref (a 0)), (1, .int x1)]) (hf : b_X5_whyNot_36 N S x1 = some (r, S')) : W p l e rmX5_whyNot s m args below meth c H locs 0 0 (MQ below (Qi D (cM t a) (aW 17 a) (tyM t) r S') args s 0 0 (aW 17 a)) (F0 m 36 ls []) := by
  obtain ⟨⟨hx, hb, hml, hown, hts⟩, hr, hlk⟩ := id E
  unfold b_X5_whyNot_36 at hf
  refine lv_iconst (v := 1) hx hb dX5_whyNot_36 (by decide) ?_
  refine lv_goto (tgt := 41) hx hb dX5_whyNot_37 (by decide) ?_
  exact k_X5_whyNot_41 hX E w (lv_sub hl [0, 1] rfl) hf
set_option maxHeartbeats 4000000 in
set_option maxRecDepth 100000 in
theorem k_X5_whyNot_E {p : Program} {l : Launch} {e : Env} {s : State} {m : MethodId} {args : Array Value} {below : List Frame} {meth : Method} {c : Code} {D : va_G} {t : Nat → ClassId} {a : Nat → Nat} {X : State → Prop} {N : Nat} {r : Int32} {S' : ST} (hX : XOk (aW 17 a) X) (E : EN p s m args meth c cX5_whyNot RX5 wsX5_whyNot (some .int) 4) {S : ST} {x1 : Int32} {x2 : Int32} {H : Heap} {locs : List Loc} {ls : Array Slot} (w : Wd D (cM t a) (aW 17 a) (tyM t) X S s H locs) (hl : lv_has ls 4 [(0, .ref (a 0)), (1, .int x1), (2, .int x2)]) (hf : f_X5_whyNot N S x1 x2 = some (r, S')) : W p l e rmX5_whyNot s m args below meth c H locs 0 0 (MQ below (Qi D (cM t a) (aW 17 a) (tyM t) r S') args s 0 0 (aW 17 a)) (F0 m 0 ls []) := by
  obtain ⟨⟨hx, hb, hml, hown, hts⟩, hr, hlk⟩ := id E
  unfold f_X5_whyNot at hf
  refine lv_iload_n hx hb dX5_whyNot_0 rfl (lv_at hl 1 rfl) ?_
  refine lv_iload_n hx hb dX5_whyNot_1 rfl (lv_at hl 2 rfl) ?_
  refine lv_icmp_eq (tgt := 40) hx hb dX5_whyNot_2 (by decide) (fun h1 => ?_) (fun h1 => ?_)
  · replace hf := it_t h1 hf
    exact k_X5_whyNot_40 hX E w (lv_sub hl [0, 1] rfl) hf
  · replace hf := it_f h1 hf
    refine lv_aload_n hx hb dX5_whyNot_5 rfl (lv_at hl 0 rfl) ?_
    refine w_get E w in_X5_whyNot_X5 0 (cM_at_0 t a S) rfl 4 (by decide) fl_X5_whyNot_121 rfl rfl dX5_whyNot_6 ?_
    refine lv_iconst (v := (-1)) hx hb dX5_whyNot_9 (by decide) ?_
    refine lv_icmp_ne (tgt := 24) hx hb dX5_whyNot_10 (by decide) (fun h2 => ?_) (fun h2 => ?_)
    · replace hf := it_f h2 hf
      refine lv_aload_n hx hb dX5_whyNot_24 rfl (lv_at hl 0 rfl) ?_
      refine lv_aload_n hx hb dX5_whyNot_25 rfl (lv_at hl 0 rfl) ?_
      refine w_get E w in_X5_whyNot_X5 0 (cM_at_0 t a S) rfl 4 (by decide) fl_X5_whyNot_121 rfl rfl dX5_whyNot_26 ?_
      refine lv_iload_n hx hb dX5_whyNot_29 rfl (lv_at hl 1 rfl) ?_
      obtain ⟨r5, S4, h3, hf⟩ := bd2_o hf
      refine w_callVi (As := [.int (S 0 4), .int x1]) (rest := []) hX E w (c_X5_areNear l hX h3) (cwV 2 hts gX5_whyNot_X5_areNear rfl rfl rfl hd_X5_areNear ⟨Nat.le_of_ble_eq_true rfl, Nat.le_of_ble_eq_true rfl⟩) (ci := 5) rfl (cM_at_0 t a S) rfl hl.1 rfl (Nat.le_of_ble_eq_true rfl) dX5_whyNot_30 ⟨Nat.le_refl _, Nat.le_refl _⟩ (fun H locs w => ?_)
      refine lv_if_eq (tgt := 40) hx hb dX5_whyNot_33 (by decide) (fun h6 => ?_) (fun h6 => ?_)
      · replace hf := it_t h6 hf
        exact k_X5_whyNot_40 hX E w (lv_sub hl [0, 1] rfl) hf
      · replace hf := it_f h6 hf
        exact k_X5_whyNot_36 hX E w (lv_sub hl [0, 1] rfl) hf
    · replace hf := it_t h2 hf
      refine lv_aload_n hx hb dX5_whyNot_13 rfl (lv_at hl 0 rfl) ?_
      refine lv_iload_n hx hb dX5_whyNot_14 rfl (lv_at hl 1 rfl) ?_
      obtain ⟨r9, S8, h7, hf⟩ := bd2_o hf
      refine w_callVi (As := [.int x1]) (rest := []) hX E w (c_X5_isFree l hX h7) (cwV 1 hts gX5_whyNot_X5_isFree rfl rfl rfl hd_X5_isFree ⟨Nat.le_of_ble_eq_true rfl, Nat.le_of_ble_eq_true rfl⟩) (ci := 5) rfl (cM_at_0 t a S) rfl hl.1 rfl (Nat.le_of_ble_eq_true rfl) dX5_whyNot_15 ⟨Nat.le_refl _, Nat.le_refl _⟩ (fun H locs w => ?_)
      refine lv_if_eq (tgt := 40) hx hb dX5_whyNot_18 (by decide) (fun h10 => ?_) (fun h10 => ?_)
      · replace hf := it_t h10 hf
        exact k_X5_whyNot_40 hX E w (lv_sub hl [0, 1] rfl) hf
      · replace hf := it_f h10 hf
        refine lv_goto (tgt := 36) hx hb dX5_whyNot_21 (by decide) ?_
        exact k_X5_whyNot_36 hX E w (lv_sub hl [0, 1] rfl) hf
theorem c_X5_whyNot (l : Launch) {D : va_G} {t : Nat → ClassId} {a : Nat → Nat} {X : State → Prop} (hX : XOk (aW 17 a) X) {N : Nat} {S : ST} {x1 : Int32} {x2 : Int32} {r : Int32} {S' : ST} (hf : f_X5_whyNot N S x1 x2 = some (r, S')) : Co l yX5_whyNot wsX5_whyNot rmX5_whyNot D (cM t a) (aW 17 a) (tyM t) X [.ref (a 0), .int x1, .int x2] S (Qi D (cM t a) (aW 17 a) (tyM t) r S') :=
  co_of (cc := cX5_whyNot) (maxL := 4) (ret := (some .int)) (lv := [(0, .ref (a 0)), (1, .int x1), (2, .int x2)]) (by decide) rfl rfl (Nat.le_of_ble_eq_true rfl) rfl rfl (fun p e s m below meth c ls E hl w => k_X5_whyNot_E hX E w hl hf)
-- X5_buy
theorem in_X5_buy_X5 : ∀ w ∈ u_ws RX5 TX5 28, w ∈ wsX5_buy := by decide +kernel
theorem fl_X5_buy_140 : Cond.fieldLink RX5 140 "NextDoorModel" "paid" "I" ∈ wsX5_buy := by decide +kernel
theorem fl_X5_buy_128 : Cond.fieldLink RX5 128 "NextDoorModel" "held" "I" ∈ wsX5_buy := by decide +kernel
theorem fl_X5_buy_131 : Cond.fieldLink RX5 131 "NextDoorModel" "minute" "I" ∈ wsX5_buy := by decide +kernel
theorem fl_X5_buy_125 : Cond.fieldLink RX5 125 "NextDoorModel" "been" "I" ∈ wsX5_buy := by decide +kernel
theorem fl_X5_buy_121 : Cond.fieldLink RX5 121 "NextDoorModel" "last" "I" ∈ wsX5_buy := by decide +kernel
abbrev rmX5_buy : Room := { frames := 4, cells := 0, slots := 0, locals := 89 }
set_option maxHeartbeats 4000000 in
set_option maxRecDepth 100000 in
theorem k_X5_buy_E {p : Program} {l : Launch} {e : Env} {s : State} {m : MethodId} {args : Array Value} {below : List Frame} {meth : Method} {c : Code} {D : va_G} {t : Nat → ClassId} {a : Nat → Nat} {X : State → Prop} {N : Nat} {S' : ST} (hX : XOk (aW 17 a) X) (E : EN p s m args meth c cX5_buy RX5 wsX5_buy none 2) {S : ST} {x1 : Int32} {H : Heap} {locs : List Loc} {ls : Array Slot} (w : Wd D (cM t a) (aW 17 a) (tyM t) X S s H locs) (hl : lv_has ls 2 [(0, .ref (a 0)), (1, .int x1)]) (hf : f_X5_buy N S x1 = some S') : W p l e rmX5_buy s m args below meth c H locs 0 0 (MQ below (Qv D (cM t a) (aW 17 a) (tyM t) S') args s 0 0 (aW 17 a)) (F0 m 0 ls []) := by
  obtain ⟨⟨hx, hb, hml, hown, hts⟩, hr, hlk⟩ := id E
  unfold f_X5_buy at hf
  refine lv_aload_n hx hb dX5_buy_0 rfl (lv_at hl 0 rfl) ?_
  refine lv_dup hx hb dX5_buy_1 rfl ?_
  refine w_get E w in_X5_buy_X5 0 (cM_at_0 t a S) rfl 6 (by decide) fl_X5_buy_140 rfl rfl dX5_buy_2 ?_
  refine lv_aload_n hx hb dX5_buy_5 rfl (lv_at hl 0 rfl) ?_
  refine lv_iload_n hx hb dX5_buy_6 rfl (lv_at hl 1 rfl) ?_
  refine lv_aload_n hx hb dX5_buy_7 rfl (lv_at hl 0 rfl) ?_
  refine w_get E w in_X5_buy_X5 0 (cM_at_0 t a S) rfl 5 (by decide) fl_X5_buy_128 rfl rfl dX5_buy_8 ?_
  obtain ⟨r3, S2, h1, hf⟩ := bd2_o hf
  refine w_callVi (As := [.int x1, .int (S 0 5)]) (rest := [.int (S 0 6), .ref (a 0)]) hX E w (c_X5_priceOf l hX h1) (cwV 2 hts gX5_buy_X5_priceOf rfl rfl rfl hd_X5_priceOf ⟨Nat.le_of_ble_eq_true rfl, Nat.le_of_ble_eq_true rfl⟩) (ci := 5) rfl (cM_at_0 t a S) rfl hl.1 rfl (Nat.le_of_ble_eq_true rfl) dX5_buy_11 ⟨Nat.le_refl _, Nat.le_refl _⟩ (fun H locs w => ?_)
  refine lv_iadd hx hb dX5_buy_14 ?_
  obtain ⟨S4, eS4, hf⟩ := nm_o hf
  refine w_put (S1 := S4) E w in_X5_buy_X5 tyX5 tyX5_ok nmX5 0 (cM_at_0 t a S2) rfl 6 (by decide) fl_X5_buy_140 rfl rfl rfl rfl rfl (Nat.le_of_ble_eq_true rfl) ((cM_set_0_6 t a S2 ((S 0 6) + r3)).trans (congrArg (cM t a) eS4.symm)) dX5_buy_15 (fun H locs w => ?_)
  refine lv_aload_n hx hb dX5_buy_18 rfl (lv_at hl 0 rfl) ?_
  refine lv_aload_n hx hb dX5_buy_19 rfl (lv_at hl 0 rfl) ?_
  refine lv_iload_n hx hb dX5_buy_20 rfl (lv_at hl 1 rfl) ?_
  refine lv_aload_n hx hb dX5_buy_21 rfl (lv_at hl 0 rfl) ?_
  refine w_get E w in_X5_buy_X5 0 (cM_at_0 t a S4) rfl 5 (by decide) fl_X5_buy_128 rfl rfl dX5_buy_22 ?_
  obtain ⟨r7, S6, h5, hf⟩ := bd2_o hf
  refine w_callVi (As := [.int x1, .int (S4 0 5)]) (rest := [.ref (a 0)]) hX E w (c_X5_heldBehind l hX h5) (cwV 2 hts gX5_buy_X5_heldBehind rfl rfl rfl hd_X5_heldBehind ⟨Nat.le_of_ble_eq_true rfl, Nat.le_of_ble_eq_true rfl⟩) (ci := 5) rfl (cM_at_0 t a S4) rfl hl.1 rfl (Nat.le_of_ble_eq_true rfl) dX5_buy_25 ⟨Nat.le_refl _, Nat.le_refl _⟩ (fun H locs w => ?_)
  obtain ⟨S8, eS8, hf⟩ := nm_o hf
  refine w_put (S1 := S8) E w in_X5_buy_X5 tyX5 tyX5_ok nmX5 0 (cM_at_0 t a S6) rfl 5 (by decide) fl_X5_buy_128 rfl rfl rfl rfl rfl (Nat.le_of_ble_eq_true rfl) ((cM_set_0_5 t a S6 r7).trans (congrArg (cM t a) eS8.symm)) dX5_buy_28 (fun H locs w => ?_)
  refine lv_aload_n hx hb dX5_buy_31 rfl (lv_at hl 0 rfl) ?_
  refine lv_dup hx hb dX5_buy_32 rfl ?_
  refine w_get E w in_X5_buy_X5 0 (cM_at_0 t a S8) rfl 7 (by decide) fl_X5_buy_131 rfl rfl dX5_buy_33 ?_
  refine lv_aload_n hx hb dX5_buy_36 rfl (lv_at hl 0 rfl) ?_
  refine lv_iload_n hx hb dX5_buy_37 rfl (lv_at hl 1 rfl) ?_
  obtain ⟨r11, S10, h9, hf⟩ := bd2_o hf
  refine w_callVi (As := [.int x1]) (rest := [.int (S8 0 7), .ref (a 0)]) hX E w (c_X5_minutesOf l hX h9) (cwV 1 hts gX5_buy_X5_minutesOf rfl rfl rfl hd_X5_minutesOf ⟨Nat.le_of_ble_eq_true rfl, Nat.le_of_ble_eq_true rfl⟩) (ci := 5) rfl (cM_at_0 t a S8) rfl hl.1 rfl (Nat.le_of_ble_eq_true rfl) dX5_buy_38 ⟨Nat.le_refl _, Nat.le_refl _⟩ (fun H locs w => ?_)
  refine lv_iadd hx hb dX5_buy_41 ?_
  obtain ⟨S12, eS12, hf⟩ := nm_o hf
  refine w_put (S1 := S12) E w in_X5_buy_X5 tyX5 tyX5_ok nmX5 0 (cM_at_0 t a S10) rfl 7 (by decide) fl_X5_buy_131 rfl rfl rfl rfl rfl (Nat.le_of_ble_eq_true rfl) ((cM_set_0_7 t a S10 ((S8 0 7) + r11)).trans (congrArg (cM t a) eS12.symm)) dX5_buy_42 (fun H locs w => ?_)
  refine lv_aload_n hx hb dX5_buy_45 rfl (lv_at hl 0 rfl) ?_
  refine lv_dup hx hb dX5_buy_46 rfl ?_
  refine w_get E w in_X5_buy_X5 0 (cM_at_0 t a S12) rfl 8 (by decide) fl_X5_buy_125 rfl rfl dX5_buy_47 ?_
  refine lv_iconst (v := 1) hx hb dX5_buy_50 (by decide) ?_
  refine lv_iload_n hx hb dX5_buy_51 rfl (lv_at hl 1 rfl) ?_
  refine lv_ishl hx hb dX5_buy_52 ?_
  refine lv_ior hx hb dX5_buy_53 ?_
  obtain ⟨S13, eS13, hf⟩ := nm_o hf
  refine w_put (S1 := S13) E w in_X5_buy_X5 tyX5 tyX5_ok nmX5 0 (cM_at_0 t a S12) rfl 8 (by decide) fl_X5_buy_125 rfl rfl rfl rfl rfl (Nat.le_of_ble_eq_true rfl) ((cM_set_0_8 t a S12 ((S12 0 8) ||| (1 <<< (x1 &&& 31)))).trans (congrArg (cM t a) eS13.symm)) dX5_buy_54 (fun H locs w => ?_)
  refine lv_aload_n hx hb dX5_buy_57 rfl (lv_at hl 0 rfl) ?_
  refine lv_iload_n hx hb dX5_buy_58 rfl (lv_at hl 1 rfl) ?_
  obtain ⟨S14, eS14, hf⟩ := nm_o hf
  refine w_put (S1 := S14) E w in_X5_buy_X5 tyX5 tyX5_ok nmX5 0 (cM_at_0 t a S13) rfl 4 (by decide) fl_X5_buy_121 rfl rfl rfl rfl rfl (Nat.le_of_ble_eq_true rfl) ((cM_set_0_4 t a S13 x1).trans (congrArg (cM t a) eS14.symm)) dX5_buy_59 (fun H locs w => ?_)
  exact w_retv E w hf dX5_buy_62
theorem c_X5_buy (l : Launch) {D : va_G} {t : Nat → ClassId} {a : Nat → Nat} {X : State → Prop} (hX : XOk (aW 17 a) X) {N : Nat} {S : ST} {x1 : Int32} {S' : ST} (hf : f_X5_buy N S x1 = some S') : Co l yX5_buy wsX5_buy rmX5_buy D (cM t a) (aW 17 a) (tyM t) X [.ref (a 0), .int x1] S (Qv D (cM t a) (aW 17 a) (tyM t) S') :=
  co_of (cc := cX5_buy) (maxL := 2) (ret := none) (lv := [(0, .ref (a 0)), (1, .int x1)]) (by decide) rfl rfl (Nat.le_of_ble_eq_true rfl) rfl rfl (fun p e s m below meth c ls E hl w => k_X5_buy_E hX E w hl hf)
-- X5_errand
theorem ct_X5_errand_146 : Cond.constantLong RX5 146 3 ∈ wsX5_errand := by decide +kernel
theorem hd_X5_begin : yX5_begin.cls = RX5 ∧ yX5_begin.cls ≠ "java/lang/invoke/MethodHandle" ∧ yX5_begin.cls ≠ "java/lang/invoke/VarHandle" ∧ (parseMethodDescriptor yX5_begin.desc).map (fun d => d.parameters.length) = some 0 := by decide +kernel
theorem in_X5_errand_X5 : ∀ w ∈ u_ws RX5 TX5 28, w ∈ wsX5_errand := by decide +kernel
theorem fl_X5_errand_7 : Cond.fieldLink RX5 7 "NextDoorModel" "now" "[I" ∈ wsX5_errand := by decide +kernel
theorem hd_X5_whyNot : yX5_whyNot.cls = RX5 ∧ yX5_whyNot.cls ≠ "java/lang/invoke/MethodHandle" ∧ yX5_whyNot.cls ≠ "java/lang/invoke/VarHandle" ∧ (parseMethodDescriptor yX5_whyNot.desc).map (fun d => d.parameters.length) = some 2 := by decide +kernel
theorem hd_X5_buy : yX5_buy.cls = RX5 ∧ yX5_buy.cls ≠ "java/lang/invoke/MethodHandle" ∧ yX5_buy.cls ≠ "java/lang/invoke/VarHandle" ∧ (parseMethodDescriptor yX5_buy.desc).map (fun d => d.parameters.length) = some 1 := by decide +kernel
theorem fl_X5_errand_128 : Cond.fieldLink RX5 128 "NextDoorModel" "held" "I" ∈ wsX5_errand := by decide +kernel
theorem fl_X5_errand_131 : Cond.fieldLink RX5 131 "NextDoorModel" "minute" "I" ∈ wsX5_errand := by decide +kernel
theorem fl_X5_errand_140 : Cond.fieldLink RX5 140 "NextDoorModel" "paid" "I" ∈ wsX5_errand := by decide +kernel
abbrev rmX5_errand : Room := { frames := 5, cells := 0, slots := 0, locals := 112 }
set_option maxHeartbeats 4000000 in
set_option maxRecDepth 100000 in
theorem k_X5_errand_97 {p : Program} {l : Launch} {e : Env} {s : State} {m : MethodId} {args : Array Value} {below : List Frame} {meth : Method} {c : Code} {D : va_G} {t : Nat → ClassId} {a : Nat → Nat} {X : State → Prop} {N : Nat} {r : Int32} {S' : ST} (hX : XOk (aW 17 a) X) (E : EN p s m args meth c cX5_errand RX5 wsX5_errand (some .int) 6) {S : ST} {x1 : Int32} {x2 : Int32} {H : Heap} {locs : List Loc} {ls : Array Slot} (w : Wd D (cM t a) (aW 17 a) (tyM t) X S s H locs) (hl : lv_has ls 6 [(0, .ref (a 0)), (1, .int x1), (2, .int x2)]) (hf : b_X5_errand_97 N S x1 x2 = some (r, S')) : W p l e rmX5_errand s m args below meth c H locs 0 0 (MQ below (Qi D (cM t a) (aW 17 a) (tyM t) r S') args s 0 0 (aW 17 a)) (F0 m 97 ls []) := by
  obtain ⟨⟨hx, hb, hml, hown, hts⟩, hr, hlk⟩ := id E
  unfold b_X5_errand_97 at hf
  refine lv_iload_n hx hb dX5_errand_97 rfl (lv_at hl 1 rfl) ?_
  refine lv_if_ne (tgt := 105) hx hb dX5_errand_98 (by decide) (fun h20 => ?_) (fun h20 => ?_)
  · replace hf := it_f h20 hf
    refine lv_iload_n hx hb dX5_errand_105 rfl (lv_at hl 1 rfl) ?_
    refine lv_iconst (v := 1) hx hb dX5_errand_106 (by decide) ?_
    refine lv_icmp_ne (tgt := 117) hx hb dX5_errand_107 (by decide) (fun h21 => ?_) (fun h21 => ?_)
    · replace hf := it_f h21 hf
      refine lv_iload_n hx hb dX5_errand_117 rfl (lv_at hl 1 rfl) ?_
      refine lv_iconst (v := 2) hx hb dX5_errand_118 (by decide) ?_
      refine lv_icmp_ne (tgt := 129) hx hb dX5_errand_119 (by decide) (fun h22 => ?_) (fun h22 => ?_)
      · replace hf := it_f h22 hf
        refine lv_aload_n hx hb dX5_errand_129 rfl (lv_at hl 0 rfl) ?_
        refine w_get E w in_X5_errand_X5 0 (cM_at_0 t a S) rfl 5 (by decide) fl_X5_errand_128 rfl rfl dX5_errand_130 ?_
        exact w_reti E w hf dX5_errand_133
      · replace hf := it_t h22 hf
        refine lv_aload_n hx hb dX5_errand_122 rfl (lv_at hl 0 rfl) ?_
        refine w_get E w in_X5_errand_X5 0 (cM_at_0 t a S) rfl 7 (by decide) fl_X5_errand_131 rfl rfl dX5_errand_123 ?_
        refine lv_goto (tgt := 133) hx hb dX5_errand_126 (by decide) ?_
        exact w_reti E w hf dX5_errand_133
    · replace hf := it_t h21 hf
      refine lv_aload_n hx hb dX5_errand_110 rfl (lv_at hl 0 rfl) ?_
      refine w_get E w in_X5_errand_X5 0 (cM_at_0 t a S) rfl 6 (by decide) fl_X5_errand_140 rfl rfl dX5_errand_111 ?_
      refine lv_goto (tgt := 133) hx hb dX5_errand_114 (by decide) ?_
      exact w_reti E w hf dX5_errand_133
  · replace hf := it_t h20 hf
    refine lv_iload_n hx hb dX5_errand_101 rfl (lv_at hl 2 rfl) ?_
    refine lv_goto (tgt := 133) hx hb dX5_errand_102 (by decide) ?_
    exact w_reti E w hf dX5_errand_133
set_option maxHeartbeats 4000000 in
set_option maxRecDepth 100000 in
theorem k_X5_errand_91 {p : Program} {l : Launch} {e : Env} {s : State} {m : MethodId} {args : Array Value} {below : List Frame} {meth : Method} {c : Code} {D : va_G} {t : Nat → ClassId} {a : Nat → Nat} {X : State → Prop} {N : Nat} {r : Int32} {S' : ST} (hX : XOk (aW 17 a) X) (E : EN p s m args meth c cX5_errand RX5 wsX5_errand (some .int) 6) {k27 : ST → Int32 → Int32 → Int32 → Option (Int32 × ST)} (hk27 : ∀ {S : ST} {x1 : Int32} {x2 : Int32} {x3 : Int32} {H : Heap} {locs : List Loc} {ls : Array Slot}, Wd D (cM t a) (aW 17 a) (tyM t) X S s H locs → lv_has ls 6 [(0, .ref (a 0)), (1, .int x1), (2, .int x2), (3, .int x3)] → k27 S x1 x2 x3 = some (r, S') → W p l e rmX5_errand s m args below meth c H locs 0 0 (MQ below (Qi D (cM t a) (aW 17 a) (tyM t) r S') args s 0 0 (aW 17 a)) (F0 m 27 ls [])) {S : ST} {x1 : Int32} {x2 : Int32} {x3 : Int32} {H : Heap} {locs : List Loc} {ls : Array Slot} (w : Wd D (cM t a) (aW 17 a) (tyM t) X S s H locs) (hl : lv_has ls 6 [(0, .ref (a 0)), (1, .int x1), (2, .int x2), (3, .int x3)]) (hf : b_X5_errand_91 N k27 S x1 x2 x3 = some (r, S')) : W p l e rmX5_errand s m args below meth c H locs 0 0 (MQ below (Qi D (cM t a) (aW 17 a) (tyM t) r S') args s 0 0 (aW 17 a)) (F0 m 91 ls []) := by
  obtain ⟨⟨hx, hb, hml, hown, hts⟩, hr, hlk⟩ := id E
  unfold b_X5_errand_91 at hf
  refine lv_iinc (v := x3 + 1) (lv' := [(3, .int (x3 + 1)), (0, .ref (a 0)), (1, .int x1), (2, .int x2)]) hx hb dX5_errand_91 hl (k := 3) rfl rfl (by decide) rfl (fun ls hl => ?_)
  refine lv_goto (tgt := 27) hx hb dX5_errand_94 (by decide) ?_
  exact hk27 w (lv_sub hl [1, 2, 3, 0] rfl) hf
set_option maxHeartbeats 4000000 in
set_option maxRecDepth 100000 in
theorem k_X5_errand_79 {p : Program} {l : Launch} {e : Env} {s : State} {m : MethodId} {args : Array Value} {below : List Frame} {meth : Method} {c : Code} {D : va_G} {t : Nat → ClassId} {a : Nat → Nat} {X : State → Prop} {N : Nat} {r : Int32} {S' : ST} (hX : XOk (aW 17 a) X) (E : EN p s m args meth c cX5_errand RX5 wsX5_errand (some .int) 6) {k27 : ST → Int32 → Int32 → Int32 → Option (Int32 × ST)} (hk27 : ∀ {S : ST} {x1 : Int32} {x2 : Int32} {x3 : Int32} {H : Heap} {locs : List Loc} {ls : Array Slot}, Wd D (cM t a) (aW 17 a) (tyM t) X S s H locs → lv_has ls 6 [(0, .ref (a 0)), (1, .int x1), (2, .int x2), (3, .int x3)] → k27 S x1 x2 x3 = some (r, S') → W p l e rmX5_errand s m args below meth c H locs 0 0 (MQ below (Qi D (cM t a) (aW 17 a) (tyM t) r S') args s 0 0 (aW 17 a)) (F0 m 27 ls [])) {S : ST} {x1 : Int32} {x3 : Int32} {x4 : Int32} {x5 : Int32} {s0 : Int32} {H : Heap} {locs : List Loc} {ls : Array Slot} (w : Wd D (cM t a) (aW 17 a) (tyM t) X S s H locs) (hl : lv_has ls 6 [(0, .ref (a 0)), (1, .int x1), (3, .int x3), (4, .int x4), (5, .int x5)]) (hf : b_X5_errand_79 N k27 S x1 x3 x4 x5 s0 = some (r, S')) : W p l e rmX5_errand s m args below meth c H locs 0 0 (MQ below (Qi D (cM t a) (aW 17 a) (tyM t) r S') args s 0 0 (aW 17 a)) (F0 m 79 ls [.int s0]) := by
  obtain ⟨⟨hx, hb, hml, hown, hts⟩, hr, hlk⟩ := id E
  unfold b_X5_errand_79 at hf
  refine lv_istore_n (lv' := [(2, .int s0), (0, .ref (a 0)), (1, .int x1), (3, .int x3), (4, .int x4), (5, .int x5)]) hx hb dX5_errand_79 rfl hl (by decide) rfl (fun ls hl => ?_)
  refine lv_iload hx hb dX5_errand_80 (lv_at hl 5 rfl) ?_
  refine lv_if_ne (tgt := 91) hx hb dX5_errand_82 (by decide) (fun h17 => ?_) (fun h17 => ?_)
  · replace hf := it_f h17 hf
    exact k_X5_errand_91 hX E hk27 w (lv_sub hl [1, 2, 0, 3] rfl) hf
  · replace hf := it_t h17 hf
    refine lv_aload_n hx hb dX5_errand_85 rfl (lv_at hl 1 rfl) ?_
    refine lv_iload hx hb dX5_errand_86 (lv_at hl 4 rfl) ?_
    obtain ⟨S19, h18, hf⟩ := bd1_o hf
    refine w_callVv (As := [.int x4]) (rest := []) hX E w (c_X5_buy l hX h18) (cwV 1 hts gX5_errand_X5_buy rfl rfl rfl hd_X5_buy ⟨Nat.le_of_ble_eq_true rfl, Nat.le_of_ble_eq_true rfl⟩) (ci := 5) rfl (cM_at_0 t a S) rfl hl.1 rfl (Nat.le_of_ble_eq_true rfl) dX5_errand_88 ⟨Nat.le_refl _, Nat.le_refl _⟩ (fun H locs w => ?_)
    exact k_X5_errand_91 hX E hk27 w (lv_sub hl [1, 2, 0, 3] rfl) hf
set_option maxHeartbeats 4000000 in
set_option maxRecDepth 100000 in
theorem k_X5_errand_27 {p : Program} {l : Launch} {e : Env} {s : State} {m : MethodId} {args : Array Value} {below : List Frame} {meth : Method} {c : Code} {D : va_G} {t : Nat → ClassId} {a : Nat → Nat} {X : State → Prop} {N : Nat} {r : Int32} {S' : ST} (hX : XOk (aW 17 a) X) (E : EN p s m args meth c cX5_errand RX5 wsX5_errand (some .int) 6) : ∀ (n : Nat) {S : ST} {x1 : Int32} {x2 : Int32} {x3 : Int32} {H : Heap} {locs : List Loc} {ls : Array Slot}, Wd D (cM t a) (aW 17 a) (tyM t) X S s H locs → lv_has ls 6 [(0, .ref (a 0)), (1, .int x1), (2, .int x2), (3, .int x3)] → b_X5_errand_27 N n S x1 x2 x3 = some (r, S') → W p l e rmX5_errand s m args below meth c H locs 0 0 (MQ below (Qi D (cM t a) (aW 17 a) (tyM t) r S') args s 0 0 (aW 17 a)) (F0 m 27 ls []) := by
  obtain ⟨⟨hx, hb, hml, hown, hts⟩, hr, hlk⟩ := id E
  intro n
  induction n with
  | zero => intro S x1 x2 x3 H locs ls w hl hf; cases hf
  | succ n ih =>
    intro S x1 x2 x3 H locs ls w hl hf
    unfold b_X5_errand_27 at hf
    refine lv_iload_n hx hb dX5_errand_27 rfl (lv_at hl 3 rfl) ?_
    refine lv_aload_n hx hb dX5_errand_28 rfl (lv_at hl 0 rfl) ?_
    refine w_get E w in_X5_errand_X5 0 (cM_at_0 t a S) rfl 0 (by decide) fl_X5_errand_7 rfl rfl dX5_errand_29 ?_
    refine lv_bipush (v := 33) hx hb dX5_errand_32 (by decide) ?_
    refine w_ald E w 1 0 (cM_at_1 t a S) rfl (by decide) (congrArg (S 1) ix_33) dX5_errand_34 ?_
    refine lv_icmp_ge (tgt := 97) hx hb dX5_errand_35 (by decide) (fun h10 => ?_) (fun h10 => ?_)
    · replace hf := it_t h10 hf
      exact k_X5_errand_97 hX E w (lv_sub hl [0, 1, 2] rfl) hf
    · replace hf := it_f h10 hf
      refine lv_iload_n hx hb dX5_errand_38 rfl (lv_at hl 2 rfl) ?_
      refine lv_iconst (v := (-1)) hx hb dX5_errand_39 (by decide) ?_
      refine lv_icmp_ne (tgt := 97) hx hb dX5_errand_40 (by decide) (fun h11 => ?_) (fun h11 => ?_)
      · replace hf := it_f h11 hf
        exact k_X5_errand_97 hX E w (lv_sub hl [0, 1, 2] rfl) hf
      · replace hf := it_t h11 hf
        refine lv_aload_n hx hb dX5_errand_43 rfl (lv_at hl 0 rfl) ?_
        refine w_get E w in_X5_errand_X5 0 (cM_at_0 t a S) rfl 0 (by decide) fl_X5_errand_7 rfl rfl dX5_errand_44 ?_
        refine lv_bipush (v := 34) hx hb dX5_errand_47 (by decide) ?_
        refine lv_iload_n hx hb dX5_errand_49 rfl (lv_at hl 3 rfl) ?_
        refine lv_iadd hx hb dX5_errand_50 ?_
        obtain ⟨h12, hf⟩ := it_n hf
        refine w_ald E w 1 0 (cM_at_1 t a S) rfl h12 rfl dX5_errand_51 ?_
        refine lv_istore (lv' := [(4, .int (S 1 (34 + x3).toNatClampNeg)), (0, .ref (a 0)), (1, .int x1), (2, .int x2), (3, .int x3)]) hx hb dX5_errand_52 hl (by decide) rfl (fun ls hl => ?_)
        refine lv_aload_n hx hb dX5_errand_54 rfl (lv_at hl 1 rfl) ?_
        refine lv_iload hx hb dX5_errand_55 (lv_at hl 0 rfl) ?_
        refine lv_iconst (v := (-1)) hx hb dX5_errand_57 (by decide) ?_
        obtain ⟨r15, S14, h13, hf⟩ := bd2_o hf
        refine w_callVi (As := [.int (S 1 (34 + x3).toNatClampNeg), .int (-1)]) (rest := []) hX E w (c_X5_whyNot l hX h13) (cwV 2 hts gX5_errand_X5_whyNot rfl rfl rfl hd_X5_whyNot ⟨Nat.le_of_ble_eq_true rfl, Nat.le_of_ble_eq_true rfl⟩) (ci := 5) rfl (cM_at_0 t a S) rfl hl.1 rfl (Nat.le_of_ble_eq_true rfl) dX5_errand_58 ⟨Nat.le_refl _, Nat.le_refl _⟩ (fun H locs w => ?_)
        refine lv_istore (lv' := [(5, .int r15), (4, .int (S 1 (34 + x3).toNatClampNeg)), (0, .ref (a 0)), (1, .int x1), (2, .int x2), (3, .int x3)]) hx hb dX5_errand_61 hl (by decide) rfl (fun ls hl => ?_)
        refine lv_iload hx hb dX5_errand_63 (lv_at hl 0 rfl) ?_
        refine lv_if_le (tgt := 78) hx hb dX5_errand_65 (by decide) (fun h16 => ?_) (fun h16 => ?_)
        · replace hf := it_t h16 hf
          refine lv_iconst (v := (-1)) hx hb dX5_errand_78 (by decide) ?_
          exact k_X5_errand_79 hX E (fun w hl hf => ih w hl hf) w (lv_sub hl [2, 3, 5, 1, 0] rfl) hf
        · replace hf := it_f h16 hf
          refine lv_bipush (v := 10) hx hb dX5_errand_68 (by decide) ?_
          refine lv_iload_n hx hb dX5_errand_70 rfl (lv_at hl 5 rfl) ?_
          refine lv_imul hx hb dX5_errand_71 ?_
          refine lv_iload hx hb dX5_errand_72 (lv_at hl 0 rfl) ?_
          refine lv_iadd hx hb dX5_errand_74 ?_
          refine lv_goto (tgt := 79) hx hb dX5_errand_75 (by decide) ?_
          exact k_X5_errand_79 hX E (fun w hl hf => ih w hl hf) w (lv_sub hl [2, 3, 5, 1, 0] rfl) hf
set_option maxHeartbeats 4000000 in
set_option maxRecDepth 100000 in
theorem k_X5_errand_E {p : Program} {l : Launch} {e : Env} {s : State} {m : MethodId} {args : Array Value} {below : List Frame} {meth : Method} {c : Code} {D : va_G} {t : Nat → ClassId} {a : Nat → Nat} {X : State → Prop} {N : Nat} {r : Int32} {S' : ST} (hX : XOk (aW 17 a) X) (E : EN p s m args meth c cX5_errand RX5 wsX5_errand (some .int) 6) {S : ST} {x1 : Int32} {H : Heap} {locs : List Loc} {ls : Array Slot} (w : Wd D (cM t a) (aW 17 a) (tyM t) X S s H locs) (hl : lv_has ls 6 [(0, .ref (a 0)), (1, .int x1)]) (hf : f_X5_errand N S x1 = some (r, S')) : W p l e rmX5_errand s m args below meth c H locs 0 0 (MQ below (Qi D (cM t a) (aW 17 a) (tyM t) r S') args s 0 0 (aW 17 a)) (F0 m 0 ls []) := by
  obtain ⟨⟨hx, hb, hml, hown, hts⟩, hr, hlk⟩ := id E
  unfold f_X5_errand at hf
  refine lv_iload_n hx hb dX5_errand_0 rfl (lv_at hl 1 rfl) ?_
  refine lv_i2l hx hb dX5_errand_1 rfl ?_
  refine lv_lconst (v := 0) hx hb dX5_errand_2 (by decide) ?_
  refine lv_ldc2 hx hb hown (hts _ ct_X5_errand_146) dX5_errand_3 ?_
  obtain ⟨r3, S2, h1, hf⟩ := bd2_o hf
  refine w_callSi (As := [.long ((x1 : Int32).toInt64), .long 0, .long 3]) (rest := []) hX E w (c_X5_in l hX h1) (va_cwS 3 hts gX5_errand_X5_in rfl rfl rfl hd_X5_in ⟨Nat.le_of_ble_eq_true rfl, Nat.le_of_ble_eq_true rfl⟩) rfl hl.1 rfl (Nat.le_of_ble_eq_true rfl) dX5_errand_6 ⟨Nat.le_refl _, Nat.le_refl _⟩ (fun H locs w => ?_)
  refine lv_if_ne (tgt := 19) hx hb dX5_errand_9 (by decide) (fun h4 => ?_) (fun h4 => ?_)
  · replace hf := it_f h4 hf
    refine lv_aload_n hx hb dX5_errand_19 rfl (lv_at hl 0 rfl) ?_
    obtain ⟨S6, h5, hf⟩ := bd1_o hf
    refine w_callVv (As := []) (rest := []) hX E w (c_X5_begin l hX h5) (cwV 0 hts gX5_errand_X5_begin rfl rfl rfl hd_X5_begin ⟨Nat.le_of_ble_eq_true rfl, Nat.le_of_ble_eq_true rfl⟩) (ci := 5) rfl (cM_at_0 t a S2) rfl hl.1 rfl (Nat.le_of_ble_eq_true rfl) dX5_errand_20 ⟨Nat.le_refl _, Nat.le_refl _⟩ (fun H locs w => ?_)
    refine lv_iconst (v := (-1)) hx hb dX5_errand_23 (by decide) ?_
    refine lv_istore_n (lv' := [(2, .int (-1)), (0, .ref (a 0)), (1, .int x1)]) hx hb dX5_errand_24 rfl hl (by decide) rfl (fun ls hl => ?_)
    refine lv_iconst (v := 0) hx hb dX5_errand_25 (by decide) ?_
    refine lv_istore_n (lv' := [(3, .int 0), (2, .int (-1)), (0, .ref (a 0)), (1, .int x1)]) hx hb dX5_errand_26 rfl hl (by decide) rfl (fun ls hl => ?_)
    exact k_X5_errand_27 hX E N w (lv_sub hl [2, 3, 1, 0] rfl) hf
  · replace hf := it_t h4 hf
    refine lv_aload_n hx hb dX5_errand_12 rfl (lv_at hl 0 rfl) ?_
    refine lv_bipush (v := (-2)) hx hb dX5_errand_13 (by decide) ?_
    obtain ⟨r9, S8, h7, hf⟩ := bd2_o hf
    refine w_callVi (As := [.int (-2)]) (rest := []) hX E w (c_X5_bad l hX h7) (cwV 1 hts gX5_errand_X5_bad rfl rfl rfl hd_X5_bad ⟨Nat.le_of_ble_eq_true rfl, Nat.le_of_ble_eq_true rfl⟩) (ci := 5) rfl (cM_at_0 t a S2) rfl hl.1 rfl (Nat.le_of_ble_eq_true rfl) dX5_errand_15 ⟨Nat.le_refl _, Nat.le_refl _⟩ (fun H locs w => ?_)
    exact w_reti E w hf dX5_errand_18
theorem c_X5_errand (l : Launch) {D : va_G} {t : Nat → ClassId} {a : Nat → Nat} {X : State → Prop} (hX : XOk (aW 17 a) X) {N : Nat} {S : ST} {x1 : Int32} {r : Int32} {S' : ST} (hf : f_X5_errand N S x1 = some (r, S')) : Co l yX5_errand wsX5_errand rmX5_errand D (cM t a) (aW 17 a) (tyM t) X [.ref (a 0), .int x1] S (Qi D (cM t a) (aW 17 a) (tyM t) r S') :=
  co_of (cc := cX5_errand) (maxL := 6) (ret := (some .int)) (lv := [(0, .ref (a 0)), (1, .int x1)]) (by decide) rfl rfl (Nat.le_of_ble_eq_true rfl) rfl rfl (fun p e s m below meth c ls E hl w => k_X5_errand_E hX E w hl hf)
-- X5_isWants
abbrev rmX5_isWants : Room := { frames := 1, cells := 0, slots := 0, locals := 25 }
set_option maxHeartbeats 4000000 in
set_option maxRecDepth 100000 in
theorem k_X5_isWants_E {p : Program} {l : Launch} {e : Env} {s : State} {m : MethodId} {args : Array Value} {below : List Frame} {meth : Method} {c : Code} {D : va_G} {t : Nat → ClassId} {a : Nat → Nat} {X : State → Prop} {N : Nat} {r : Int32} {S' : ST} (hX : XOk (aW 17 a) X) (E : EN p s m args meth c cX5_isWants RX5 wsX5_isWants (some .boolean) 2) {S : ST} {x1 : Int32} {H : Heap} {locs : List Loc} {ls : Array Slot} (w : Wd D (cM t a) (aW 17 a) (tyM t) X S s H locs) (hl : lv_has ls 2 [(0, .ref (a 0)), (1, .int x1)]) (hf : f_X5_isWants N S x1 = some (r, S')) : W p l e rmX5_isWants s m args below meth c H locs 0 0 (MQ below (Qi D (cM t a) (aW 17 a) (tyM t) r S') args s 0 0 (aW 17 a)) (F0 m 0 ls []) := by
  obtain ⟨⟨hx, hb, hml, hown, hts⟩, hr, hlk⟩ := id E
  unfold f_X5_isWants at hf
  refine lv_iload_n hx hb dX5_isWants_0 rfl (lv_at hl 1 rfl) ?_
  refine lv_i2l hx hb dX5_isWants_1 rfl ?_
  refine lv_lconst (v := 0) hx hb dX5_isWants_2 (by decide) ?_
  refine lv_iconst (v := 1) hx hb dX5_isWants_3 (by decide) ?_
  refine lv_aload_n hx hb dX5_isWants_4 rfl (lv_at hl 0 rfl) ?_
  obtain ⟨r3, S2, h1, hf⟩ := bd2_o hf
  refine w_callVi (As := []) (rest := [.int 1, .long 0, .long ((x1 : Int32).toInt64)]) hX E w (c_X5_shops l hX h1) (cwV 0 hts gX5_isWants_X5_shops rfl rfl rfl hd_X5_shops ⟨Nat.le_of_ble_eq_true rfl, Nat.le_of_ble_eq_true rfl⟩) (ci := 5) rfl (cM_at_0 t a S) rfl hl.1 rfl (Nat.le_of_ble_eq_true rfl) dX5_isWants_5 ⟨Nat.le_refl _, Nat.le_refl _⟩ (fun H locs w => ?_)
  refine lv_ishl hx hb dX5_isWants_8 ?_
  refine lv_iconst (v := 1) hx hb dX5_isWants_9 (by decide) ?_
  refine lv_isub hx hb dX5_isWants_10 ?_
  refine lv_i2l hx hb dX5_isWants_11 rfl ?_
  obtain ⟨r6, S5, h4, hf⟩ := bd2_o hf
  refine w_callSi (As := [.long ((x1 : Int32).toInt64), .long 0, .long ((((1 <<< (r3 &&& 31)) - 1) : Int32).toInt64)]) (rest := []) hX E w (c_X5_in l hX h4) (va_cwS 3 hts gX5_isWants_X5_in rfl rfl rfl hd_X5_in ⟨Nat.le_of_ble_eq_true rfl, Nat.le_of_ble_eq_true rfl⟩) rfl hl.1 rfl (Nat.le_of_ble_eq_true rfl) dX5_isWants_12 ⟨Nat.le_refl _, Nat.le_refl _⟩ (fun H locs w => ?_)
  obtain ⟨h7, hf⟩ := it_s hf
  exact w_retz E w h7 hf dX5_isWants_15
theorem c_X5_isWants (l : Launch) {D : va_G} {t : Nat → ClassId} {a : Nat → Nat} {X : State → Prop} (hX : XOk (aW 17 a) X) {N : Nat} {S : ST} {x1 : Int32} {r : Int32} {S' : ST} (hf : f_X5_isWants N S x1 = some (r, S')) : Co l yX5_isWants wsX5_isWants rmX5_isWants D (cM t a) (aW 17 a) (tyM t) X [.ref (a 0), .int x1] S (Qi D (cM t a) (aW 17 a) (tyM t) r S') :=
  co_of (cc := cX5_isWants) (maxL := 2) (ret := (some .boolean)) (lv := [(0, .ref (a 0)), (1, .int x1)]) (by decide) rfl rfl (Nat.le_of_ble_eq_true rfl) rfl rfl (fun p e s m below meth c ls E hl w => k_X5_isWants_E hX E w hl hf)
-- X5_keepState
theorem in_X5_keepState_X5 : ∀ w ∈ u_ws RX5 TX5 28, w ∈ wsX5_keepState := by decide +kernel
theorem fl_X5_keepState_44 : Cond.fieldLink RX5 44 "NextDoorModel" "pathHeld" "[I" ∈ wsX5_keepState := by decide +kernel
theorem fl_X5_keepState_128 : Cond.fieldLink RX5 128 "NextDoorModel" "held" "I" ∈ wsX5_keepState := by decide +kernel
theorem fl_X5_keepState_47 : Cond.fieldLink RX5 47 "NextDoorModel" "pathPaid" "[I" ∈ wsX5_keepState := by decide +kernel
theorem fl_X5_keepState_140 : Cond.fieldLink RX5 140 "NextDoorModel" "paid" "I" ∈ wsX5_keepState := by decide +kernel
theorem fl_X5_keepState_50 : Cond.fieldLink RX5 50 "NextDoorModel" "pathMinute" "[I" ∈ wsX5_keepState := by decide +kernel
theorem fl_X5_keepState_131 : Cond.fieldLink RX5 131 "NextDoorModel" "minute" "I" ∈ wsX5_keepState := by decide +kernel
theorem fl_X5_keepState_53 : Cond.fieldLink RX5 53 "NextDoorModel" "pathBeen" "[I" ∈ wsX5_keepState := by decide +kernel
theorem fl_X5_keepState_125 : Cond.fieldLink RX5 125 "NextDoorModel" "been" "I" ∈ wsX5_keepState := by decide +kernel
abbrev rmX5_keepState : Room := { frames := 0, cells := 0, slots := 0, locals := 0 }
set_option maxHeartbeats 4000000 in
set_option maxRecDepth 100000 in
theorem k_X5_keepState_E {p : Program} {l : Launch} {e : Env} {s : State} {m : MethodId} {args : Array Value} {below : List Frame} {meth : Method} {c : Code} {D : va_G} {t : Nat → ClassId} {a : Nat → Nat} {X : State → Prop} {N : Nat} {S' : ST} (hX : XOk (aW 17 a) X) (E : EN p s m args meth c cX5_keepState RX5 wsX5_keepState none 2) {S : ST} {x1 : Int32} {H : Heap} {locs : List Loc} {ls : Array Slot} (w : Wd D (cM t a) (aW 17 a) (tyM t) X S s H locs) (hl : lv_has ls 2 [(0, .ref (a 0)), (1, .int x1)]) (hf : f_X5_keepState N S x1 = some S') : W p l e rmX5_keepState s m args below meth c H locs 0 0 (MQ below (Qv D (cM t a) (aW 17 a) (tyM t) S') args s 0 0 (aW 17 a)) (F0 m 0 ls []) := by
  obtain ⟨⟨hx, hb, hml, hown, hts⟩, hr, hlk⟩ := id E
  unfold f_X5_keepState at hf
  refine lv_aload_n hx hb dX5_keepState_0 rfl (lv_at hl 0 rfl) ?_
  refine w_get E w in_X5_keepState_X5 0 (cM_at_0 t a S) rfl 22 (by decide) fl_X5_keepState_44 rfl rfl dX5_keepState_1 ?_
  refine lv_iload_n hx hb dX5_keepState_4 rfl (lv_at hl 1 rfl) ?_
  refine lv_aload_n hx hb dX5_keepState_5 rfl (lv_at hl 0 rfl) ?_
  refine w_get E w in_X5_keepState_X5 0 (cM_at_0 t a S) rfl 5 (by decide) fl_X5_keepState_128 rfl rfl dX5_keepState_6 ?_
  obtain ⟨h2, hf⟩ := it_n hf
  obtain ⟨S1, eS1, hf⟩ := nm_o hf
  refine w_ast (S1 := S1) E w 12 0 (cM_at_12 t a S) rfl h2 rfl ((cM_st_12 t a S x1.toNatClampNeg (S 0 5)).trans (congrArg (cM t a) eS1.symm)) dX5_keepState_9 (fun H locs w => ?_)
  refine lv_aload_n hx hb dX5_keepState_10 rfl (lv_at hl 0 rfl) ?_
  refine w_get E w in_X5_keepState_X5 0 (cM_at_0 t a S1) rfl 23 (by decide) fl_X5_keepState_47 rfl rfl dX5_keepState_11 ?_
  refine lv_iload_n hx hb dX5_keepState_14 rfl (lv_at hl 1 rfl) ?_
  refine lv_aload_n hx hb dX5_keepState_15 rfl (lv_at hl 0 rfl) ?_
  refine w_get E w in_X5_keepState_X5 0 (cM_at_0 t a S1) rfl 6 (by decide) fl_X5_keepState_140 rfl rfl dX5_keepState_16 ?_
  obtain ⟨h4, hf⟩ := it_n hf
  obtain ⟨S3, eS3, hf⟩ := nm_o hf
  refine w_ast (S1 := S3) E w 13 0 (cM_at_13 t a S1) rfl h4 rfl ((cM_st_13 t a S1 x1.toNatClampNeg (S1 0 6)).trans (congrArg (cM t a) eS3.symm)) dX5_keepState_19 (fun H locs w => ?_)
  refine lv_aload_n hx hb dX5_keepState_20 rfl (lv_at hl 0 rfl) ?_
  refine w_get E w in_X5_keepState_X5 0 (cM_at_0 t a S3) rfl 24 (by decide) fl_X5_keepState_50 rfl rfl dX5_keepState_21 ?_
  refine lv_iload_n hx hb dX5_keepState_24 rfl (lv_at hl 1 rfl) ?_
  refine lv_aload_n hx hb dX5_keepState_25 rfl (lv_at hl 0 rfl) ?_
  refine w_get E w in_X5_keepState_X5 0 (cM_at_0 t a S3) rfl 7 (by decide) fl_X5_keepState_131 rfl rfl dX5_keepState_26 ?_
  obtain ⟨h6, hf⟩ := it_n hf
  obtain ⟨S5, eS5, hf⟩ := nm_o hf
  refine w_ast (S1 := S5) E w 14 0 (cM_at_14 t a S3) rfl h6 rfl ((cM_st_14 t a S3 x1.toNatClampNeg (S3 0 7)).trans (congrArg (cM t a) eS5.symm)) dX5_keepState_29 (fun H locs w => ?_)
  refine lv_aload_n hx hb dX5_keepState_30 rfl (lv_at hl 0 rfl) ?_
  refine w_get E w in_X5_keepState_X5 0 (cM_at_0 t a S5) rfl 25 (by decide) fl_X5_keepState_53 rfl rfl dX5_keepState_31 ?_
  refine lv_iload_n hx hb dX5_keepState_34 rfl (lv_at hl 1 rfl) ?_
  refine lv_aload_n hx hb dX5_keepState_35 rfl (lv_at hl 0 rfl) ?_
  refine w_get E w in_X5_keepState_X5 0 (cM_at_0 t a S5) rfl 8 (by decide) fl_X5_keepState_125 rfl rfl dX5_keepState_36 ?_
  obtain ⟨h8, hf⟩ := it_n hf
  obtain ⟨S7, eS7, hf⟩ := nm_o hf
  refine w_ast (S1 := S7) E w 15 0 (cM_at_15 t a S5) rfl h8 rfl ((cM_st_15 t a S5 x1.toNatClampNeg (S5 0 8)).trans (congrArg (cM t a) eS7.symm)) dX5_keepState_39 (fun H locs w => ?_)
  exact w_retv E w hf dX5_keepState_40
theorem c_X5_keepState (l : Launch) {D : va_G} {t : Nat → ClassId} {a : Nat → Nat} {X : State → Prop} (hX : XOk (aW 17 a) X) {N : Nat} {S : ST} {x1 : Int32} {S' : ST} (hf : f_X5_keepState N S x1 = some S') : Co l yX5_keepState wsX5_keepState rmX5_keepState D (cM t a) (aW 17 a) (tyM t) X [.ref (a 0), .int x1] S (Qv D (cM t a) (aW 17 a) (tyM t) S') :=
  co_of (cc := cX5_keepState) (maxL := 2) (ret := none) (lv := [(0, .ref (a 0)), (1, .int x1)]) (by decide) rfl rfl (Nat.le_of_ble_eq_true rfl) rfl rfl (fun p e s m below meth c ls E hl w => k_X5_keepState_E hX E w hl hf)
-- X5_backTo
theorem in_X5_backTo_X5 : ∀ w ∈ u_ws RX5 TX5 28, w ∈ wsX5_backTo := by decide +kernel
theorem fl_X5_backTo_44 : Cond.fieldLink RX5 44 "NextDoorModel" "pathHeld" "[I" ∈ wsX5_backTo := by decide +kernel
theorem fl_X5_backTo_128 : Cond.fieldLink RX5 128 "NextDoorModel" "held" "I" ∈ wsX5_backTo := by decide +kernel
theorem fl_X5_backTo_47 : Cond.fieldLink RX5 47 "NextDoorModel" "pathPaid" "[I" ∈ wsX5_backTo := by decide +kernel
theorem fl_X5_backTo_140 : Cond.fieldLink RX5 140 "NextDoorModel" "paid" "I" ∈ wsX5_backTo := by decide +kernel
theorem fl_X5_backTo_50 : Cond.fieldLink RX5 50 "NextDoorModel" "pathMinute" "[I" ∈ wsX5_backTo := by decide +kernel
theorem fl_X5_backTo_131 : Cond.fieldLink RX5 131 "NextDoorModel" "minute" "I" ∈ wsX5_backTo := by decide +kernel
theorem fl_X5_backTo_53 : Cond.fieldLink RX5 53 "NextDoorModel" "pathBeen" "[I" ∈ wsX5_backTo := by decide +kernel
theorem fl_X5_backTo_125 : Cond.fieldLink RX5 125 "NextDoorModel" "been" "I" ∈ wsX5_backTo := by decide +kernel
theorem fl_X5_backTo_41 : Cond.fieldLink RX5 41 "NextDoorModel" "path" "[I" ∈ wsX5_backTo := by decide +kernel
theorem fl_X5_backTo_121 : Cond.fieldLink RX5 121 "NextDoorModel" "last" "I" ∈ wsX5_backTo := by decide +kernel
abbrev rmX5_backTo : Room := { frames := 0, cells := 0, slots := 0, locals := 0 }
set_option maxHeartbeats 4000000 in
set_option maxRecDepth 100000 in
theorem k_X5_backTo_57 {p : Program} {l : Launch} {e : Env} {s : State} {m : MethodId} {args : Array Value} {below : List Frame} {meth : Method} {c : Code} {D : va_G} {t : Nat → ClassId} {a : Nat → Nat} {X : State → Prop} {N : Nat} {S' : ST} (hX : XOk (aW 17 a) X) (E : EN p s m args meth c cX5_backTo RX5 wsX5_backTo none 2) {S : ST} {s1 : Int32} {H : Heap} {locs : List Loc} {ls : Array Slot} (w : Wd D (cM t a) (aW 17 a) (tyM t) X S s H locs) (hl : lv_has ls 2 []) (hf : b_X5_backTo_57 N S s1 = some S') : W p l e rmX5_backTo s m args below meth c H locs 0 0 (MQ below (Qv D (cM t a) (aW 17 a) (tyM t) S') args s 0 0 (aW 17 a)) (F0 m 57 ls [.int s1, .ref (a 0)]) := by
  obtain ⟨⟨hx, hb, hml, hown, hts⟩, hr, hlk⟩ := id E
  unfold b_X5_backTo_57 at hf
  obtain ⟨S11, eS11, hf⟩ := nm_o hf
  refine w_put (S1 := S11) E w in_X5_backTo_X5 tyX5 tyX5_ok nmX5 0 (cM_at_0 t a S) rfl 4 (by decide) fl_X5_backTo_121 rfl rfl rfl rfl rfl (Nat.le_of_ble_eq_true rfl) ((cM_set_0_4 t a S s1).trans (congrArg (cM t a) eS11.symm)) dX5_backTo_57 (fun H locs w => ?_)
  exact w_retv E w hf dX5_backTo_60
set_option maxHeartbeats 4000000 in
set_option maxRecDepth 100000 in
theorem k_X5_backTo_E {p : Program} {l : Launch} {e : Env} {s : State} {m : MethodId} {args : Array Value} {below : List Frame} {meth : Method} {c : Code} {D : va_G} {t : Nat → ClassId} {a : Nat → Nat} {X : State → Prop} {N : Nat} {S' : ST} (hX : XOk (aW 17 a) X) (E : EN p s m args meth c cX5_backTo RX5 wsX5_backTo none 2) {S : ST} {x1 : Int32} {H : Heap} {locs : List Loc} {ls : Array Slot} (w : Wd D (cM t a) (aW 17 a) (tyM t) X S s H locs) (hl : lv_has ls 2 [(0, .ref (a 0)), (1, .int x1)]) (hf : f_X5_backTo N S x1 = some S') : W p l e rmX5_backTo s m args below meth c H locs 0 0 (MQ below (Qv D (cM t a) (aW 17 a) (tyM t) S') args s 0 0 (aW 17 a)) (F0 m 0 ls []) := by
  obtain ⟨⟨hx, hb, hml, hown, hts⟩, hr, hlk⟩ := id E
  unfold f_X5_backTo at hf
  refine lv_aload_n hx hb dX5_backTo_0 rfl (lv_at hl 0 rfl) ?_
  refine lv_aload_n hx hb dX5_backTo_1 rfl (lv_at hl 0 rfl) ?_
  refine w_get E w in_X5_backTo_X5 0 (cM_at_0 t a S) rfl 22 (by decide) fl_X5_backTo_44 rfl rfl dX5_backTo_2 ?_
  refine lv_iload_n hx hb dX5_backTo_5 rfl (lv_at hl 1 rfl) ?_
  obtain ⟨h1, hf⟩ := it_n hf
  refine w_ald E w 12 0 (cM_at_12 t a S) rfl h1 rfl dX5_backTo_6 ?_
  obtain ⟨S2, eS2, hf⟩ := nm_o hf
  refine w_put (S1 := S2) E w in_X5_backTo_X5 tyX5 tyX5_ok nmX5 0 (cM_at_0 t a S) rfl 5 (by decide) fl_X5_backTo_128 rfl rfl rfl rfl rfl (Nat.le_of_ble_eq_true rfl) ((cM_set_0_5 t a S (S 12 x1.toNatClampNeg)).trans (congrArg (cM t a) eS2.symm)) dX5_backTo_7 (fun H locs w => ?_)
  refine lv_aload_n hx hb dX5_backTo_10 rfl (lv_at hl 0 rfl) ?_
  refine lv_aload_n hx hb dX5_backTo_11 rfl (lv_at hl 0 rfl) ?_
  refine w_get E w in_X5_backTo_X5 0 (cM_at_0 t a S2) rfl 23 (by decide) fl_X5_backTo_47 rfl rfl dX5_backTo_12 ?_
  refine lv_iload_n hx hb dX5_backTo_15 rfl (lv_at hl 1 rfl) ?_
  obtain ⟨h3, hf⟩ := it_n hf
  refine w_ald E w 13 0 (cM_at_13 t a S2) rfl h3 rfl dX5_backTo_16 ?_
  obtain ⟨S4, eS4, hf⟩ := nm_o hf
  refine w_put (S1 := S4) E w in_X5_backTo_X5 tyX5 tyX5_ok nmX5 0 (cM_at_0 t a S2) rfl 6 (by decide) fl_X5_backTo_140 rfl rfl rfl rfl rfl (Nat.le_of_ble_eq_true rfl) ((cM_set_0_6 t a S2 (S2 13 x1.toNatClampNeg)).trans (congrArg (cM t a) eS4.symm)) dX5_backTo_17 (fun H locs w => ?_)
  refine lv_aload_n hx hb dX5_backTo_20 rfl (lv_at hl 0 rfl) ?_
  refine lv_aload_n hx hb dX5_backTo_21 rfl (lv_at hl 0 rfl) ?_
  refine w_get E w in_X5_backTo_X5 0 (cM_at_0 t a S4) rfl 24 (by decide) fl_X5_backTo_50 rfl rfl dX5_backTo_22 ?_
  refine lv_iload_n hx hb dX5_backTo_25 rfl (lv_at hl 1 rfl) ?_
  obtain ⟨h5, hf⟩ := it_n hf
  refine w_ald E w 14 0 (cM_at_14 t a S4) rfl h5 rfl dX5_backTo_26 ?_
  obtain ⟨S6, eS6, hf⟩ := nm_o hf
  refine w_put (S1 := S6) E w in_X5_backTo_X5 tyX5 tyX5_ok nmX5 0 (cM_at_0 t a S4) rfl 7 (by decide) fl_X5_backTo_131 rfl rfl rfl rfl rfl (Nat.le_of_ble_eq_true rfl) ((cM_set_0_7 t a S4 (S4 14 x1.toNatClampNeg)).trans (congrArg (cM t a) eS6.symm)) dX5_backTo_27 (fun H locs w => ?_)
  refine lv_aload_n hx hb dX5_backTo_30 rfl (lv_at hl 0 rfl) ?_
  refine lv_aload_n hx hb dX5_backTo_31 rfl (lv_at hl 0 rfl) ?_
  refine w_get E w in_X5_backTo_X5 0 (cM_at_0 t a S6) rfl 25 (by decide) fl_X5_backTo_53 rfl rfl dX5_backTo_32 ?_
  refine lv_iload_n hx hb dX5_backTo_35 rfl (lv_at hl 1 rfl) ?_
  obtain ⟨h7, hf⟩ := it_n hf
  refine w_ald E w 15 0 (cM_at_15 t a S6) rfl h7 rfl dX5_backTo_36 ?_
  obtain ⟨S8, eS8, hf⟩ := nm_o hf
  refine w_put (S1 := S8) E w in_X5_backTo_X5 tyX5 tyX5_ok nmX5 0 (cM_at_0 t a S6) rfl 8 (by decide) fl_X5_backTo_125 rfl rfl rfl rfl rfl (Nat.le_of_ble_eq_true rfl) ((cM_set_0_8 t a S6 (S6 15 x1.toNatClampNeg)).trans (congrArg (cM t a) eS8.symm)) dX5_backTo_37 (fun H locs w => ?_)
  refine lv_aload_n hx hb dX5_backTo_40 rfl (lv_at hl 0 rfl) ?_
  refine lv_iload_n hx hb dX5_backTo_41 rfl (lv_at hl 1 rfl) ?_
  refine lv_if_ne (tgt := 49) hx hb dX5_backTo_42 (by decide) (fun h9 => ?_) (fun h9 => ?_)
  · replace hf := it_f h9 hf
    refine lv_aload_n hx hb dX5_backTo_49 rfl (lv_at hl 0 rfl) ?_
    refine w_get E w in_X5_backTo_X5 0 (cM_at_0 t a S8) rfl 21 (by decide) fl_X5_backTo_41 rfl rfl dX5_backTo_50 ?_
    refine lv_iload_n hx hb dX5_backTo_53 rfl (lv_at hl 1 rfl) ?_
    refine lv_iconst (v := 1) hx hb dX5_backTo_54 (by decide) ?_
    refine lv_isub hx hb dX5_backTo_55 ?_
    obtain ⟨h10, hf⟩ := it_n hf
    refine w_ald E w 11 0 (cM_at_11 t a S8) rfl h10 rfl dX5_backTo_56 ?_
    exact k_X5_backTo_57 hX E w (lv_sub hl [] rfl) hf
  · replace hf := it_t h9 hf
    refine lv_iconst (v := (-1)) hx hb dX5_backTo_45 (by decide) ?_
    refine lv_goto (tgt := 57) hx hb dX5_backTo_46 (by decide) ?_
    exact k_X5_backTo_57 hX E w (lv_sub hl [] rfl) hf
theorem c_X5_backTo (l : Launch) {D : va_G} {t : Nat → ClassId} {a : Nat → Nat} {X : State → Prop} (hX : XOk (aW 17 a) X) {N : Nat} {S : ST} {x1 : Int32} {S' : ST} (hf : f_X5_backTo N S x1 = some S') : Co l yX5_backTo wsX5_backTo rmX5_backTo D (cM t a) (aW 17 a) (tyM t) X [.ref (a 0), .int x1] S (Qv D (cM t a) (aW 17 a) (tyM t) S') :=
  co_of (cc := cX5_backTo) (maxL := 2) (ret := none) (lv := [(0, .ref (a 0)), (1, .int x1)]) (by decide) rfl rfl (Nat.le_of_ble_eq_true rfl) rfl rfl (fun p e s m below meth c ls E hl w => k_X5_backTo_E hX E w hl hf)
