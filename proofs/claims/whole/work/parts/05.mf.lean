-- X5_changes
theorem in_X5_changes_X5 : ∀ w ∈ u_ws RX5 TX5 28, w ∈ wsX5_changes := by decide +kernel
theorem fl_X5_changes_56 : Cond.fieldLink RX5 56 "NextDoorModel" "was" "[I" ∈ wsX5_changes := by decide +kernel
theorem hd_X5_changeAll : yX5_changeAll.cls = RX5 ∧ yX5_changeAll.cls ≠ "java/lang/invoke/MethodHandle" ∧ yX5_changeAll.cls ≠ "java/lang/invoke/VarHandle" ∧ (parseMethodDescriptor yX5_changeAll.desc).map (fun d => d.parameters.length) = some 0 := by decide +kernel
theorem fl_X5_changes_7 : Cond.fieldLink RX5 7 "NextDoorModel" "now" "[I" ∈ wsX5_changes := by decide +kernel
abbrev rmX5_changes : Room := { frames := 9, cells := 0, slots := 0, locals := 210 }
set_option maxHeartbeats 4000000 in
set_option maxRecDepth 100000 in
theorem k_X5_changes_93 {p : Program} {l : Launch} {e : Env} {s : State} {m : MethodId} {args : Array Value} {below : List Frame} {meth : Method} {c : Code} {D : va_G} {t : Nat → ClassId} {a : Nat → Nat} {X : State → Prop} {N : Nat} {r : Int32} {S' : ST} (hX : XOk (aW 17 a) X) (E : EN p s m args meth c cX5_changes RX5 wsX5_changes (some .int) 6) : ∀ (n : Nat) {S : ST} {x3 : Int32} {x4 : Int32} {x5 : Int32} {H : Heap} {locs : List Loc} {ls : Array Slot}, Wd D (cM t a) (aW 17 a) (tyM t) X S s H locs → lv_has ls 6 [(0, .ref (a 0)), (3, .int x3), (4, .int x4), (5, .int x5)] → b_X5_changes_93 N n S x3 x4 x5 = some (r, S') → W p l e rmX5_changes s m args below meth c H locs 0 0 (MQ below (Qi D (cM t a) (aW 17 a) (tyM t) r S') args s 0 0 (aW 17 a)) (F0 m 93 ls []) := by
  obtain ⟨⟨hx, hb, hml, hown, hts⟩, hr, hlk⟩ := id E
  intro n
  induction n with
  | zero => intro S x3 x4 x5 H locs ls w hl hf; cases hf
  | succ n ih =>
    intro S x3 x4 x5 H locs ls w hl hf
    unfold b_X5_changes_93 at hf
    refine lv_iload hx hb dX5_changes_93 (lv_at hl 3 rfl) ?_
    refine lv_aload_n hx hb dX5_changes_95 rfl (lv_at hl 0 rfl) ?_
    obtain ⟨r29, S28, h27, hf⟩ := bd2_o hf
    refine w_callVi (As := []) (rest := [.int x5]) hX E w (c_X5_shops l hX h27) (cwV 0 hts gX5_changes_X5_shops rfl rfl rfl hd_X5_shops ⟨Nat.le_of_ble_eq_true rfl, Nat.le_of_ble_eq_true rfl⟩) (ci := 5) rfl (cM_at_0 t a S) rfl hl.1 rfl (Nat.le_of_ble_eq_true rfl) dX5_changes_96 ⟨Nat.le_refl _, Nat.le_refl _⟩ (fun H locs w => ?_)
    refine lv_icmp_ge (tgt := 128) hx hb dX5_changes_99 (by decide) (fun h30 => ?_) (fun h30 => ?_)
    · replace hf := it_t h30 hf
      refine lv_iload_n hx hb dX5_changes_128 rfl (lv_at hl 1 rfl) ?_
      refine lv_if_eq (tgt := 136) hx hb dX5_changes_129 (by decide) (fun h31 => ?_) (fun h31 => ?_)
      · replace hf := it_t h31 hf
        refine lv_iload hx hb dX5_changes_136 (lv_at hl 2 rfl) ?_
        exact w_reti E w hf dX5_changes_138
      · replace hf := it_f h31 hf
        refine lv_iconst (v := (-1)) hx hb dX5_changes_132 (by decide) ?_
        refine lv_goto (tgt := 138) hx hb dX5_changes_133 (by decide) ?_
        exact w_reti E w hf dX5_changes_138
    · replace hf := it_f h30 hf
      refine lv_aload_n hx hb dX5_changes_102 rfl (lv_at hl 0 rfl) ?_
      refine w_get E w in_X5_changes_X5 0 (cM_at_0 t a S28) rfl 0 (by decide) fl_X5_changes_7 rfl rfl dX5_changes_103 ?_
      refine lv_iconst (v := 0) hx hb dX5_changes_106 (by decide) ?_
      refine lv_iconst (v := 4) hx hb dX5_changes_107 (by decide) ?_
      refine lv_iload hx hb dX5_changes_108 (lv_at hl 3 rfl) ?_
      refine lv_imul hx hb dX5_changes_110 ?_
      refine lv_iadd hx hb dX5_changes_111 ?_
      refine lv_iconst (v := 1) hx hb dX5_changes_112 (by decide) ?_
      refine lv_iadd hx hb dX5_changes_113 ?_
      refine lv_aload_n hx hb dX5_changes_114 rfl (lv_at hl 0 rfl) ?_
      refine w_get E w in_X5_changes_X5 0 (cM_at_0 t a S28) rfl 27 (by decide) fl_X5_changes_56 rfl rfl dX5_changes_115 ?_
      refine lv_iload hx hb dX5_changes_118 (lv_at hl 3 rfl) ?_
      obtain ⟨h32, hf⟩ := it_n hf
      refine w_ald E w 16 0 (cM_at_16 t a S28) rfl h32 rfl dX5_changes_120 ?_
      obtain ⟨h34, hf⟩ := it_n hf
      obtain ⟨S33, eS33, hf⟩ := nm_o hf
      refine w_ast (S1 := S33) E w 1 0 (cM_at_1 t a S28) rfl h34 rfl ((cM_st_1 t a S28 (((0 + (4 * x5)) + 1).toNatClampNeg) (S28 16 x5.toNatClampNeg)).trans (congrArg (cM t a) eS33.symm)) dX5_changes_121 (fun H locs w => ?_)
      refine lv_iinc (v := x5 + 1) (lv' := [(5, .int (x5 + 1)), (0, .ref (a 0)), (3, .int x3), (4, .int x4)]) hx hb dX5_changes_122 hl (k := 3) rfl rfl (by decide) rfl (fun ls hl => ?_)
      refine lv_goto (tgt := 93) hx hb dX5_changes_125 (by decide) ?_
      exact ih w (lv_sub hl [1, 2, 3, 0] rfl) hf
set_option maxHeartbeats 4000000 in
set_option maxRecDepth 100000 in
theorem k_X5_changes_88 {p : Program} {l : Launch} {e : Env} {s : State} {m : MethodId} {args : Array Value} {below : List Frame} {meth : Method} {c : Code} {D : va_G} {t : Nat → ClassId} {a : Nat → Nat} {X : State → Prop} {N : Nat} {r : Int32} {S' : ST} (hX : XOk (aW 17 a) X) (E : EN p s m args meth c cX5_changes RX5 wsX5_changes (some .int) 6) {S : ST} {x3 : Int32} {s0 : Int32} {H : Heap} {locs : List Loc} {ls : Array Slot} (w : Wd D (cM t a) (aW 17 a) (tyM t) X S s H locs) (hl : lv_has ls 6 [(0, .ref (a 0)), (3, .int x3)]) (hf : b_X5_changes_88 N S x3 s0 = some (r, S')) : W p l e rmX5_changes s m args below meth c H locs 0 0 (MQ below (Qi D (cM t a) (aW 17 a) (tyM t) r S') args s 0 0 (aW 17 a)) (F0 m 88 ls [.int s0]) := by
  obtain ⟨⟨hx, hb, hml, hown, hts⟩, hr, hlk⟩ := id E
  unfold b_X5_changes_88 at hf
  refine lv_istore (lv' := [(4, .int s0), (0, .ref (a 0)), (3, .int x3)]) hx hb dX5_changes_88 hl (by decide) rfl (fun ls hl => ?_)
  refine lv_iconst (v := 0) hx hb dX5_changes_90 (by decide) ?_
  refine lv_istore (lv' := [(5, .int 0), (4, .int s0), (0, .ref (a 0)), (3, .int x3)]) hx hb dX5_changes_91 hl (by decide) rfl (fun ls hl => ?_)
  exact k_X5_changes_93 hX E N w (lv_sub hl [2, 3, 1, 0] rfl) hf
set_option maxHeartbeats 4000000 in
set_option maxRecDepth 100000 in
theorem k_X5_changes_73 {p : Program} {l : Launch} {e : Env} {s : State} {m : MethodId} {args : Array Value} {below : List Frame} {meth : Method} {c : Code} {D : va_G} {t : Nat → ClassId} {a : Nat → Nat} {X : State → Prop} {N : Nat} {r : Int32} {S' : ST} (hX : XOk (aW 17 a) X) (E : EN p s m args meth c cX5_changes RX5 wsX5_changes (some .int) 6) {S : ST} {x1 : Int32} {x2 : Int32} {x3 : Int32} {H : Heap} {locs : List Loc} {ls : Array Slot} (w : Wd D (cM t a) (aW 17 a) (tyM t) X S s H locs) (hl : lv_has ls 6 [(0, .ref (a 0)), (1, .int x1), (2, .int x2), (3, .int x3)]) (hf : b_X5_changes_73 N S x1 x2 x3 = some (r, S')) : W p l e rmX5_changes s m args below meth c H locs 0 0 (MQ below (Qi D (cM t a) (aW 17 a) (tyM t) r S') args s 0 0 (aW 17 a)) (F0 m 73 ls []) := by
  obtain ⟨⟨hx, hb, hml, hown, hts⟩, hr, hlk⟩ := id E
  unfold b_X5_changes_73 at hf
  refine lv_iload_n hx hb dX5_changes_73 rfl (lv_at hl 1 rfl) ?_
  refine lv_iconst (v := (-1)) hx hb dX5_changes_74 (by decide) ?_
  refine lv_icmp_ne (tgt := 82) hx hb dX5_changes_75 (by decide) (fun h23 => ?_) (fun h23 => ?_)
  · replace hf := it_f h23 hf
    refine lv_aload_n hx hb dX5_changes_82 rfl (lv_at hl 0 rfl) ?_
    refine lv_iload_n hx hb dX5_changes_83 rfl (lv_at hl 1 rfl) ?_
    refine lv_iconst (v := 1) hx hb dX5_changes_84 (by decide) ?_
    obtain ⟨r26, S25, h24, hf⟩ := bd2_o hf
    refine w_callVi (As := [.int x1, .int 1]) (rest := []) hX E w (c_X5_of l hX h24) (cwV 2 hts gX5_changes_X5_of rfl rfl rfl hd_X5_of ⟨Nat.le_of_ble_eq_true rfl, Nat.le_of_ble_eq_true rfl⟩) (ci := 5) rfl (cM_at_0 t a S) rfl hl.1 rfl (Nat.le_of_ble_eq_true rfl) dX5_changes_85 ⟨Nat.le_refl _, Nat.le_refl _⟩ (fun H locs w => ?_)
    exact k_X5_changes_88 hX E w (lv_sub hl [0, 3] rfl) hf
  · replace hf := it_t h23 hf
    refine lv_iload_n hx hb dX5_changes_78 rfl (lv_at hl 2 rfl) ?_
    refine lv_goto (tgt := 88) hx hb dX5_changes_79 (by decide) ?_
    exact k_X5_changes_88 hX E w (lv_sub hl [0, 3] rfl) hf
set_option maxHeartbeats 4000000 in
set_option maxRecDepth 100000 in
theorem k_X5_changes_52 {p : Program} {l : Launch} {e : Env} {s : State} {m : MethodId} {args : Array Value} {below : List Frame} {meth : Method} {c : Code} {D : va_G} {t : Nat → ClassId} {a : Nat → Nat} {X : State → Prop} {N : Nat} {r : Int32} {S' : ST} (hX : XOk (aW 17 a) X) (E : EN p s m args meth c cX5_changes RX5 wsX5_changes (some .int) 6) : ∀ (n : Nat) {S : ST} {x1 : Int32} {x2 : Int32} {x3 : Int32} {H : Heap} {locs : List Loc} {ls : Array Slot}, Wd D (cM t a) (aW 17 a) (tyM t) X S s H locs → lv_has ls 6 [(0, .ref (a 0)), (1, .int x1), (2, .int x2), (3, .int x3)] → b_X5_changes_52 N n S x1 x2 x3 = some (r, S') → W p l e rmX5_changes s m args below meth c H locs 0 0 (MQ below (Qi D (cM t a) (aW 17 a) (tyM t) r S') args s 0 0 (aW 17 a)) (F0 m 52 ls []) := by
  obtain ⟨⟨hx, hb, hml, hown, hts⟩, hr, hlk⟩ := id E
  intro n
  induction n with
  | zero => intro S x1 x2 x3 H locs ls w hl hf; cases hf
  | succ n ih =>
    intro S x1 x2 x3 H locs ls w hl hf
    unfold b_X5_changes_52 at hf
    refine lv_iload_n hx hb dX5_changes_52 rfl (lv_at hl 3 rfl) ?_
    refine lv_if_eq (tgt := 73) hx hb dX5_changes_53 (by decide) (fun h18 => ?_) (fun h18 => ?_)
    · replace hf := it_t h18 hf
      exact k_X5_changes_73 hX E w (lv_sub hl [0, 1, 2, 3] rfl) hf
    · replace hf := it_f h18 hf
      refine lv_iload_n hx hb dX5_changes_56 rfl (lv_at hl 2 rfl) ?_
      refine lv_bipush (v := 8) hx hb dX5_changes_57 (by decide) ?_
      refine lv_icmp_ge (tgt := 73) hx hb dX5_changes_59 (by decide) (fun h19 => ?_) (fun h19 => ?_)
      · replace hf := it_t h19 hf
        exact k_X5_changes_73 hX E w (lv_sub hl [0, 1, 2, 3] rfl) hf
      · replace hf := it_f h19 hf
        refine lv_aload_n hx hb dX5_changes_62 rfl (lv_at hl 0 rfl) ?_
        obtain ⟨r22, S21, h20, hf⟩ := bd2_o hf
        refine w_callVi (As := []) (rest := []) hX E w (c_X5_changeAll l hX h20) (cwV 0 hts gX5_changes_X5_changeAll rfl rfl rfl hd_X5_changeAll ⟨Nat.le_of_ble_eq_true rfl, Nat.le_of_ble_eq_true rfl⟩) (ci := 5) rfl (cM_at_0 t a S) rfl hl.1 rfl (Nat.le_of_ble_eq_true rfl) dX5_changes_63 ⟨Nat.le_refl _, Nat.le_refl _⟩ (fun H locs w => ?_)
        refine lv_istore_n (lv' := [(3, .int r22), (0, .ref (a 0)), (1, .int x1), (2, .int x2)]) hx hb dX5_changes_66 rfl hl (by decide) rfl (fun ls hl => ?_)
        refine lv_iinc (v := x2 + 1) (lv' := [(2, .int (x2 + 1)), (3, .int r22), (0, .ref (a 0)), (1, .int x1)]) hx hb dX5_changes_67 hl (k := 3) rfl rfl (by decide) rfl (fun ls hl => ?_)
        refine lv_goto (tgt := 52) hx hb dX5_changes_70 (by decide) ?_
        exact ih w (lv_sub hl [2, 3, 0, 1] rfl) hf
set_option maxHeartbeats 4000000 in
set_option maxRecDepth 100000 in
theorem k_X5_changes_22 {p : Program} {l : Launch} {e : Env} {s : State} {m : MethodId} {args : Array Value} {below : List Frame} {meth : Method} {c : Code} {D : va_G} {t : Nat → ClassId} {a : Nat → Nat} {X : State → Prop} {N : Nat} {r : Int32} {S' : ST} (hX : XOk (aW 17 a) X) (E : EN p s m args meth c cX5_changes RX5 wsX5_changes (some .int) 6) : ∀ (n : Nat) {S : ST} {x1 : Int32} {x2 : Int32} {H : Heap} {locs : List Loc} {ls : Array Slot}, Wd D (cM t a) (aW 17 a) (tyM t) X S s H locs → lv_has ls 6 [(0, .ref (a 0)), (1, .int x1), (2, .int x2)] → b_X5_changes_22 N n S x1 x2 = some (r, S') → W p l e rmX5_changes s m args below meth c H locs 0 0 (MQ below (Qi D (cM t a) (aW 17 a) (tyM t) r S') args s 0 0 (aW 17 a)) (F0 m 22 ls []) := by
  obtain ⟨⟨hx, hb, hml, hown, hts⟩, hr, hlk⟩ := id E
  intro n
  induction n with
  | zero => intro S x1 x2 H locs ls w hl hf; cases hf
  | succ n ih =>
    intro S x1 x2 H locs ls w hl hf
    unfold b_X5_changes_22 at hf
    refine lv_iload_n hx hb dX5_changes_22 rfl (lv_at hl 2 rfl) ?_
    refine lv_aload_n hx hb dX5_changes_23 rfl (lv_at hl 0 rfl) ?_
    obtain ⟨r11, S10, h9, hf⟩ := bd2_o hf
    refine w_callVi (As := []) (rest := [.int x2]) hX E w (c_X5_shops l hX h9) (cwV 0 hts gX5_changes_X5_shops rfl rfl rfl hd_X5_shops ⟨Nat.le_of_ble_eq_true rfl, Nat.le_of_ble_eq_true rfl⟩) (ci := 5) rfl (cM_at_0 t a S) rfl hl.1 rfl (Nat.le_of_ble_eq_true rfl) dX5_changes_24 ⟨Nat.le_refl _, Nat.le_refl _⟩ (fun H locs w => ?_)
    refine lv_icmp_ge (tgt := 48) hx hb dX5_changes_27 (by decide) (fun h12 => ?_) (fun h12 => ?_)
    · replace hf := it_t h12 hf
      refine lv_iconst (v := 0) hx hb dX5_changes_48 (by decide) ?_
      refine lv_istore_n (lv' := [(2, .int 0), (0, .ref (a 0)), (1, .int x1)]) hx hb dX5_changes_49 rfl hl (by decide) rfl (fun ls hl => ?_)
      refine lv_iconst (v := 1) hx hb dX5_changes_50 (by decide) ?_
      refine lv_istore_n (lv' := [(3, .int 1), (2, .int 0), (0, .ref (a 0)), (1, .int x1)]) hx hb dX5_changes_51 rfl hl (by decide) rfl (fun ls hl => ?_)
      exact k_X5_changes_52 hX E N w (lv_sub hl [2, 3, 1, 0] rfl) hf
    · replace hf := it_f h12 hf
      refine lv_aload_n hx hb dX5_changes_30 rfl (lv_at hl 0 rfl) ?_
      refine w_get E w in_X5_changes_X5 0 (cM_at_0 t a S10) rfl 27 (by decide) fl_X5_changes_56 rfl rfl dX5_changes_31 ?_
      refine lv_iload_n hx hb dX5_changes_34 rfl (lv_at hl 2 rfl) ?_
      refine lv_aload_n hx hb dX5_changes_35 rfl (lv_at hl 0 rfl) ?_
      refine lv_iload_n hx hb dX5_changes_36 rfl (lv_at hl 2 rfl) ?_
      refine lv_iconst (v := 1) hx hb dX5_changes_37 (by decide) ?_
      obtain ⟨r15, S14, h13, hf⟩ := bd2_o hf
      refine w_callVi (As := [.int x2, .int 1]) (rest := [.int x2, .ref (a 16)]) hX E w (c_X5_of l hX h13) (cwV 2 hts gX5_changes_X5_of rfl rfl rfl hd_X5_of ⟨Nat.le_of_ble_eq_true rfl, Nat.le_of_ble_eq_true rfl⟩) (ci := 5) rfl (cM_at_0 t a S10) rfl hl.1 rfl (Nat.le_of_ble_eq_true rfl) dX5_changes_38 ⟨Nat.le_refl _, Nat.le_refl _⟩ (fun H locs w => ?_)
      obtain ⟨h17, hf⟩ := it_n hf
      obtain ⟨S16, eS16, hf⟩ := nm_o hf
      refine w_ast (S1 := S16) E w 16 0 (cM_at_16 t a S14) rfl h17 rfl ((cM_st_16 t a S14 x2.toNatClampNeg r15).trans (congrArg (cM t a) eS16.symm)) dX5_changes_41 (fun H locs w => ?_)
      refine lv_iinc (v := x2 + 1) (lv' := [(2, .int (x2 + 1)), (0, .ref (a 0)), (1, .int x1)]) hx hb dX5_changes_42 hl (k := 2) rfl rfl (by decide) rfl (fun ls hl => ?_)
      refine lv_goto (tgt := 22) hx hb dX5_changes_45 (by decide) ?_
      exact ih w (lv_sub hl [1, 2, 0] rfl) hf
set_option maxHeartbeats 4000000 in
set_option maxRecDepth 100000 in
theorem k_X5_changes_20 {p : Program} {l : Launch} {e : Env} {s : State} {m : MethodId} {args : Array Value} {below : List Frame} {meth : Method} {c : Code} {D : va_G} {t : Nat → ClassId} {a : Nat → Nat} {X : State → Prop} {N : Nat} {r : Int32} {S' : ST} (hX : XOk (aW 17 a) X) (E : EN p s m args meth c cX5_changes RX5 wsX5_changes (some .int) 6) {S : ST} {x1 : Int32} {H : Heap} {locs : List Loc} {ls : Array Slot} (w : Wd D (cM t a) (aW 17 a) (tyM t) X S s H locs) (hl : lv_has ls 6 [(0, .ref (a 0)), (1, .int x1)]) (hf : b_X5_changes_20 N S x1 = some (r, S')) : W p l e rmX5_changes s m args below meth c H locs 0 0 (MQ below (Qi D (cM t a) (aW 17 a) (tyM t) r S') args s 0 0 (aW 17 a)) (F0 m 20 ls []) := by
  obtain ⟨⟨hx, hb, hml, hown, hts⟩, hr, hlk⟩ := id E
  unfold b_X5_changes_20 at hf
  refine lv_iconst (v := 0) hx hb dX5_changes_20 (by decide) ?_
  refine lv_istore_n (lv' := [(2, .int 0), (0, .ref (a 0)), (1, .int x1)]) hx hb dX5_changes_21 rfl hl (by decide) rfl (fun ls hl => ?_)
  exact k_X5_changes_22 hX E N w (lv_sub hl [1, 2, 0] rfl) hf
set_option maxHeartbeats 4000000 in
set_option maxRecDepth 100000 in
theorem k_X5_changes_E {p : Program} {l : Launch} {e : Env} {s : State} {m : MethodId} {args : Array Value} {below : List Frame} {meth : Method} {c : Code} {D : va_G} {t : Nat → ClassId} {a : Nat → Nat} {X : State → Prop} {N : Nat} {r : Int32} {S' : ST} (hX : XOk (aW 17 a) X) (E : EN p s m args meth c cX5_changes RX5 wsX5_changes (some .int) 6) {S : ST} {x1 : Int32} {H : Heap} {locs : List Loc} {ls : Array Slot} (w : Wd D (cM t a) (aW 17 a) (tyM t) X S s H locs) (hl : lv_has ls 6 [(0, .ref (a 0)), (1, .int x1)]) (hf : f_X5_changes N S x1 = some (r, S')) : W p l e rmX5_changes s m args below meth c H locs 0 0 (MQ below (Qi D (cM t a) (aW 17 a) (tyM t) r S') args s 0 0 (aW 17 a)) (F0 m 0 ls []) := by
  obtain ⟨⟨hx, hb, hml, hown, hts⟩, hr, hlk⟩ := id E
  unfold f_X5_changes at hf
  refine lv_iload_n hx hb dX5_changes_0 rfl (lv_at hl 1 rfl) ?_
  refine lv_iconst (v := (-1)) hx hb dX5_changes_1 (by decide) ?_
  refine lv_icmp_eq (tgt := 20) hx hb dX5_changes_2 (by decide) (fun h1 => ?_) (fun h1 => ?_)
  · replace hf := it_t h1 hf
    exact k_X5_changes_20 hX E w (lv_sub hl [0, 1] rfl) hf
  · replace hf := it_f h1 hf
    refine lv_aload_n hx hb dX5_changes_5 rfl (lv_at hl 0 rfl) ?_
    refine lv_iload_n hx hb dX5_changes_6 rfl (lv_at hl 1 rfl) ?_
    obtain ⟨r4, S3, h2, hf⟩ := bd2_o hf
    refine w_callVi (As := [.int x1]) (rest := []) hX E w (c_X5_isShop l hX h2) (cwV 1 hts gX5_changes_X5_isShop rfl rfl rfl hd_X5_isShop ⟨Nat.le_of_ble_eq_true rfl, Nat.le_of_ble_eq_true rfl⟩) (ci := 5) rfl (cM_at_0 t a S) rfl hl.1 rfl (Nat.le_of_ble_eq_true rfl) dX5_changes_7 ⟨Nat.le_refl _, Nat.le_refl _⟩ (fun H locs w => ?_)
    refine lv_if_ne (tgt := 20) hx hb dX5_changes_10 (by decide) (fun h5 => ?_) (fun h5 => ?_)
    · replace hf := it_f h5 hf
      exact k_X5_changes_20 hX E w (lv_sub hl [0, 1] rfl) hf
    · replace hf := it_t h5 hf
      refine lv_aload_n hx hb dX5_changes_13 rfl (lv_at hl 0 rfl) ?_
      refine lv_bipush (v := (-2)) hx hb dX5_changes_14 (by decide) ?_
      obtain ⟨r8, S7, h6, hf⟩ := bd2_o hf
      refine w_callVi (As := [.int (-2)]) (rest := []) hX E w (c_X5_bad l hX h6) (cwV 1 hts gX5_changes_X5_bad rfl rfl rfl hd_X5_bad ⟨Nat.le_of_ble_eq_true rfl, Nat.le_of_ble_eq_true rfl⟩) (ci := 5) rfl (cM_at_0 t a S3) rfl hl.1 rfl (Nat.le_of_ble_eq_true rfl) dX5_changes_16 ⟨Nat.le_refl _, Nat.le_refl _⟩ (fun H locs w => ?_)
      exact w_reti E w hf dX5_changes_19
theorem c_X5_changes (l : Launch) {D : va_G} {t : Nat → ClassId} {a : Nat → Nat} {X : State → Prop} (hX : XOk (aW 17 a) X) {N : Nat} {S : ST} {x1 : Int32} {r : Int32} {S' : ST} (hf : f_X5_changes N S x1 = some (r, S')) : Co l yX5_changes wsX5_changes rmX5_changes D (cM t a) (aW 17 a) (tyM t) X [.ref (a 0), .int x1] S (Qi D (cM t a) (aW 17 a) (tyM t) r S') :=
  co_of (cc := cX5_changes) (maxL := 6) (ret := (some .int)) (lv := [(0, .ref (a 0)), (1, .int x1)]) (by decide) rfl rfl (Nat.le_of_ble_eq_true rfl) rfl rfl (fun p e s m below meth c ls E hl w => k_X5_changes_E hX E w hl hf)
-- X5_wanted
theorem in_X5_wanted_X5 : ∀ w ∈ u_ws RX5 TX5 28, w ∈ wsX5_wanted := by decide +kernel
theorem fl_X5_wanted_7 : Cond.fieldLink RX5 7 "NextDoorModel" "now" "[I" ∈ wsX5_wanted := by decide +kernel
theorem fl_X5_wanted_26 : Cond.fieldLink RX5 26 "NextDoorModel" "bestPaid" "[I" ∈ wsX5_wanted := by decide +kernel
theorem ct_X5_wanted_226 : Cond.constant RX5 226 1000000 ∈ wsX5_wanted := by decide +kernel
theorem fl_X5_wanted_29 : Cond.fieldLink RX5 29 "NextDoorModel" "bestMany" "[I" ∈ wsX5_wanted := by decide +kernel
theorem fl_X5_wanted_35 : Cond.fieldLink RX5 35 "NextDoorModel" "bestRow" "[I" ∈ wsX5_wanted := by decide +kernel
abbrev rmX5_wanted : Room := { frames := 6, cells := 0, slots := 0, locals := 135 }
set_option maxHeartbeats 4000000 in
set_option maxRecDepth 100000 in
theorem k_X5_wanted_133 {p : Program} {l : Launch} {e : Env} {s : State} {m : MethodId} {args : Array Value} {below : List Frame} {meth : Method} {c : Code} {D : va_G} {t : Nat → ClassId} {a : Nat → Nat} {X : State → Prop} {N : Nat} {r : Int32} {S' : ST} (hX : XOk (aW 17 a) X) (E : EN p s m args meth c cX5_wanted RX5 wsX5_wanted (some .int) 5) {k71 : ST → Int32 → Int32 → Int32 → Int32 → Option (Int32 × ST)} (hk71 : ∀ {S : ST} {x1 : Int32} {x2 : Int32} {x3 : Int32} {x4 : Int32} {H : Heap} {locs : List Loc} {ls : Array Slot}, Wd D (cM t a) (aW 17 a) (tyM t) X S s H locs → lv_has ls 5 [(0, .ref (a 0)), (1, .int x1), (2, .int x2), (3, .int x3), (4, .int x4)] → k71 S x1 x2 x3 x4 = some (r, S') → W p l e rmX5_wanted s m args below meth c H locs 0 0 (MQ below (Qi D (cM t a) (aW 17 a) (tyM t) r S') args s 0 0 (aW 17 a)) (F0 m 71 ls [])) {S : ST} {x1 : Int32} {x2 : Int32} {x3 : Int32} {x4 : Int32} {H : Heap} {locs : List Loc} {ls : Array Slot} (w : Wd D (cM t a) (aW 17 a) (tyM t) X S s H locs) (hl : lv_has ls 5 [(0, .ref (a 0)), (1, .int x1), (2, .int x2), (3, .int x3), (4, .int x4)]) (hf : b_X5_wanted_133 N k71 S x1 x2 x3 x4 = some (r, S')) : W p l e rmX5_wanted s m args below meth c H locs 0 0 (MQ below (Qi D (cM t a) (aW 17 a) (tyM t) r S') args s 0 0 (aW 17 a)) (F0 m 133 ls []) := by
  obtain ⟨⟨hx, hb, hml, hown, hts⟩, hr, hlk⟩ := id E
  unfold b_X5_wanted_133 at hf
  refine lv_iinc (v := x4 + 1) (lv' := [(4, .int (x4 + 1)), (0, .ref (a 0)), (1, .int x1), (2, .int x2), (3, .int x3)]) hx hb dX5_wanted_133 hl (k := 4) rfl rfl (by decide) rfl (fun ls hl => ?_)
  refine lv_goto (tgt := 71) hx hb dX5_wanted_136 (by decide) ?_
  exact hk71 w (lv_sub hl [1, 2, 3, 4, 0] rfl) hf
set_option maxHeartbeats 4000000 in
set_option maxRecDepth 100000 in
theorem k_X5_wanted_71 {p : Program} {l : Launch} {e : Env} {s : State} {m : MethodId} {args : Array Value} {below : List Frame} {meth : Method} {c : Code} {D : va_G} {t : Nat → ClassId} {a : Nat → Nat} {X : State → Prop} {N : Nat} {r : Int32} {S' : ST} (hX : XOk (aW 17 a) X) (E : EN p s m args meth c cX5_wanted RX5 wsX5_wanted (some .int) 5) : ∀ (n : Nat) {S : ST} {x1 : Int32} {x2 : Int32} {x3 : Int32} {x4 : Int32} {H : Heap} {locs : List Loc} {ls : Array Slot}, Wd D (cM t a) (aW 17 a) (tyM t) X S s H locs → lv_has ls 5 [(0, .ref (a 0)), (1, .int x1), (2, .int x2), (3, .int x3), (4, .int x4)] → b_X5_wanted_71 N n S x1 x2 x3 x4 = some (r, S') → W p l e rmX5_wanted s m args below meth c H locs 0 0 (MQ below (Qi D (cM t a) (aW 17 a) (tyM t) r S') args s 0 0 (aW 17 a)) (F0 m 71 ls []) := by
  obtain ⟨⟨hx, hb, hml, hown, hts⟩, hr, hlk⟩ := id E
  intro n
  induction n with
  | zero => intro S x1 x2 x3 x4 H locs ls w hl hf; cases hf
  | succ n ih =>
    intro S x1 x2 x3 x4 H locs ls w hl hf
    unfold b_X5_wanted_71 at hf
    refine lv_iload hx hb dX5_wanted_71 (lv_at hl 4 rfl) ?_
    refine lv_iconst (v := 1) hx hb dX5_wanted_73 (by decide) ?_
    refine lv_aload_n hx hb dX5_wanted_74 rfl (lv_at hl 0 rfl) ?_
    obtain ⟨r12, S11, h10, hf⟩ := bd2_o hf
    refine w_callVi (As := []) (rest := [.int 1, .int x4]) hX E w (c_X5_shops l hX h10) (cwV 0 hts gX5_wanted_X5_shops rfl rfl rfl hd_X5_shops ⟨Nat.le_of_ble_eq_true rfl, Nat.le_of_ble_eq_true rfl⟩) (ci := 5) rfl (cM_at_0 t a S) rfl hl.1 rfl (Nat.le_of_ble_eq_true rfl) dX5_wanted_75 ⟨Nat.le_refl _, Nat.le_refl _⟩ (fun H locs w => ?_)
    refine lv_ishl hx hb dX5_wanted_78 ?_
    refine lv_icmp_ge (tgt := 139) hx hb dX5_wanted_79 (by decide) (fun h13 => ?_) (fun h13 => ?_)
    · replace hf := it_t h13 hf
      refine lv_iload_n hx hb dX5_wanted_139 rfl (lv_at hl 1 rfl) ?_
      refine lv_iconst (v := (-1)) hx hb dX5_wanted_140 (by decide) ?_
      refine lv_icmp_ne (tgt := 148) hx hb dX5_wanted_141 (by decide) (fun h14 => ?_) (fun h14 => ?_)
      · replace hf := it_f h14 hf
        refine lv_bipush (v := (-5)) hx hb dX5_wanted_148 (by decide) ?_
        exact w_reti E w hf dX5_wanted_150
      · replace hf := it_t h14 hf
        refine lv_iload_n hx hb dX5_wanted_144 rfl (lv_at hl 3 rfl) ?_
        refine lv_goto (tgt := 150) hx hb dX5_wanted_145 (by decide) ?_
        exact w_reti E w hf dX5_wanted_150
    · replace hf := it_f h13 hf
      refine lv_aload_n hx hb dX5_wanted_82 rfl (lv_at hl 0 rfl) ?_
      refine w_get E w in_X5_wanted_X5 0 (cM_at_0 t a S11) rfl 16 (by decide) fl_X5_wanted_26 rfl rfl dX5_wanted_83 ?_
      refine lv_iload hx hb dX5_wanted_86 (lv_at hl 4 rfl) ?_
      obtain ⟨h15, hf⟩ := it_n hf
      refine w_ald E w 6 0 (cM_at_6 t a S11) rfl h15 rfl dX5_wanted_88 ?_
      refine lv_ldc hx hb hown (hts _ ct_X5_wanted_226) dX5_wanted_89 ?_
      refine lv_icmp_ge (tgt := 133) hx hb dX5_wanted_91 (by decide) (fun h16 => ?_) (fun h16 => ?_)
      · replace hf := it_t h16 hf
        exact k_X5_wanted_133 hX E (fun w hl hf => ih w hl hf) w (lv_sub hl [0, 1, 2, 3, 4] rfl) hf
      · replace hf := it_f h16 hf
        refine lv_aload_n hx hb dX5_wanted_94 rfl (lv_at hl 0 rfl) ?_
        refine w_get E w in_X5_wanted_X5 0 (cM_at_0 t a S11) rfl 17 (by decide) fl_X5_wanted_29 rfl rfl dX5_wanted_95 ?_
        refine lv_iload hx hb dX5_wanted_98 (lv_at hl 4 rfl) ?_
        obtain ⟨h17, hf⟩ := it_n hf
        refine w_ald E w 7 0 (cM_at_7 t a S11) rfl h17 rfl dX5_wanted_100 ?_
        refine lv_aload_n hx hb dX5_wanted_101 rfl (lv_at hl 0 rfl) ?_
        refine w_get E w in_X5_wanted_X5 0 (cM_at_0 t a S11) rfl 0 (by decide) fl_X5_wanted_7 rfl rfl dX5_wanted_102 ?_
        refine lv_bipush (v := 33) hx hb dX5_wanted_105 (by decide) ?_
        refine w_ald E w 1 0 (cM_at_1 t a S11) rfl (by decide) (congrArg (S11 1) ix_33) dX5_wanted_107 ?_
        refine lv_icmp_ne (tgt := 133) hx hb dX5_wanted_108 (by decide) (fun h18 => ?_) (fun h18 => ?_)
        · replace hf := it_f h18 hf
          exact k_X5_wanted_133 hX E (fun w hl hf => ih w hl hf) w (lv_sub hl [0, 1, 2, 3, 4] rfl) hf
        · replace hf := it_t h18 hf
          refine lv_aload_n hx hb dX5_wanted_111 rfl (lv_at hl 0 rfl) ?_
          refine w_get E w in_X5_wanted_X5 0 (cM_at_0 t a S11) rfl 19 (by decide) fl_X5_wanted_35 rfl rfl dX5_wanted_112 ?_
          refine lv_iload hx hb dX5_wanted_115 (lv_at hl 4 rfl) ?_
          obtain ⟨h19, hf⟩ := it_n hf
          refine w_ald E w 9 0 (cM_at_9 t a S11) rfl h19 rfl dX5_wanted_117 ?_
          refine lv_iload_n hx hb dX5_wanted_118 rfl (lv_at hl 2 rfl) ?_
          refine lv_icmp_ne (tgt := 133) hx hb dX5_wanted_119 (by decide) (fun h20 => ?_) (fun h20 => ?_)
          · replace hf := it_f h20 hf
            exact k_X5_wanted_133 hX E (fun w hl hf => ih w hl hf) w (lv_sub hl [0, 1, 2, 3, 4] rfl) hf
          · replace hf := it_t h20 hf
            refine lv_iload_n hx hb dX5_wanted_122 rfl (lv_at hl 3 rfl) ?_
            refine lv_iload_n hx hb dX5_wanted_123 rfl (lv_at hl 1 rfl) ?_
            refine lv_icmp_ne (tgt := 130) hx hb dX5_wanted_124 (by decide) (fun h21 => ?_) (fun h21 => ?_)
            · replace hf := it_f h21 hf
              refine lv_iinc (v := x3 + 1) (lv' := [(3, .int (x3 + 1)), (0, .ref (a 0)), (1, .int x1), (2, .int x2), (4, .int x4)]) hx hb dX5_wanted_130 hl (k := 3) rfl rfl (by decide) rfl (fun ls hl => ?_)
              exact k_X5_wanted_133 hX E (fun w hl hf => ih w hl hf) w (lv_sub hl [1, 2, 3, 0, 4] rfl) hf
            · replace hf := it_t h21 hf
              refine lv_iload hx hb dX5_wanted_127 (lv_at hl 4 rfl) ?_
              exact w_reti E w hf dX5_wanted_129
set_option maxHeartbeats 4000000 in
set_option maxRecDepth 100000 in
theorem k_X5_wanted_66 {p : Program} {l : Launch} {e : Env} {s : State} {m : MethodId} {args : Array Value} {below : List Frame} {meth : Method} {c : Code} {D : va_G} {t : Nat → ClassId} {a : Nat → Nat} {X : State → Prop} {N : Nat} {r : Int32} {S' : ST} (hX : XOk (aW 17 a) X) (E : EN p s m args meth c cX5_wanted RX5 wsX5_wanted (some .int) 5) {S : ST} {x1 : Int32} {x2 : Int32} {H : Heap} {locs : List Loc} {ls : Array Slot} (w : Wd D (cM t a) (aW 17 a) (tyM t) X S s H locs) (hl : lv_has ls 5 [(0, .ref (a 0)), (1, .int x1), (2, .int x2)]) (hf : b_X5_wanted_66 N S x1 x2 = some (r, S')) : W p l e rmX5_wanted s m args below meth c H locs 0 0 (MQ below (Qi D (cM t a) (aW 17 a) (tyM t) r S') args s 0 0 (aW 17 a)) (F0 m 66 ls []) := by
  obtain ⟨⟨hx, hb, hml, hown, hts⟩, hr, hlk⟩ := id E
  unfold b_X5_wanted_66 at hf
  refine lv_iconst (v := 0) hx hb dX5_wanted_66 (by decide) ?_
  refine lv_istore_n (lv' := [(3, .int 0), (0, .ref (a 0)), (1, .int x1), (2, .int x2)]) hx hb dX5_wanted_67 rfl hl (by decide) rfl (fun ls hl => ?_)
  refine lv_iconst (v := 0) hx hb dX5_wanted_68 (by decide) ?_
  refine lv_istore (lv' := [(4, .int 0), (3, .int 0), (0, .ref (a 0)), (1, .int x1), (2, .int x2)]) hx hb dX5_wanted_69 hl (by decide) rfl (fun ls hl => ?_)
  exact k_X5_wanted_71 hX E N w (lv_sub hl [2, 3, 4, 1, 0] rfl) hf
set_option maxHeartbeats 4000000 in
set_option maxRecDepth 100000 in
theorem k_X5_wanted_29 {p : Program} {l : Launch} {e : Env} {s : State} {m : MethodId} {args : Array Value} {below : List Frame} {meth : Method} {c : Code} {D : va_G} {t : Nat → ClassId} {a : Nat → Nat} {X : State → Prop} {N : Nat} {r : Int32} {S' : ST} (hX : XOk (aW 17 a) X) (E : EN p s m args meth c cX5_wanted RX5 wsX5_wanted (some .int) 5) : ∀ (n : Nat) {S : ST} {x1 : Int32} {x2 : Int32} {x3 : Int32} {H : Heap} {locs : List Loc} {ls : Array Slot}, Wd D (cM t a) (aW 17 a) (tyM t) X S s H locs → lv_has ls 5 [(0, .ref (a 0)), (1, .int x1), (2, .int x2), (3, .int x3)] → b_X5_wanted_29 N n S x1 x2 x3 = some (r, S') → W p l e rmX5_wanted s m args below meth c H locs 0 0 (MQ below (Qi D (cM t a) (aW 17 a) (tyM t) r S') args s 0 0 (aW 17 a)) (F0 m 29 ls []) := by
  obtain ⟨⟨hx, hb, hml, hown, hts⟩, hr, hlk⟩ := id E
  intro n
  induction n with
  | zero => intro S x1 x2 x3 H locs ls w hl hf; cases hf
  | succ n ih =>
    intro S x1 x2 x3 H locs ls w hl hf
    unfold b_X5_wanted_29 at hf
    refine lv_iload_n hx hb dX5_wanted_29 rfl (lv_at hl 3 rfl) ?_
    refine lv_if_lt (tgt := 66) hx hb dX5_wanted_30 (by decide) (fun h7 => ?_) (fun h7 => ?_)
    · replace hf := it_t h7 hf
      exact k_X5_wanted_66 hX E w (lv_sub hl [0, 1, 2] rfl) hf
    · replace hf := it_f h7 hf
      refine lv_aload_n hx hb dX5_wanted_33 rfl (lv_at hl 0 rfl) ?_
      refine w_get E w in_X5_wanted_X5 0 (cM_at_0 t a S) rfl 0 (by decide) fl_X5_wanted_7 rfl rfl dX5_wanted_34 ?_
      refine lv_bipush (v := 33) hx hb dX5_wanted_37 (by decide) ?_
      refine w_ald E w 1 0 (cM_at_1 t a S) rfl (by decide) (congrArg (S 1) ix_33) dX5_wanted_39 ?_
      refine lv_bipush (v := 7) hx hb dX5_wanted_40 (by decide) ?_
      refine lv_icmp_ge (tgt := 66) hx hb dX5_wanted_42 (by decide) (fun h8 => ?_) (fun h8 => ?_)
      · replace hf := it_t h8 hf
        exact k_X5_wanted_66 hX E w (lv_sub hl [0, 1, 2] rfl) hf
      · replace hf := it_f h8 hf
        refine lv_bipush (v := 8) hx hb dX5_wanted_45 (by decide) ?_
        refine lv_iload_n hx hb dX5_wanted_47 rfl (lv_at hl 2 rfl) ?_
        refine lv_imul hx hb dX5_wanted_48 ?_
        refine lv_aload_n hx hb dX5_wanted_49 rfl (lv_at hl 0 rfl) ?_
        refine w_get E w in_X5_wanted_X5 0 (cM_at_0 t a S) rfl 0 (by decide) fl_X5_wanted_7 rfl rfl dX5_wanted_50 ?_
        refine lv_bipush (v := 34) hx hb dX5_wanted_53 (by decide) ?_
        refine lv_iload_n hx hb dX5_wanted_55 rfl (lv_at hl 3 rfl) ?_
        refine lv_iadd hx hb dX5_wanted_56 ?_
        obtain ⟨h9, hf⟩ := it_n hf
        refine w_ald E w 1 0 (cM_at_1 t a S) rfl h9 rfl dX5_wanted_57 ?_
        refine lv_iadd hx hb dX5_wanted_58 ?_
        refine lv_istore_n (lv' := [(2, .int ((8 * x2) + (S 1 (34 + x3).toNatClampNeg))), (0, .ref (a 0)), (1, .int x1), (3, .int x3)]) hx hb dX5_wanted_59 rfl hl (by decide) rfl (fun ls hl => ?_)
        refine lv_iinc (v := x3 + (-1)) (lv' := [(3, .int (x3 + (-1))), (2, .int ((8 * x2) + (S 1 (34 + x3).toNatClampNeg))), (0, .ref (a 0)), (1, .int x1)]) hx hb dX5_wanted_60 hl (k := 3) rfl rfl (by decide) rfl (fun ls hl => ?_)
        refine lv_goto (tgt := 29) hx hb dX5_wanted_63 (by decide) ?_
        exact ih w (lv_sub hl [2, 3, 1, 0] rfl) hf
set_option maxHeartbeats 4000000 in
set_option maxRecDepth 100000 in
theorem k_X5_wanted_E {p : Program} {l : Launch} {e : Env} {s : State} {m : MethodId} {args : Array Value} {below : List Frame} {meth : Method} {c : Code} {D : va_G} {t : Nat → ClassId} {a : Nat → Nat} {X : State → Prop} {N : Nat} {r : Int32} {S' : ST} (hX : XOk (aW 17 a) X) (E : EN p s m args meth c cX5_wanted RX5 wsX5_wanted (some .int) 5) {S : ST} {x1 : Int32} {H : Heap} {locs : List Loc} {ls : Array Slot} (w : Wd D (cM t a) (aW 17 a) (tyM t) X S s H locs) (hl : lv_has ls 5 [(0, .ref (a 0)), (1, .int x1)]) (hf : f_X5_wanted N S x1 = some (r, S')) : W p l e rmX5_wanted s m args below meth c H locs 0 0 (MQ below (Qi D (cM t a) (aW 17 a) (tyM t) r S') args s 0 0 (aW 17 a)) (F0 m 0 ls []) := by
  obtain ⟨⟨hx, hb, hml, hown, hts⟩, hr, hlk⟩ := id E
  unfold f_X5_wanted at hf
  refine lv_iload_n hx hb dX5_wanted_0 rfl (lv_at hl 1 rfl) ?_
  refine lv_iconst (v := (-1)) hx hb dX5_wanted_1 (by decide) ?_
  refine lv_icmp_ge (tgt := 12) hx hb dX5_wanted_2 (by decide) (fun h1 => ?_) (fun h1 => ?_)
  · replace hf := it_t h1 hf
    refine lv_aload_n hx hb dX5_wanted_12 rfl (lv_at hl 0 rfl) ?_
    refine lv_iconst (v := (-1)) hx hb dX5_wanted_13 (by decide) ?_
    obtain ⟨S3, h2, hf⟩ := bd1_o hf
    refine w_callVv (As := [.int (-1)]) (rest := []) hX E w (c_X5_goAll l hX h2) (cwV 1 hts gX5_wanted_X5_goAll rfl rfl rfl hd_X5_goAll ⟨Nat.le_of_ble_eq_true rfl, Nat.le_of_ble_eq_true rfl⟩) (ci := 5) rfl (cM_at_0 t a S) rfl hl.1 rfl (Nat.le_of_ble_eq_true rfl) dX5_wanted_14 ⟨Nat.le_refl _, Nat.le_refl _⟩ (fun H locs w => ?_)
    refine lv_iconst (v := 0) hx hb dX5_wanted_17 (by decide) ?_
    refine lv_istore_n (lv' := [(2, .int 0), (0, .ref (a 0)), (1, .int x1)]) hx hb dX5_wanted_18 rfl hl (by decide) rfl (fun ls hl => ?_)
    refine lv_aload_n hx hb dX5_wanted_19 rfl (lv_at hl 1 rfl) ?_
    refine w_get E w in_X5_wanted_X5 0 (cM_at_0 t a S3) rfl 0 (by decide) fl_X5_wanted_7 rfl rfl dX5_wanted_20 ?_
    refine lv_bipush (v := 33) hx hb dX5_wanted_23 (by decide) ?_
    refine w_ald E w 1 0 (cM_at_1 t a S3) rfl (by decide) (congrArg (S3 1) ix_33) dX5_wanted_25 ?_
    refine lv_iconst (v := 1) hx hb dX5_wanted_26 (by decide) ?_
    refine lv_isub hx hb dX5_wanted_27 ?_
    refine lv_istore_n (lv' := [(3, .int ((S3 1 33) - 1)), (2, .int 0), (0, .ref (a 0)), (1, .int x1)]) hx hb dX5_wanted_28 rfl hl (by decide) rfl (fun ls hl => ?_)
    exact k_X5_wanted_29 hX E N w (lv_sub hl [2, 3, 1, 0] rfl) hf
  · replace hf := it_f h1 hf
    refine lv_aload_n hx hb dX5_wanted_5 rfl (lv_at hl 0 rfl) ?_
    refine lv_bipush (v := (-10)) hx hb dX5_wanted_6 (by decide) ?_
    obtain ⟨r6, S5, h4, hf⟩ := bd2_o hf
    refine w_callVi (As := [.int (-10)]) (rest := []) hX E w (c_X5_bad l hX h4) (cwV 1 hts gX5_wanted_X5_bad rfl rfl rfl hd_X5_bad ⟨Nat.le_of_ble_eq_true rfl, Nat.le_of_ble_eq_true rfl⟩) (ci := 5) rfl (cM_at_0 t a S) rfl hl.1 rfl (Nat.le_of_ble_eq_true rfl) dX5_wanted_8 ⟨Nat.le_refl _, Nat.le_refl _⟩ (fun H locs w => ?_)
    exact w_reti E w hf dX5_wanted_11
theorem c_X5_wanted (l : Launch) {D : va_G} {t : Nat → ClassId} {a : Nat → Nat} {X : State → Prop} (hX : XOk (aW 17 a) X) {N : Nat} {S : ST} {x1 : Int32} {r : Int32} {S' : ST} (hf : f_X5_wanted N S x1 = some (r, S')) : Co l yX5_wanted wsX5_wanted rmX5_wanted D (cM t a) (aW 17 a) (tyM t) X [.ref (a 0), .int x1] S (Qi D (cM t a) (aW 17 a) (tyM t) r S') :=
  co_of (cc := cX5_wanted) (maxL := 5) (ret := (some .int)) (lv := [(0, .ref (a 0)), (1, .int x1)]) (by decide) rfl rfl (Nat.le_of_ble_eq_true rfl) rfl rfl (fun p e s m below meth c ls E hl w => k_X5_wanted_E hX E w hl hf)
-- X5_image
theorem in_X5_image_X5 : ∀ w ∈ u_ws RX5 TX5 28, w ∈ wsX5_image := by decide +kernel
theorem fl_X5_image_16 : Cond.fieldLink RX5 16 "NextDoorModel" "isKept" "[Z" ∈ wsX5_image := by decide +kernel
theorem fl_X5_image_13 : Cond.fieldLink RX5 13 "NextDoorModel" "kept" "[I" ∈ wsX5_image := by decide +kernel
theorem fl_X5_image_7 : Cond.fieldLink RX5 7 "NextDoorModel" "now" "[I" ∈ wsX5_image := by decide +kernel
abbrev rmX5_image : Room := { frames := 1, cells := 0, slots := 0, locals := 25 }
set_option maxHeartbeats 4000000 in
set_option maxRecDepth 100000 in
theorem k_X5_image_19 {p : Program} {l : Launch} {e : Env} {s : State} {m : MethodId} {args : Array Value} {below : List Frame} {meth : Method} {c : Code} {D : va_G} {t : Nat → ClassId} {a : Nat → Nat} {X : State → Prop} {N : Nat} {r : Int32} {S' : ST} (hX : XOk (aW 17 a) X) (E : EN p s m args meth c cX5_image RX5 wsX5_image (some .int) 3) : ∀ (n : Nat) {S : ST} {x1 : Int32} {x2 : Int32} {H : Heap} {locs : List Loc} {ls : Array Slot}, Wd D (cM t a) (aW 17 a) (tyM t) X S s H locs → lv_has ls 3 [(0, .ref (a 0)), (1, .int x1), (2, .int x2)] → b_X5_image_19 N n S x1 x2 = some (r, S') → W p l e rmX5_image s m args below meth c H locs 0 0 (MQ below (Qi D (cM t a) (aW 17 a) (tyM t) r S') args s 0 0 (aW 17 a)) (F0 m 19 ls []) := by
  obtain ⟨⟨hx, hb, hml, hown, hts⟩, hr, hlk⟩ := id E
  intro n
  induction n with
  | zero => intro S x1 x2 H locs ls w hl hf; cases hf
  | succ n ih =>
    intro S x1 x2 H locs ls w hl hf
    unfold b_X5_image_19 at hf
    refine lv_iload_n hx hb dX5_image_19 rfl (lv_at hl 2 rfl) ?_
    refine lv_sipush (v := 261) hx hb dX5_image_20 (by decide) ?_
    refine lv_icmp_ge (tgt := 50) hx hb dX5_image_23 (by decide) (fun h8 => ?_) (fun h8 => ?_)
    · replace hf := it_t h8 hf
      refine lv_aload_n hx hb dX5_image_50 rfl (lv_at hl 0 rfl) ?_
      refine w_get E w in_X5_image_X5 0 (cM_at_0 t a S) rfl 2 (by decide) fl_X5_image_16 rfl rfl dX5_image_51 ?_
      refine lv_iload_n hx hb dX5_image_54 rfl (lv_at hl 1 rfl) ?_
      refine lv_iconst (v := 1) hx hb dX5_image_55 (by decide) ?_
      obtain ⟨h10, hf⟩ := it_n hf
      obtain ⟨S9, eS9, hf⟩ := nm_o hf
      refine w_zast (S1 := S9) E w 3 1 (cM_at_3 t a S) rfl h10 rfl (by decide) ((cM_st_3 t a S x1.toNatClampNeg 1).trans (congrArg (cM t a) eS9.symm)) dX5_image_56 (fun H locs w => ?_)
      refine lv_iconst (v := 1) hx hb dX5_image_57 (by decide) ?_
      exact w_reti E w hf dX5_image_58
    · replace hf := it_f h8 hf
      refine lv_aload_n hx hb dX5_image_26 rfl (lv_at hl 0 rfl) ?_
      refine w_get E w in_X5_image_X5 0 (cM_at_0 t a S) rfl 1 (by decide) fl_X5_image_13 rfl rfl dX5_image_27 ?_
      refine lv_sipush (v := 261) hx hb dX5_image_30 (by decide) ?_
      refine lv_iload_n hx hb dX5_image_33 rfl (lv_at hl 1 rfl) ?_
      refine lv_imul hx hb dX5_image_34 ?_
      refine lv_iload_n hx hb dX5_image_35 rfl (lv_at hl 2 rfl) ?_
      refine lv_iadd hx hb dX5_image_36 ?_
      refine lv_aload_n hx hb dX5_image_37 rfl (lv_at hl 0 rfl) ?_
      refine w_get E w in_X5_image_X5 0 (cM_at_0 t a S) rfl 0 (by decide) fl_X5_image_7 rfl rfl dX5_image_38 ?_
      refine lv_iload_n hx hb dX5_image_41 rfl (lv_at hl 2 rfl) ?_
      obtain ⟨h11, hf⟩ := it_n hf
      refine w_ald E w 1 0 (cM_at_1 t a S) rfl h11 rfl dX5_image_42 ?_
      obtain ⟨h13, hf⟩ := it_n hf
      obtain ⟨S12, eS12, hf⟩ := nm_o hf
      refine w_ast (S1 := S12) E w 2 0 (cM_at_2 t a S) rfl h13 rfl ((cM_st_2 t a S (((261 * x1) + x2).toNatClampNeg) (S 1 x2.toNatClampNeg)).trans (congrArg (cM t a) eS12.symm)) dX5_image_43 (fun H locs w => ?_)
      refine lv_iinc (v := x2 + 1) (lv' := [(2, .int (x2 + 1)), (0, .ref (a 0)), (1, .int x1)]) hx hb dX5_image_44 hl (k := 2) rfl rfl (by decide) rfl (fun ls hl => ?_)
      refine lv_goto (tgt := 19) hx hb dX5_image_47 (by decide) ?_
      exact ih w (lv_sub hl [1, 2, 0] rfl) hf
set_option maxHeartbeats 4000000 in
set_option maxRecDepth 100000 in
theorem k_X5_image_E {p : Program} {l : Launch} {e : Env} {s : State} {m : MethodId} {args : Array Value} {below : List Frame} {meth : Method} {c : Code} {D : va_G} {t : Nat → ClassId} {a : Nat → Nat} {X : State → Prop} {N : Nat} {r : Int32} {S' : ST} (hX : XOk (aW 17 a) X) (E : EN p s m args meth c cX5_image RX5 wsX5_image (some .int) 3) {S : ST} {x1 : Int32} {H : Heap} {locs : List Loc} {ls : Array Slot} (w : Wd D (cM t a) (aW 17 a) (tyM t) X S s H locs) (hl : lv_has ls 3 [(0, .ref (a 0)), (1, .int x1)]) (hf : f_X5_image N S x1 = some (r, S')) : W p l e rmX5_image s m args below meth c H locs 0 0 (MQ below (Qi D (cM t a) (aW 17 a) (tyM t) r S') args s 0 0 (aW 17 a)) (F0 m 0 ls []) := by
  obtain ⟨⟨hx, hb, hml, hown, hts⟩, hr, hlk⟩ := id E
  unfold f_X5_image at hf
  refine lv_iload_n hx hb dX5_image_0 rfl (lv_at hl 1 rfl) ?_
  refine lv_i2l hx hb dX5_image_1 rfl ?_
  refine lv_lconst (v := 0) hx hb dX5_image_2 (by decide) ?_
  refine lv_lconst (v := 1) hx hb dX5_image_3 (by decide) ?_
  obtain ⟨r3, S2, h1, hf⟩ := bd2_o hf
  refine w_callSi (As := [.long ((x1 : Int32).toInt64), .long 0, .long 1]) (rest := []) hX E w (c_X5_in l hX h1) (va_cwS 3 hts gX5_image_X5_in rfl rfl rfl hd_X5_in ⟨Nat.le_of_ble_eq_true rfl, Nat.le_of_ble_eq_true rfl⟩) rfl hl.1 rfl (Nat.le_of_ble_eq_true rfl) dX5_image_4 ⟨Nat.le_refl _, Nat.le_refl _⟩ (fun H locs w => ?_)
  refine lv_if_ne (tgt := 17) hx hb dX5_image_7 (by decide) (fun h4 => ?_) (fun h4 => ?_)
  · replace hf := it_f h4 hf
    refine lv_iconst (v := 0) hx hb dX5_image_17 (by decide) ?_
    refine lv_istore_n (lv' := [(2, .int 0), (0, .ref (a 0)), (1, .int x1)]) hx hb dX5_image_18 rfl hl (by decide) rfl (fun ls hl => ?_)
    exact k_X5_image_19 hX E N w (lv_sub hl [1, 2, 0] rfl) hf
  · replace hf := it_t h4 hf
    refine lv_aload_n hx hb dX5_image_10 rfl (lv_at hl 0 rfl) ?_
    refine lv_bipush (v := (-2)) hx hb dX5_image_11 (by decide) ?_
    obtain ⟨r7, S6, h5, hf⟩ := bd2_o hf
    refine w_callVi (As := [.int (-2)]) (rest := []) hX E w (c_X5_bad l hX h5) (cwV 1 hts gX5_image_X5_bad rfl rfl rfl hd_X5_bad ⟨Nat.le_of_ble_eq_true rfl, Nat.le_of_ble_eq_true rfl⟩) (ci := 5) rfl (cM_at_0 t a S2) rfl hl.1 rfl (Nat.le_of_ble_eq_true rfl) dX5_image_13 ⟨Nat.le_refl _, Nat.le_refl _⟩ (fun H locs w => ?_)
    exact w_reti E w hf dX5_image_16
theorem c_X5_image (l : Launch) {D : va_G} {t : Nat → ClassId} {a : Nat → Nat} {X : State → Prop} (hX : XOk (aW 17 a) X) {N : Nat} {S : ST} {x1 : Int32} {r : Int32} {S' : ST} (hf : f_X5_image N S x1 = some (r, S')) : Co l yX5_image wsX5_image rmX5_image D (cM t a) (aW 17 a) (tyM t) X [.ref (a 0), .int x1] S (Qi D (cM t a) (aW 17 a) (tyM t) r S') :=
  co_of (cc := cX5_image) (maxL := 3) (ret := (some .int)) (lv := [(0, .ref (a 0)), (1, .int x1)]) (by decide) rfl rfl (Nat.le_of_ble_eq_true rfl) rfl rfl (fun p e s m below meth c ls E hl w => k_X5_image_E hX E w hl hf)
-- X5_from
theorem in_X5_from_X5 : ∀ w ∈ u_ws RX5 TX5 28, w ∈ wsX5_from := by decide +kernel
theorem fl_X5_from_16 : Cond.fieldLink RX5 16 "NextDoorModel" "isKept" "[Z" ∈ wsX5_from := by decide +kernel
theorem fl_X5_from_7 : Cond.fieldLink RX5 7 "NextDoorModel" "now" "[I" ∈ wsX5_from := by decide +kernel
theorem fl_X5_from_13 : Cond.fieldLink RX5 13 "NextDoorModel" "kept" "[I" ∈ wsX5_from := by decide +kernel
abbrev rmX5_from : Room := { frames := 1, cells := 0, slots := 0, locals := 25 }
set_option maxHeartbeats 4000000 in
set_option maxRecDepth 100000 in
theorem k_X5_from_35 {p : Program} {l : Launch} {e : Env} {s : State} {m : MethodId} {args : Array Value} {below : List Frame} {meth : Method} {c : Code} {D : va_G} {t : Nat → ClassId} {a : Nat → Nat} {X : State → Prop} {N : Nat} {r : Int32} {S' : ST} (hX : XOk (aW 17 a) X) (E : EN p s m args meth c cX5_from RX5 wsX5_from (some .int) 3) : ∀ (n : Nat) {S : ST} {x1 : Int32} {x2 : Int32} {H : Heap} {locs : List Loc} {ls : Array Slot}, Wd D (cM t a) (aW 17 a) (tyM t) X S s H locs → lv_has ls 3 [(0, .ref (a 0)), (1, .int x1), (2, .int x2)] → b_X5_from_35 N n S x1 x2 = some (r, S') → W p l e rmX5_from s m args below meth c H locs 0 0 (MQ below (Qi D (cM t a) (aW 17 a) (tyM t) r S') args s 0 0 (aW 17 a)) (F0 m 35 ls []) := by
  obtain ⟨⟨hx, hb, hml, hown, hts⟩, hr, hlk⟩ := id E
  intro n
  induction n with
  | zero => intro S x1 x2 H locs ls w hl hf; cases hf
  | succ n ih =>
    intro S x1 x2 H locs ls w hl hf
    unfold b_X5_from_35 at hf
    refine lv_iload_n hx hb dX5_from_35 rfl (lv_at hl 2 rfl) ?_
    refine lv_sipush (v := 261) hx hb dX5_from_36 (by decide) ?_
    refine lv_icmp_ge (tgt := 66) hx hb dX5_from_39 (by decide) (fun h13 => ?_) (fun h13 => ?_)
    · replace hf := it_t h13 hf
      refine lv_iconst (v := 1) hx hb dX5_from_66 (by decide) ?_
      exact w_reti E w hf dX5_from_67
    · replace hf := it_f h13 hf
      refine lv_aload_n hx hb dX5_from_42 rfl (lv_at hl 0 rfl) ?_
      refine w_get E w in_X5_from_X5 0 (cM_at_0 t a S) rfl 0 (by decide) fl_X5_from_7 rfl rfl dX5_from_43 ?_
      refine lv_iload_n hx hb dX5_from_46 rfl (lv_at hl 2 rfl) ?_
      refine lv_aload_n hx hb dX5_from_47 rfl (lv_at hl 0 rfl) ?_
      refine w_get E w in_X5_from_X5 0 (cM_at_0 t a S) rfl 1 (by decide) fl_X5_from_13 rfl rfl dX5_from_48 ?_
      refine lv_sipush (v := 261) hx hb dX5_from_51 (by decide) ?_
      refine lv_iload_n hx hb dX5_from_54 rfl (lv_at hl 1 rfl) ?_
      refine lv_imul hx hb dX5_from_55 ?_
      refine lv_iload_n hx hb dX5_from_56 rfl (lv_at hl 2 rfl) ?_
      refine lv_iadd hx hb dX5_from_57 ?_
      obtain ⟨h14, hf⟩ := it_n hf
      refine w_ald E w 2 0 (cM_at_2 t a S) rfl h14 rfl dX5_from_58 ?_
      obtain ⟨h16, hf⟩ := it_n hf
      obtain ⟨S15, eS15, hf⟩ := nm_o hf
      refine w_ast (S1 := S15) E w 1 0 (cM_at_1 t a S) rfl h16 rfl ((cM_st_1 t a S x2.toNatClampNeg (S 2 ((261 * x1) + x2).toNatClampNeg)).trans (congrArg (cM t a) eS15.symm)) dX5_from_59 (fun H locs w => ?_)
      refine lv_iinc (v := x2 + 1) (lv' := [(2, .int (x2 + 1)), (0, .ref (a 0)), (1, .int x1)]) hx hb dX5_from_60 hl (k := 2) rfl rfl (by decide) rfl (fun ls hl => ?_)
      refine lv_goto (tgt := 35) hx hb dX5_from_63 (by decide) ?_
      exact ih w (lv_sub hl [1, 2, 0] rfl) hf
set_option maxHeartbeats 4000000 in
set_option maxRecDepth 100000 in
theorem k_X5_from_E {p : Program} {l : Launch} {e : Env} {s : State} {m : MethodId} {args : Array Value} {below : List Frame} {meth : Method} {c : Code} {D : va_G} {t : Nat → ClassId} {a : Nat → Nat} {X : State → Prop} {N : Nat} {r : Int32} {S' : ST} (hX : XOk (aW 17 a) X) (E : EN p s m args meth c cX5_from RX5 wsX5_from (some .int) 3) {S : ST} {x1 : Int32} {H : Heap} {locs : List Loc} {ls : Array Slot} (w : Wd D (cM t a) (aW 17 a) (tyM t) X S s H locs) (hl : lv_has ls 3 [(0, .ref (a 0)), (1, .int x1)]) (hf : f_X5_from N S x1 = some (r, S')) : W p l e rmX5_from s m args below meth c H locs 0 0 (MQ below (Qi D (cM t a) (aW 17 a) (tyM t) r S') args s 0 0 (aW 17 a)) (F0 m 0 ls []) := by
  obtain ⟨⟨hx, hb, hml, hown, hts⟩, hr, hlk⟩ := id E
  unfold f_X5_from at hf
  refine lv_iload_n hx hb dX5_from_0 rfl (lv_at hl 1 rfl) ?_
  refine lv_i2l hx hb dX5_from_1 rfl ?_
  refine lv_lconst (v := 0) hx hb dX5_from_2 (by decide) ?_
  refine lv_lconst (v := 1) hx hb dX5_from_3 (by decide) ?_
  obtain ⟨r3, S2, h1, hf⟩ := bd2_o hf
  refine w_callSi (As := [.long ((x1 : Int32).toInt64), .long 0, .long 1]) (rest := []) hX E w (c_X5_in l hX h1) (va_cwS 3 hts gX5_from_X5_in rfl rfl rfl hd_X5_in ⟨Nat.le_of_ble_eq_true rfl, Nat.le_of_ble_eq_true rfl⟩) rfl hl.1 rfl (Nat.le_of_ble_eq_true rfl) dX5_from_4 ⟨Nat.le_refl _, Nat.le_refl _⟩ (fun H locs w => ?_)
  refine lv_if_ne (tgt := 17) hx hb dX5_from_7 (by decide) (fun h4 => ?_) (fun h4 => ?_)
  · replace hf := it_f h4 hf
    refine lv_aload_n hx hb dX5_from_17 rfl (lv_at hl 0 rfl) ?_
    refine w_get E w in_X5_from_X5 0 (cM_at_0 t a S2) rfl 2 (by decide) fl_X5_from_16 rfl rfl dX5_from_18 ?_
    refine lv_iload_n hx hb dX5_from_21 rfl (lv_at hl 1 rfl) ?_
    obtain ⟨h5, hf⟩ := it_n hf
    refine w_zald E w 3 1 (cM_at_3 t a S2) rfl h5 rfl dX5_from_22 ?_
    refine lv_if_ne (tgt := 33) hx hb dX5_from_23 (by decide) (fun h6 => ?_) (fun h6 => ?_)
    · replace hf := it_f h6 hf
      refine lv_iconst (v := 0) hx hb dX5_from_33 (by decide) ?_
      refine lv_istore_n (lv' := [(2, .int 0), (0, .ref (a 0)), (1, .int x1)]) hx hb dX5_from_34 rfl hl (by decide) rfl (fun ls hl => ?_)
      exact k_X5_from_35 hX E N w (lv_sub hl [1, 2, 0] rfl) hf
    · replace hf := it_t h6 hf
      refine lv_aload_n hx hb dX5_from_26 rfl (lv_at hl 0 rfl) ?_
      refine lv_bipush (v := (-3)) hx hb dX5_from_27 (by decide) ?_
      obtain ⟨r9, S8, h7, hf⟩ := bd2_o hf
      refine w_callVi (As := [.int (-3)]) (rest := []) hX E w (c_X5_no l hX h7) (cwV 1 hts gX5_from_X5_no rfl rfl rfl hd_X5_no ⟨Nat.le_of_ble_eq_true rfl, Nat.le_of_ble_eq_true rfl⟩) (ci := 5) rfl (cM_at_0 t a S2) rfl hl.1 rfl (Nat.le_of_ble_eq_true rfl) dX5_from_29 ⟨Nat.le_refl _, Nat.le_refl _⟩ (fun H locs w => ?_)
      exact w_reti E w hf dX5_from_32
  · replace hf := it_t h4 hf
    refine lv_aload_n hx hb dX5_from_10 rfl (lv_at hl 0 rfl) ?_
    refine lv_bipush (v := (-2)) hx hb dX5_from_11 (by decide) ?_
    obtain ⟨r12, S11, h10, hf⟩ := bd2_o hf
    refine w_callVi (As := [.int (-2)]) (rest := []) hX E w (c_X5_bad l hX h10) (cwV 1 hts gX5_from_X5_bad rfl rfl rfl hd_X5_bad ⟨Nat.le_of_ble_eq_true rfl, Nat.le_of_ble_eq_true rfl⟩) (ci := 5) rfl (cM_at_0 t a S2) rfl hl.1 rfl (Nat.le_of_ble_eq_true rfl) dX5_from_13 ⟨Nat.le_refl _, Nat.le_refl _⟩ (fun H locs w => ?_)
    exact w_reti E w hf dX5_from_16
theorem c_X5_from (l : Launch) {D : va_G} {t : Nat → ClassId} {a : Nat → Nat} {X : State → Prop} (hX : XOk (aW 17 a) X) {N : Nat} {S : ST} {x1 : Int32} {r : Int32} {S' : ST} (hf : f_X5_from N S x1 = some (r, S')) : Co l yX5_from wsX5_from rmX5_from D (cM t a) (aW 17 a) (tyM t) X [.ref (a 0), .int x1] S (Qi D (cM t a) (aW 17 a) (tyM t) r S') :=
  co_of (cc := cX5_from) (maxL := 3) (ret := (some .int)) (lv := [(0, .ref (a 0)), (1, .int x1)]) (by decide) rfl rfl (Nat.le_of_ble_eq_true rfl) rfl rfl (fun p e s m below meth c ls E hl w => k_X5_from_E hX E w hl hf)
-- X5_status
theorem ct_X5_status_239 : Cond.constantLong RX5 239 2 ∈ wsX5_status := by decide +kernel
theorem in_X5_status_X5 : ∀ w ∈ u_ws RX5 TX5 28, w ∈ wsX5_status := by decide +kernel
theorem fl_X5_status_20 : Cond.fieldLink RX5 20 "NextDoorModel" "refused" "[I" ∈ wsX5_status := by decide +kernel
abbrev rmX5_status : Room := { frames := 1, cells := 0, slots := 0, locals := 25 }
set_option maxHeartbeats 4000000 in
set_option maxRecDepth 100000 in
theorem k_X5_status_E {p : Program} {l : Launch} {e : Env} {s : State} {m : MethodId} {args : Array Value} {below : List Frame} {meth : Method} {c : Code} {D : va_G} {t : Nat → ClassId} {a : Nat → Nat} {X : State → Prop} {N : Nat} {r : Int32} {S' : ST} (hX : XOk (aW 17 a) X) (E : EN p s m args meth c cX5_status RX5 wsX5_status (some .int) 2) {S : ST} {x1 : Int32} {H : Heap} {locs : List Loc} {ls : Array Slot} (w : Wd D (cM t a) (aW 17 a) (tyM t) X S s H locs) (hl : lv_has ls 2 [(0, .ref (a 0)), (1, .int x1)]) (hf : f_X5_status N S x1 = some (r, S')) : W p l e rmX5_status s m args below meth c H locs 0 0 (MQ below (Qi D (cM t a) (aW 17 a) (tyM t) r S') args s 0 0 (aW 17 a)) (F0 m 0 ls []) := by
  obtain ⟨⟨hx, hb, hml, hown, hts⟩, hr, hlk⟩ := id E
  unfold f_X5_status at hf
  refine lv_iload_n hx hb dX5_status_0 rfl (lv_at hl 1 rfl) ?_
  refine lv_i2l hx hb dX5_status_1 rfl ?_
  refine lv_lconst (v := 0) hx hb dX5_status_2 (by decide) ?_
  refine lv_ldc2 hx hb hown (hts _ ct_X5_status_239) dX5_status_3 ?_
  obtain ⟨r3, S2, h1, hf⟩ := bd2_o hf
  refine w_callSi (As := [.long ((x1 : Int32).toInt64), .long 0, .long 2]) (rest := []) hX E w (c_X5_in l hX h1) (va_cwS 3 hts gX5_status_X5_in rfl rfl rfl hd_X5_in ⟨Nat.le_of_ble_eq_true rfl, Nat.le_of_ble_eq_true rfl⟩) rfl hl.1 rfl (Nat.le_of_ble_eq_true rfl) dX5_status_6 ⟨Nat.le_refl _, Nat.le_refl _⟩ (fun H locs w => ?_)
  refine lv_if_eq (tgt := 21) hx hb dX5_status_9 (by decide) (fun h4 => ?_) (fun h4 => ?_)
  · replace hf := it_t h4 hf
    refine lv_aload_n hx hb dX5_status_21 rfl (lv_at hl 0 rfl) ?_
    refine lv_iconst (v := (-1)) hx hb dX5_status_22 (by decide) ?_
    obtain ⟨r7, S6, h5, hf⟩ := bd2_o hf
    refine w_callVi (As := [.int (-1)]) (rest := []) hX E w (c_X5_bad l hX h5) (cwV 1 hts gX5_status_X5_bad rfl rfl rfl hd_X5_bad ⟨Nat.le_of_ble_eq_true rfl, Nat.le_of_ble_eq_true rfl⟩) (ci := 5) rfl (cM_at_0 t a S2) rfl hl.1 rfl (Nat.le_of_ble_eq_true rfl) dX5_status_23 ⟨Nat.le_refl _, Nat.le_refl _⟩ (fun H locs w => ?_)
    exact w_reti E w hf dX5_status_26
  · replace hf := it_f h4 hf
    refine lv_aload_n hx hb dX5_status_12 rfl (lv_at hl 0 rfl) ?_
    refine w_get E w in_X5_status_X5 0 (cM_at_0 t a S2) rfl 3 (by decide) fl_X5_status_20 rfl rfl dX5_status_13 ?_
    refine lv_iload_n hx hb dX5_status_16 rfl (lv_at hl 1 rfl) ?_
    obtain ⟨h8, hf⟩ := it_n hf
    refine w_ald E w 4 0 (cM_at_4 t a S2) rfl h8 rfl dX5_status_17 ?_
    refine lv_goto (tgt := 26) hx hb dX5_status_18 (by decide) ?_
    exact w_reti E w hf dX5_status_26
theorem c_X5_status (l : Launch) {D : va_G} {t : Nat → ClassId} {a : Nat → Nat} {X : State → Prop} (hX : XOk (aW 17 a) X) {N : Nat} {S : ST} {x1 : Int32} {r : Int32} {S' : ST} (hf : f_X5_status N S x1 = some (r, S')) : Co l yX5_status wsX5_status rmX5_status D (cM t a) (aW 17 a) (tyM t) X [.ref (a 0), .int x1] S (Qi D (cM t a) (aW 17 a) (tyM t) r S') :=
  co_of (cc := cX5_status) (maxL := 2) (ret := (some .int)) (lv := [(0, .ref (a 0)), (1, .int x1)]) (by decide) rfl rfl (Nat.le_of_ble_eq_true rfl) rfl rfl (fun p e s m below meth c ls E hl w => k_X5_status_E hX E w hl hf)
-- X5_counted
theorem in_X5_counted_X5 : ∀ w ∈ u_ws RX5 TX5 28, w ∈ wsX5_counted := by decide +kernel
theorem fl_X5_counted_7 : Cond.fieldLink RX5 7 "NextDoorModel" "now" "[I" ∈ wsX5_counted := by decide +kernel
abbrev rmX5_counted : Room := { frames := 1, cells := 0, slots := 0, locals := 20 }
set_option maxHeartbeats 4000000 in
set_option maxRecDepth 100000 in
theorem k_X5_counted_E {p : Program} {l : Launch} {e : Env} {s : State} {m : MethodId} {args : Array Value} {below : List Frame} {meth : Method} {c : Code} {D : va_G} {t : Nat → ClassId} {a : Nat → Nat} {X : State → Prop} {N : Nat} {r : Int32} {S' : ST} (hX : XOk (aW 17 a) X) (E : EN p s m args meth c cX5_counted RX5 wsX5_counted (some .int) 2) {S : ST} {x1 : Int32} {H : Heap} {locs : List Loc} {ls : Array Slot} (w : Wd D (cM t a) (aW 17 a) (tyM t) X S s H locs) (hl : lv_has ls 2 [(0, .ref (a 0)), (1, .int x1)]) (hf : f_X5_counted N S x1 = some (r, S')) : W p l e rmX5_counted s m args below meth c H locs 0 0 (MQ below (Qi D (cM t a) (aW 17 a) (tyM t) r S') args s 0 0 (aW 17 a)) (F0 m 0 ls []) := by
  obtain ⟨⟨hx, hb, hml, hown, hts⟩, hr, hlk⟩ := id E
  unfold f_X5_counted at hf
  refine lv_iload_n hx hb dX5_counted_0 rfl (lv_at hl 1 rfl) ?_
  refine lv_if_ne (tgt := 11) hx hb dX5_counted_1 (by decide) (fun h1 => ?_) (fun h1 => ?_)
  · replace hf := it_f h1 hf
    refine lv_iload_n hx hb dX5_counted_11 rfl (lv_at hl 1 rfl) ?_
    refine lv_iconst (v := 1) hx hb dX5_counted_12 (by decide) ?_
    refine lv_icmp_ne (tgt := 26) hx hb dX5_counted_13 (by decide) (fun h2 => ?_) (fun h2 => ?_)
    · replace hf := it_f h2 hf
      refine lv_iload_n hx hb dX5_counted_26 rfl (lv_at hl 1 rfl) ?_
      refine lv_iconst (v := 2) hx hb dX5_counted_27 (by decide) ?_
      refine lv_icmp_ne (tgt := 38) hx hb dX5_counted_28 (by decide) (fun h3 => ?_) (fun h3 => ?_)
      · replace hf := it_f h3 hf
        refine lv_aload_n hx hb dX5_counted_38 rfl (lv_at hl 0 rfl) ?_
        refine w_get E w in_X5_counted_X5 0 (cM_at_0 t a S) rfl 0 (by decide) fl_X5_counted_7 rfl rfl dX5_counted_39 ?_
        refine lv_sipush (v := 260) hx hb dX5_counted_42 (by decide) ?_
        refine w_ald E w 1 0 (cM_at_1 t a S) rfl (by decide) (congrArg (S 1) ix_260) dX5_counted_45 ?_
        exact w_reti E w hf dX5_counted_46
      · replace hf := it_t h3 hf
        refine lv_aload_n hx hb dX5_counted_31 rfl (lv_at hl 0 rfl) ?_
        obtain ⟨r6, S5, h4, hf⟩ := bd2_o hf
        refine w_callVi (As := []) (rest := []) hX E w (c_X5_textLong l hX h4) (cwV 0 hts gX5_counted_X5_textLong rfl rfl rfl hd_X5_textLong ⟨Nat.le_of_ble_eq_true rfl, Nat.le_of_ble_eq_true rfl⟩) (ci := 5) rfl (cM_at_0 t a S) rfl hl.1 rfl (Nat.le_of_ble_eq_true rfl) dX5_counted_32 ⟨Nat.le_refl _, Nat.le_refl _⟩ (fun H locs w => ?_)
        refine lv_goto (tgt := 46) hx hb dX5_counted_35 (by decide) ?_
        exact w_reti E w hf dX5_counted_46
    · replace hf := it_t h2 hf
      refine lv_aload_n hx hb dX5_counted_16 rfl (lv_at hl 0 rfl) ?_
      refine w_get E w in_X5_counted_X5 0 (cM_at_0 t a S) rfl 0 (by decide) fl_X5_counted_7 rfl rfl dX5_counted_17 ?_
      refine lv_bipush (v := 33) hx hb dX5_counted_20 (by decide) ?_
      refine w_ald E w 1 0 (cM_at_1 t a S) rfl (by decide) (congrArg (S 1) ix_33) dX5_counted_22 ?_
      refine lv_goto (tgt := 46) hx hb dX5_counted_23 (by decide) ?_
      exact w_reti E w hf dX5_counted_46
  · replace hf := it_t h1 hf
    refine lv_aload_n hx hb dX5_counted_4 rfl (lv_at hl 0 rfl) ?_
    obtain ⟨r9, S8, h7, hf⟩ := bd2_o hf
    refine w_callVi (As := []) (rest := []) hX E w (c_X5_shops l hX h7) (cwV 0 hts gX5_counted_X5_shops rfl rfl rfl hd_X5_shops ⟨Nat.le_of_ble_eq_true rfl, Nat.le_of_ble_eq_true rfl⟩) (ci := 5) rfl (cM_at_0 t a S) rfl hl.1 rfl (Nat.le_of_ble_eq_true rfl) dX5_counted_5 ⟨Nat.le_refl _, Nat.le_refl _⟩ (fun H locs w => ?_)
    refine lv_goto (tgt := 46) hx hb dX5_counted_8 (by decide) ?_
    exact w_reti E w hf dX5_counted_46
theorem c_X5_counted (l : Launch) {D : va_G} {t : Nat → ClassId} {a : Nat → Nat} {X : State → Prop} (hX : XOk (aW 17 a) X) {N : Nat} {S : ST} {x1 : Int32} {r : Int32} {S' : ST} (hf : f_X5_counted N S x1 = some (r, S')) : Co l yX5_counted wsX5_counted rmX5_counted D (cM t a) (aW 17 a) (tyM t) X [.ref (a 0), .int x1] S (Qi D (cM t a) (aW 17 a) (tyM t) r S') :=
  co_of (cc := cX5_counted) (maxL := 2) (ret := (some .int)) (lv := [(0, .ref (a 0)), (1, .int x1)]) (by decide) rfl rfl (Nat.le_of_ble_eq_true rfl) rfl rfl (fun p e s m below meth c ls E hl w => k_X5_counted_E hX E w hl hf)
-- X5_count
theorem ct_X5_count_146 : Cond.constantLong RX5 146 3 ∈ wsX5_count := by decide +kernel
theorem hd_X5_counted : yX5_counted.cls = RX5 ∧ yX5_counted.cls ≠ "java/lang/invoke/MethodHandle" ∧ yX5_counted.cls ≠ "java/lang/invoke/VarHandle" ∧ (parseMethodDescriptor yX5_counted.desc).map (fun d => d.parameters.length) = some 1 := by decide +kernel
abbrev rmX5_count : Room := { frames := 2, cells := 0, slots := 0, locals := 41 }
set_option maxHeartbeats 4000000 in
set_option maxRecDepth 100000 in
theorem k_X5_count_E {p : Program} {l : Launch} {e : Env} {s : State} {m : MethodId} {args : Array Value} {below : List Frame} {meth : Method} {c : Code} {D : va_G} {t : Nat → ClassId} {a : Nat → Nat} {X : State → Prop} {N : Nat} {r : Int32} {S' : ST} (hX : XOk (aW 17 a) X) (E : EN p s m args meth c cX5_count RX5 wsX5_count (some .int) 2) {S : ST} {x1 : Int32} {H : Heap} {locs : List Loc} {ls : Array Slot} (w : Wd D (cM t a) (aW 17 a) (tyM t) X S s H locs) (hl : lv_has ls 2 [(0, .ref (a 0)), (1, .int x1)]) (hf : f_X5_count N S x1 = some (r, S')) : W p l e rmX5_count s m args below meth c H locs 0 0 (MQ below (Qi D (cM t a) (aW 17 a) (tyM t) r S') args s 0 0 (aW 17 a)) (F0 m 0 ls []) := by
  obtain ⟨⟨hx, hb, hml, hown, hts⟩, hr, hlk⟩ := id E
  unfold f_X5_count at hf
  refine lv_iload_n hx hb dX5_count_0 rfl (lv_at hl 1 rfl) ?_
  refine lv_i2l hx hb dX5_count_1 rfl ?_
  refine lv_lconst (v := 0) hx hb dX5_count_2 (by decide) ?_
  refine lv_ldc2 hx hb hown (hts _ ct_X5_count_146) dX5_count_3 ?_
  obtain ⟨r3, S2, h1, hf⟩ := bd2_o hf
  refine w_callSi (As := [.long ((x1 : Int32).toInt64), .long 0, .long 3]) (rest := []) hX E w (c_X5_in l hX h1) (va_cwS 3 hts gX5_count_X5_in rfl rfl rfl hd_X5_in ⟨Nat.le_of_ble_eq_true rfl, Nat.le_of_ble_eq_true rfl⟩) rfl hl.1 rfl (Nat.le_of_ble_eq_true rfl) dX5_count_6 ⟨Nat.le_refl _, Nat.le_refl _⟩ (fun H locs w => ?_)
  refine lv_if_eq (tgt := 20) hx hb dX5_count_9 (by decide) (fun h4 => ?_) (fun h4 => ?_)
  · replace hf := it_t h4 hf
    refine lv_aload_n hx hb dX5_count_20 rfl (lv_at hl 0 rfl) ?_
    refine lv_bipush (v := (-2)) hx hb dX5_count_21 (by decide) ?_
    obtain ⟨r7, S6, h5, hf⟩ := bd2_o hf
    refine w_callVi (As := [.int (-2)]) (rest := []) hX E w (c_X5_bad l hX h5) (cwV 1 hts gX5_count_X5_bad rfl rfl rfl hd_X5_bad ⟨Nat.le_of_ble_eq_true rfl, Nat.le_of_ble_eq_true rfl⟩) (ci := 5) rfl (cM_at_0 t a S2) rfl hl.1 rfl (Nat.le_of_ble_eq_true rfl) dX5_count_23 ⟨Nat.le_refl _, Nat.le_refl _⟩ (fun H locs w => ?_)
    exact w_reti E w hf dX5_count_26
  · replace hf := it_f h4 hf
    refine lv_aload_n hx hb dX5_count_12 rfl (lv_at hl 0 rfl) ?_
    refine lv_iload_n hx hb dX5_count_13 rfl (lv_at hl 1 rfl) ?_
    obtain ⟨r10, S9, h8, hf⟩ := bd2_o hf
    refine w_callVi (As := [.int x1]) (rest := []) hX E w (c_X5_counted l hX h8) (cwV 1 hts gX5_count_X5_counted rfl rfl rfl hd_X5_counted ⟨Nat.le_of_ble_eq_true rfl, Nat.le_of_ble_eq_true rfl⟩) (ci := 5) rfl (cM_at_0 t a S2) rfl hl.1 rfl (Nat.le_of_ble_eq_true rfl) dX5_count_14 ⟨Nat.le_refl _, Nat.le_refl _⟩ (fun H locs w => ?_)
    refine lv_goto (tgt := 26) hx hb dX5_count_17 (by decide) ?_
    exact w_reti E w hf dX5_count_26
theorem c_X5_count (l : Launch) {D : va_G} {t : Nat → ClassId} {a : Nat → Nat} {X : State → Prop} (hX : XOk (aW 17 a) X) {N : Nat} {S : ST} {x1 : Int32} {r : Int32} {S' : ST} (hf : f_X5_count N S x1 = some (r, S')) : Co l yX5_count wsX5_count rmX5_count D (cM t a) (aW 17 a) (tyM t) X [.ref (a 0), .int x1] S (Qi D (cM t a) (aW 17 a) (tyM t) r S') :=
  co_of (cc := cX5_count) (maxL := 2) (ret := (some .int)) (lv := [(0, .ref (a 0)), (1, .int x1)]) (by decide) rfl rfl (Nat.le_of_ble_eq_true rfl) rfl rfl (fun p e s m below meth c ls E hl w => k_X5_count_E hX E w hl hf)
-- X5_sums
theorem ct_X5_sums_273 : Cond.constantLong RX5 273 31 ∈ wsX5_sums := by decide +kernel
theorem in_X5_sums_X5 : ∀ w ∈ u_ws RX5 TX5 28, w ∈ wsX5_sums := by decide +kernel
theorem fl_X5_sums_7 : Cond.fieldLink RX5 7 "NextDoorModel" "now" "[I" ∈ wsX5_sums := by decide +kernel
abbrev rmX5_sums : Room := { frames := 0, cells := 0, slots := 0, locals := 0 }
set_option maxHeartbeats 4000000 in
set_option maxRecDepth 100000 in
theorem k_X5_sums_6 {p : Program} {l : Launch} {e : Env} {s : State} {m : MethodId} {args : Array Value} {below : List Frame} {meth : Method} {c : Code} {D : va_G} {t : Nat → ClassId} {a : Nat → Nat} {X : State → Prop} {N : Nat} {r : Int64} {S' : ST} (hX : XOk (aW 17 a) X) (E : EN p s m args meth c cX5_sums RX5 wsX5_sums (some .long) 8) : ∀ (n : Nat) {S : ST} {x3 : Int32} {x4 : Int32} {x5 : Int64} {x7 : Int32} {H : Heap} {locs : List Loc} {ls : Array Slot}, Wd D (cM t a) (aW 17 a) (tyM t) X S s H locs → lv_has ls 8 [(0, .ref (a 0)), (3, .int x3), (4, .int x4), (5, .long x5), (7, .int x7)] → b_X5_sums_6 N n S x3 x4 x5 x7 = some (r, S') → W p l e rmX5_sums s m args below meth c H locs 0 0 (MQ below (Ql D (cM t a) (aW 17 a) (tyM t) r S') args s 0 0 (aW 17 a)) (F0 m 6 ls []) := by
  obtain ⟨⟨hx, hb, hml, hown, hts⟩, hr, hlk⟩ := id E
  intro n
  induction n with
  | zero => intro S x3 x4 x5 x7 H locs ls w hl hf; cases hf
  | succ n ih =>
    intro S x3 x4 x5 x7 H locs ls w hl hf
    unfold b_X5_sums_6 at hf
    refine lv_iload hx hb dX5_sums_6 (lv_at hl 4 rfl) ?_
    refine lv_iload hx hb dX5_sums_8 (lv_at hl 2 rfl) ?_
    refine lv_icmp_ge (tgt := 38) hx hb dX5_sums_10 (by decide) (fun h1 => ?_) (fun h1 => ?_)
    · replace hf := it_t h1 hf
      refine lv_lload hx hb dX5_sums_38 (lv_at hl 3 rfl) ?_
      exact w_retl E w hf dX5_sums_40
    · replace hf := it_f h1 hf
      refine lv_ldc2 hx hb hown (hts _ ct_X5_sums_273) dX5_sums_13 ?_
      refine lv_lload hx hb dX5_sums_16 (lv_at hl 3 rfl) ?_
      refine lv_lmul hx hb dX5_sums_18 ?_
      refine lv_aload_n hx hb dX5_sums_19 rfl (lv_at hl 0 rfl) ?_
      refine w_get E w in_X5_sums_X5 0 (cM_at_0 t a S) rfl 0 (by decide) fl_X5_sums_7 rfl rfl dX5_sums_20 ?_
      refine lv_iload_n hx hb dX5_sums_23 rfl (lv_at hl 1 rfl) ?_
      refine lv_iload hx hb dX5_sums_24 (lv_at hl 4 rfl) ?_
      refine lv_iadd hx hb dX5_sums_26 ?_
      obtain ⟨h2, hf⟩ := it_n hf
      refine w_ald E w 1 0 (cM_at_1 t a S) rfl h2 rfl dX5_sums_27 ?_
      refine lv_i2l hx hb dX5_sums_28 rfl ?_
      refine lv_ladd hx hb dX5_sums_29 ?_
      refine lv_lstore (lv' := [(5, .long ((31 * x5) + (((S 1 (x3 + x7).toNatClampNeg) : Int32).toInt64))), (0, .ref (a 0)), (3, .int x3), (4, .int x4), (7, .int x7)]) hx hb dX5_sums_30 hl (by decide) rfl (fun ls hl => ?_)
      refine lv_iinc (v := x7 + 1) (lv' := [(7, .int (x7 + 1)), (5, .long ((31 * x5) + (((S 1 (x3 + x7).toNatClampNeg) : Int32).toInt64))), (0, .ref (a 0)), (3, .int x3), (4, .int x4)]) hx hb dX5_sums_32 hl (k := 4) rfl rfl (by decide) rfl (fun ls hl => ?_)
      refine lv_goto (tgt := 6) hx hb dX5_sums_35 (by decide) ?_
      exact ih w (lv_sub hl [2, 3, 4, 1, 0] rfl) hf
set_option maxHeartbeats 4000000 in
set_option maxRecDepth 100000 in
theorem k_X5_sums_E {p : Program} {l : Launch} {e : Env} {s : State} {m : MethodId} {args : Array Value} {below : List Frame} {meth : Method} {c : Code} {D : va_G} {t : Nat → ClassId} {a : Nat → Nat} {X : State → Prop} {N : Nat} {r : Int64} {S' : ST} (hX : XOk (aW 17 a) X) (E : EN p s m args meth c cX5_sums RX5 wsX5_sums (some .long) 8) {S : ST} {x1 : Int64} {x3 : Int32} {x4 : Int32} {H : Heap} {locs : List Loc} {ls : Array Slot} (w : Wd D (cM t a) (aW 17 a) (tyM t) X S s H locs) (hl : lv_has ls 8 [(0, .ref (a 0)), (1, .long x1), (3, .int x3), (4, .int x4)]) (hf : f_X5_sums N S x1 x3 x4 = some (r, S')) : W p l e rmX5_sums s m args below meth c H locs 0 0 (MQ below (Ql D (cM t a) (aW 17 a) (tyM t) r S') args s 0 0 (aW 17 a)) (F0 m 0 ls []) := by
  obtain ⟨⟨hx, hb, hml, hown, hts⟩, hr, hlk⟩ := id E
  unfold f_X5_sums at hf
  refine lv_lload_n hx hb dX5_sums_0 rfl (lv_at hl 1 rfl) ?_
  refine lv_lstore (lv' := [(5, .long x1), (0, .ref (a 0)), (1, .long x1), (3, .int x3), (4, .int x4)]) hx hb dX5_sums_1 hl (by decide) rfl (fun ls hl => ?_)
  refine lv_iconst (v := 0) hx hb dX5_sums_3 (by decide) ?_
  refine lv_istore (lv' := [(7, .int 0), (5, .long x1), (0, .ref (a 0)), (1, .long x1), (3, .int x3), (4, .int x4)]) hx hb dX5_sums_4 hl (by decide) rfl (fun ls hl => ?_)
  exact k_X5_sums_6 hX E N w (lv_sub hl [2, 4, 5, 1, 0] rfl) hf
theorem c_X5_sums (l : Launch) {D : va_G} {t : Nat → ClassId} {a : Nat → Nat} {X : State → Prop} (hX : XOk (aW 17 a) X) {N : Nat} {S : ST} {x1 : Int64} {x3 : Int32} {x4 : Int32} {r : Int64} {S' : ST} (hf : f_X5_sums N S x1 x3 x4 = some (r, S')) : Co l yX5_sums wsX5_sums rmX5_sums D (cM t a) (aW 17 a) (tyM t) X [.ref (a 0), .long x1, .int x3, .int x4] S (Ql D (cM t a) (aW 17 a) (tyM t) r S') :=
  co_of (cc := cX5_sums) (maxL := 8) (ret := (some .long)) (lv := [(0, .ref (a 0)), (1, .long x1), (3, .int x3), (4, .int x4)]) (by decide) rfl rfl (Nat.le_of_ble_eq_true rfl) rfl rfl (fun p e s m below meth c ls E hl w => k_X5_sums_E hX E w hl hf)
-- X5_digest
theorem ct_X5_digest_275 : Cond.constantLong RX5 275 647 ∈ wsX5_digest := by decide +kernel
theorem ct_X5_digest_273 : Cond.constantLong RX5 273 31 ∈ wsX5_digest := by decide +kernel
theorem hd_X5_sums : yX5_sums.cls = RX5 ∧ yX5_sums.cls ≠ "java/lang/invoke/MethodHandle" ∧ yX5_sums.cls ≠ "java/lang/invoke/VarHandle" ∧ (parseMethodDescriptor yX5_sums.desc).map (fun d => d.parameters.length) = some 3 := by decide +kernel
theorem in_X5_digest_X5 : ∀ w ∈ u_ws RX5 TX5 28, w ∈ wsX5_digest := by decide +kernel
theorem fl_X5_digest_7 : Cond.fieldLink RX5 7 "NextDoorModel" "now" "[I" ∈ wsX5_digest := by decide +kernel
abbrev rmX5_digest : Room := { frames := 2, cells := 0, slots := 0, locals := 41 }
set_option maxHeartbeats 4000000 in
set_option maxRecDepth 100000 in
theorem k_X5_digest_32 {p : Program} {l : Launch} {e : Env} {s : State} {m : MethodId} {args : Array Value} {below : List Frame} {meth : Method} {c : Code} {D : va_G} {t : Nat → ClassId} {a : Nat → Nat} {X : State → Prop} {N : Nat} {r : Int64} {S' : ST} (hX : XOk (aW 17 a) X) (E : EN p s m args meth c cX5_digest RX5 wsX5_digest (some .long) 4) : ∀ (n : Nat) {S : ST} {x1 : Int64} {x3 : Int32} {H : Heap} {locs : List Loc} {ls : Array Slot}, Wd D (cM t a) (aW 17 a) (tyM t) X S s H locs → lv_has ls 4 [(0, .ref (a 0)), (1, .long x1), (3, .int x3)] → b_X5_digest_32 N n S x1 x3 = some (r, S') → W p l e rmX5_digest s m args below meth c H locs 0 0 (MQ below (Ql D (cM t a) (aW 17 a) (tyM t) r S') args s 0 0 (aW 17 a)) (F0 m 32 ls []) := by
  obtain ⟨⟨hx, hb, hml, hown, hts⟩, hr, hlk⟩ := id E
  intro n
  induction n with
  | zero => intro S x1 x3 H locs ls w hl hf; cases hf
  | succ n ih =>
    intro S x1 x3 H locs ls w hl hf
    unfold b_X5_digest_32 at hf
    refine lv_iload_n hx hb dX5_digest_32 rfl (lv_at hl 2 rfl) ?_
    refine lv_aload_n hx hb dX5_digest_33 rfl (lv_at hl 0 rfl) ?_
    obtain ⟨r7, S6, h5, hf⟩ := bd2_o hf
    refine w_callVi (As := []) (rest := [.int x3]) hX E w (c_X5_shops l hX h5) (cwV 0 hts gX5_digest_X5_shops rfl rfl rfl hd_X5_shops ⟨Nat.le_of_ble_eq_true rfl, Nat.le_of_ble_eq_true rfl⟩) (ci := 5) rfl (cM_at_0 t a S) rfl hl.1 rfl (Nat.le_of_ble_eq_true rfl) dX5_digest_34 ⟨Nat.le_refl _, Nat.le_refl _⟩ (fun H locs w => ?_)
    refine lv_icmp_ge (tgt := 73) hx hb dX5_digest_37 (by decide) (fun h8 => ?_) (fun h8 => ?_)
    · replace hf := it_t h8 hf
      refine lv_aload_n hx hb dX5_digest_73 rfl (lv_at hl 0 rfl) ?_
      refine lv_lload_n hx hb dX5_digest_74 rfl (lv_at hl 1 rfl) ?_
      refine lv_bipush (v := 30) hx hb dX5_digest_75 (by decide) ?_
      refine lv_iconst (v := 3) hx hb dX5_digest_77 (by decide) ?_
      obtain ⟨r11, S10, h9, hf⟩ := bd2_o hf
      refine w_callVl (As := [.long x1, .int 30, .int 3]) (rest := []) hX E w (c_X5_sums l hX h9) (cwV 3 hts gX5_digest_X5_sums rfl rfl rfl hd_X5_sums ⟨Nat.le_of_ble_eq_true rfl, Nat.le_of_ble_eq_true rfl⟩) (ci := 5) rfl (cM_at_0 t a S6) rfl hl.1 rfl (Nat.le_of_ble_eq_true rfl) dX5_digest_78 ⟨Nat.le_refl _, Nat.le_refl _⟩ (fun H locs w => ?_)
      refine lv_lstore_n (lv' := [(1, .long r11), (0, .ref (a 0)), (3, .int x3)]) hx hb dX5_digest_81 rfl hl (by decide) rfl (fun ls hl => ?_)
      refine lv_aload_n hx hb dX5_digest_82 rfl (lv_at hl 1 rfl) ?_
      refine lv_lload_n hx hb dX5_digest_83 rfl (lv_at hl 0 rfl) ?_
      refine lv_bipush (v := 34) hx hb dX5_digest_84 (by decide) ?_
      refine lv_aload_n hx hb dX5_digest_86 rfl (lv_at hl 1 rfl) ?_
      refine w_get E w in_X5_digest_X5 0 (cM_at_0 t a S10) rfl 0 (by decide) fl_X5_digest_7 rfl rfl dX5_digest_87 ?_
      refine lv_bipush (v := 33) hx hb dX5_digest_90 (by decide) ?_
      refine w_ald E w 1 0 (cM_at_1 t a S10) rfl (by decide) (congrArg (S10 1) ix_33) dX5_digest_92 ?_
      obtain ⟨r14, S13, h12, hf⟩ := bd2_o hf
      refine w_callVl (As := [.long r11, .int 34, .int (S10 1 33)]) (rest := []) hX E w (c_X5_sums l hX h12) (cwV 3 hts gX5_digest_X5_sums rfl rfl rfl hd_X5_sums ⟨Nat.le_of_ble_eq_true rfl, Nat.le_of_ble_eq_true rfl⟩) (ci := 5) rfl (cM_at_0 t a S10) rfl hl.1 rfl (Nat.le_of_ble_eq_true rfl) dX5_digest_93 ⟨Nat.le_refl _, Nat.le_refl _⟩ (fun H locs w => ?_)
      refine lv_lstore_n (lv' := [(1, .long r14), (0, .ref (a 0)), (3, .int x3)]) hx hb dX5_digest_96 rfl hl (by decide) rfl (fun ls hl => ?_)
      refine lv_aload_n hx hb dX5_digest_97 rfl (lv_at hl 1 rfl) ?_
      refine lv_lload_n hx hb dX5_digest_98 rfl (lv_at hl 0 rfl) ?_
      refine lv_bipush (v := 47) hx hb dX5_digest_99 (by decide) ?_
      refine lv_aload_n hx hb dX5_digest_101 rfl (lv_at hl 1 rfl) ?_
      obtain ⟨r17, S16, h15, hf⟩ := bd2_o hf
      refine w_callVi (As := []) (rest := [.int 47, .long r14, .ref (a 0)]) hX E w (c_X5_textLong l hX h15) (cwV 0 hts gX5_digest_X5_textLong rfl rfl rfl hd_X5_textLong ⟨Nat.le_of_ble_eq_true rfl, Nat.le_of_ble_eq_true rfl⟩) (ci := 5) rfl (cM_at_0 t a S13) rfl hl.1 rfl (Nat.le_of_ble_eq_true rfl) dX5_digest_102 ⟨Nat.le_refl _, Nat.le_refl _⟩ (fun H locs w => ?_)
      obtain ⟨r20, S19, h18, hf⟩ := bd2_o hf
      refine w_callVl (As := [.long r14, .int 47, .int r17]) (rest := []) hX E w (c_X5_sums l hX h18) (cwV 3 hts gX5_digest_X5_sums rfl rfl rfl hd_X5_sums ⟨Nat.le_of_ble_eq_true rfl, Nat.le_of_ble_eq_true rfl⟩) (ci := 5) rfl (cM_at_0 t a S16) rfl hl.1 rfl (Nat.le_of_ble_eq_true rfl) dX5_digest_105 ⟨Nat.le_refl _, Nat.le_refl _⟩ (fun H locs w => ?_)
      refine lv_lstore_n (lv' := [(1, .long r20), (0, .ref (a 0)), (3, .int x3)]) hx hb dX5_digest_108 rfl hl (by decide) rfl (fun ls hl => ?_)
      refine lv_aload_n hx hb dX5_digest_109 rfl (lv_at hl 1 rfl) ?_
      refine lv_lload_n hx hb dX5_digest_110 rfl (lv_at hl 0 rfl) ?_
      refine lv_sipush (v := 247) hx hb dX5_digest_111 (by decide) ?_
      refine lv_iconst (v := 2) hx hb dX5_digest_114 (by decide) ?_
      refine lv_aload_n hx hb dX5_digest_115 rfl (lv_at hl 1 rfl) ?_
      refine w_get E w in_X5_digest_X5 0 (cM_at_0 t a S19) rfl 0 (by decide) fl_X5_digest_7 rfl rfl dX5_digest_116 ?_
      refine lv_sipush (v := 260) hx hb dX5_digest_119 (by decide) ?_
      refine w_ald E w 1 0 (cM_at_1 t a S19) rfl (by decide) (congrArg (S19 1) ix_260) dX5_digest_122 ?_
      refine lv_imul hx hb dX5_digest_123 ?_
      obtain ⟨r23, S22, h21, hf⟩ := bd2_o hf
      refine w_callVl (As := [.long r20, .int 247, .int (2 * (S19 1 260))]) (rest := []) hX E w (c_X5_sums l hX h21) (cwV 3 hts gX5_digest_X5_sums rfl rfl rfl hd_X5_sums ⟨Nat.le_of_ble_eq_true rfl, Nat.le_of_ble_eq_true rfl⟩) (ci := 5) rfl (cM_at_0 t a S19) rfl hl.1 rfl (Nat.le_of_ble_eq_true rfl) dX5_digest_124 ⟨Nat.le_refl _, Nat.le_refl _⟩ (fun H locs w => ?_)
      exact w_retl E w hf dX5_digest_127
    · replace hf := it_f h8 hf
      refine lv_ldc2 hx hb hown (hts _ ct_X5_digest_273) dX5_digest_40 ?_
      refine lv_aload_n hx hb dX5_digest_43 rfl (lv_at hl 0 rfl) ?_
      refine lv_lload_n hx hb dX5_digest_44 rfl (lv_at hl 1 rfl) ?_
      refine lv_iconst (v := 0) hx hb dX5_digest_45 (by decide) ?_
      refine lv_iconst (v := 4) hx hb dX5_digest_46 (by decide) ?_
      refine lv_iload_n hx hb dX5_digest_47 rfl (lv_at hl 2 rfl) ?_
      refine lv_imul hx hb dX5_digest_48 ?_
      refine lv_iadd hx hb dX5_digest_49 ?_
      refine lv_iconst (v := 4) hx hb dX5_digest_50 (by decide) ?_
      obtain ⟨r26, S25, h24, hf⟩ := bd2_o hf
      refine w_callVl (As := [.long x1, .int (0 + (4 * x3)), .int 4]) (rest := [.long 31]) hX E w (c_X5_sums l hX h24) (cwV 3 hts gX5_digest_X5_sums rfl rfl rfl hd_X5_sums ⟨Nat.le_of_ble_eq_true rfl, Nat.le_of_ble_eq_true rfl⟩) (ci := 5) rfl (cM_at_0 t a S6) rfl hl.1 rfl (Nat.le_of_ble_eq_true rfl) dX5_digest_51 ⟨Nat.le_refl _, Nat.le_refl _⟩ (fun H locs w => ?_)
      refine lv_lmul hx hb dX5_digest_54 ?_
      refine lv_aload_n hx hb dX5_digest_55 rfl (lv_at hl 0 rfl) ?_
      refine w_get E w in_X5_digest_X5 0 (cM_at_0 t a S25) rfl 0 (by decide) fl_X5_digest_7 rfl rfl dX5_digest_56 ?_
      refine lv_bipush (v := 24) hx hb dX5_digest_59 (by decide) ?_
      refine lv_iload_n hx hb dX5_digest_61 rfl (lv_at hl 2 rfl) ?_
      refine lv_iadd hx hb dX5_digest_62 ?_
      obtain ⟨h27, hf⟩ := it_n hf
      refine w_ald E w 1 0 (cM_at_1 t a S25) rfl h27 rfl dX5_digest_63 ?_
      refine lv_i2l hx hb dX5_digest_64 rfl ?_
      refine lv_ladd hx hb dX5_digest_65 ?_
      refine lv_lstore_n (lv' := [(1, .long ((31 * r26) + (((S25 1 (24 + x3).toNatClampNeg) : Int32).toInt64))), (0, .ref (a 0)), (3, .int x3)]) hx hb dX5_digest_66 rfl hl (by decide) rfl (fun ls hl => ?_)
      refine lv_iinc (v := x3 + 1) (lv' := [(3, .int (x3 + 1)), (1, .long ((31 * r26) + (((S25 1 (24 + x3).toNatClampNeg) : Int32).toInt64))), (0, .ref (a 0))]) hx hb dX5_digest_67 hl (k := 2) rfl rfl (by decide) rfl (fun ls hl => ?_)
      refine lv_goto (tgt := 32) hx hb dX5_digest_70 (by decide) ?_
      exact ih w (lv_sub hl [2, 1, 0] rfl) hf
set_option maxHeartbeats 4000000 in
set_option maxRecDepth 100000 in
theorem k_X5_digest_6 {p : Program} {l : Launch} {e : Env} {s : State} {m : MethodId} {args : Array Value} {below : List Frame} {meth : Method} {c : Code} {D : va_G} {t : Nat → ClassId} {a : Nat → Nat} {X : State → Prop} {N : Nat} {r : Int64} {S' : ST} (hX : XOk (aW 17 a) X) (E : EN p s m args meth c cX5_digest RX5 wsX5_digest (some .long) 4) : ∀ (n : Nat) {S : ST} {x1 : Int64} {x3 : Int32} {H : Heap} {locs : List Loc} {ls : Array Slot}, Wd D (cM t a) (aW 17 a) (tyM t) X S s H locs → lv_has ls 4 [(0, .ref (a 0)), (1, .long x1), (3, .int x3)] → b_X5_digest_6 N n S x1 x3 = some (r, S') → W p l e rmX5_digest s m args below meth c H locs 0 0 (MQ below (Ql D (cM t a) (aW 17 a) (tyM t) r S') args s 0 0 (aW 17 a)) (F0 m 6 ls []) := by
  obtain ⟨⟨hx, hb, hml, hown, hts⟩, hr, hlk⟩ := id E
  intro n
  induction n with
  | zero => intro S x1 x3 H locs ls w hl hf; cases hf
  | succ n ih =>
    intro S x1 x3 H locs ls w hl hf
    unfold b_X5_digest_6 at hf
    refine lv_iload_n hx hb dX5_digest_6 rfl (lv_at hl 2 rfl) ?_
    refine lv_iconst (v := 4) hx hb dX5_digest_7 (by decide) ?_
    refine lv_icmp_ge (tgt := 30) hx hb dX5_digest_8 (by decide) (fun h1 => ?_) (fun h1 => ?_)
    · replace hf := it_t h1 hf
      refine lv_iconst (v := 0) hx hb dX5_digest_30 (by decide) ?_
      refine lv_istore_n (lv' := [(3, .int 0), (0, .ref (a 0)), (1, .long x1)]) hx hb dX5_digest_31 rfl hl (by decide) rfl (fun ls hl => ?_)
      exact k_X5_digest_32 hX E N w (lv_sub hl [1, 2, 0] rfl) hf
    · replace hf := it_f h1 hf
      refine lv_ldc2 hx hb hown (hts _ ct_X5_digest_273) dX5_digest_11 ?_
      refine lv_lload_n hx hb dX5_digest_14 rfl (lv_at hl 1 rfl) ?_
      refine lv_lmul hx hb dX5_digest_15 ?_
      refine lv_aload_n hx hb dX5_digest_16 rfl (lv_at hl 0 rfl) ?_
      refine lv_iload_n hx hb dX5_digest_17 rfl (lv_at hl 2 rfl) ?_
      obtain ⟨r4, S3, h2, hf⟩ := bd2_o hf
      refine w_callVi (As := [.int x3]) (rest := [.long (31 * x1)]) hX E w (c_X5_counted l hX h2) (cwV 1 hts gX5_digest_X5_counted rfl rfl rfl hd_X5_counted ⟨Nat.le_of_ble_eq_true rfl, Nat.le_of_ble_eq_true rfl⟩) (ci := 5) rfl (cM_at_0 t a S) rfl hl.1 rfl (Nat.le_of_ble_eq_true rfl) dX5_digest_18 ⟨Nat.le_refl _, Nat.le_refl _⟩ (fun H locs w => ?_)
      refine lv_i2l hx hb dX5_digest_21 rfl ?_
      refine lv_ladd hx hb dX5_digest_22 ?_
      refine lv_lstore_n (lv' := [(1, .long ((31 * x1) + ((r4 : Int32).toInt64))), (0, .ref (a 0)), (3, .int x3)]) hx hb dX5_digest_23 rfl hl (by decide) rfl (fun ls hl => ?_)
      refine lv_iinc (v := x3 + 1) (lv' := [(3, .int (x3 + 1)), (1, .long ((31 * x1) + ((r4 : Int32).toInt64))), (0, .ref (a 0))]) hx hb dX5_digest_24 hl (k := 2) rfl rfl (by decide) rfl (fun ls hl => ?_)
      refine lv_goto (tgt := 6) hx hb dX5_digest_27 (by decide) ?_
      exact ih w (lv_sub hl [2, 1, 0] rfl) hf
set_option maxHeartbeats 4000000 in
set_option maxRecDepth 100000 in
theorem k_X5_digest_E {p : Program} {l : Launch} {e : Env} {s : State} {m : MethodId} {args : Array Value} {below : List Frame} {meth : Method} {c : Code} {D : va_G} {t : Nat → ClassId} {a : Nat → Nat} {X : State → Prop} {N : Nat} {r : Int64} {S' : ST} (hX : XOk (aW 17 a) X) (E : EN p s m args meth c cX5_digest RX5 wsX5_digest (some .long) 4) {S : ST} {H : Heap} {locs : List Loc} {ls : Array Slot} (w : Wd D (cM t a) (aW 17 a) (tyM t) X S s H locs) (hl : lv_has ls 4 [(0, .ref (a 0))]) (hf : f_X5_digest N S = some (r, S')) : W p l e rmX5_digest s m args below meth c H locs 0 0 (MQ below (Ql D (cM t a) (aW 17 a) (tyM t) r S') args s 0 0 (aW 17 a)) (F0 m 0 ls []) := by
  obtain ⟨⟨hx, hb, hml, hown, hts⟩, hr, hlk⟩ := id E
  unfold f_X5_digest at hf
  refine lv_ldc2 hx hb hown (hts _ ct_X5_digest_275) dX5_digest_0 ?_
  refine lv_lstore_n (lv' := [(1, .long 647), (0, .ref (a 0))]) hx hb dX5_digest_3 rfl hl (by decide) rfl (fun ls hl => ?_)
  refine lv_iconst (v := 0) hx hb dX5_digest_4 (by decide) ?_
  refine lv_istore_n (lv' := [(3, .int 0), (1, .long 647), (0, .ref (a 0))]) hx hb dX5_digest_5 rfl hl (by decide) rfl (fun ls hl => ?_)
  exact k_X5_digest_6 hX E N w (lv_sub hl [2, 1, 0] rfl) hf
theorem c_X5_digest (l : Launch) {D : va_G} {t : Nat → ClassId} {a : Nat → Nat} {X : State → Prop} (hX : XOk (aW 17 a) X) {N : Nat} {S : ST} {r : Int64} {S' : ST} (hf : f_X5_digest N S = some (r, S')) : Co l yX5_digest wsX5_digest rmX5_digest D (cM t a) (aW 17 a) (tyM t) X [.ref (a 0)] S (Ql D (cM t a) (aW 17 a) (tyM t) r S') :=
  co_of (cc := cX5_digest) (maxL := 4) (ret := (some .long)) (lv := [(0, .ref (a 0))]) (by decide) rfl rfl (Nat.le_of_ble_eq_true rfl) rfl rfl (fun p e s m below meth c ls E hl w => k_X5_digest_E hX E w hl hf)
