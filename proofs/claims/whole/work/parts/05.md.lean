-- X5_note
theorem in_X5_note_X5 : ∀ w ∈ u_ws RX5 TX5 28, w ∈ wsX5_note := by decide +kernel
theorem fl_X5_note_41 : Cond.fieldLink RX5 41 "NextDoorModel" "path" "[I" ∈ wsX5_note := by decide +kernel
theorem fl_X5_note_128 : Cond.fieldLink RX5 128 "NextDoorModel" "held" "I" ∈ wsX5_note := by decide +kernel
theorem fl_X5_note_140 : Cond.fieldLink RX5 140 "NextDoorModel" "paid" "I" ∈ wsX5_note := by decide +kernel
theorem fl_X5_note_26 : Cond.fieldLink RX5 26 "NextDoorModel" "bestPaid" "[I" ∈ wsX5_note := by decide +kernel
theorem fl_X5_note_29 : Cond.fieldLink RX5 29 "NextDoorModel" "bestMany" "[I" ∈ wsX5_note := by decide +kernel
theorem fl_X5_note_32 : Cond.fieldLink RX5 32 "NextDoorModel" "bestMinute" "[I" ∈ wsX5_note := by decide +kernel
theorem fl_X5_note_131 : Cond.fieldLink RX5 131 "NextDoorModel" "minute" "I" ∈ wsX5_note := by decide +kernel
theorem fl_X5_note_35 : Cond.fieldLink RX5 35 "NextDoorModel" "bestRow" "[I" ∈ wsX5_note := by decide +kernel
theorem fl_X5_note_38 : Cond.fieldLink RX5 38 "NextDoorModel" "soonMinute" "[I" ∈ wsX5_note := by decide +kernel
abbrev rmX5_note : Room := { frames := 0, cells := 0, slots := 0, locals := 0 }
set_option maxHeartbeats 4000000 in
set_option maxRecDepth 100000 in
theorem k_X5_note_161 {p : Program} {l : Launch} {e : Env} {s : State} {m : MethodId} {args : Array Value} {below : List Frame} {meth : Method} {c : Code} {D : va_G} {t : Nat → ClassId} {a : Nat → Nat} {X : State → Prop} {N : Nat} {S' : ST} (hX : XOk (aW 17 a) X) (E : EN p s m args meth c cX5_note RX5 wsX5_note none 5) {k30 : ST → Int32 → Int32 → Int32 → Option ST} (hk30 : ∀ {S : ST} {x1 : Int32} {x2 : Int32} {x3 : Int32} {H : Heap} {locs : List Loc} {ls : Array Slot}, Wd D (cM t a) (aW 17 a) (tyM t) X S s H locs → lv_has ls 5 [(0, .ref (a 0)), (1, .int x1), (2, .int x2), (3, .int x3)] → k30 S x1 x2 x3 = some S' → W p l e rmX5_note s m args below meth c H locs 0 0 (MQ below (Qv D (cM t a) (aW 17 a) (tyM t) S') args s 0 0 (aW 17 a)) (F0 m 30 ls [])) {S : ST} {x1 : Int32} {x2 : Int32} {x3 : Int32} {H : Heap} {locs : List Loc} {ls : Array Slot} (w : Wd D (cM t a) (aW 17 a) (tyM t) X S s H locs) (hl : lv_has ls 5 [(0, .ref (a 0)), (1, .int x1), (2, .int x2), (3, .int x3)]) (hf : b_X5_note_161 N k30 S x1 x2 x3 = some S') : W p l e rmX5_note s m args below meth c H locs 0 0 (MQ below (Qv D (cM t a) (aW 17 a) (tyM t) S') args s 0 0 (aW 17 a)) (F0 m 161 ls []) := by
  obtain ⟨⟨hx, hb, hml, hown, hts⟩, hr, hlk⟩ := id E
  unfold b_X5_note_161 at hf
  refine lv_iinc (v := x3 + 1) (lv' := [(3, .int (x3 + 1)), (0, .ref (a 0)), (1, .int x1), (2, .int x2)]) hx hb dX5_note_161 hl (k := 3) rfl rfl (by decide) rfl (fun ls hl => ?_)
  refine lv_goto (tgt := 30) hx hb dX5_note_164 (by decide) ?_
  exact hk30 w (lv_sub hl [1, 2, 3, 0] rfl) hf
set_option maxHeartbeats 4000000 in
set_option maxRecDepth 100000 in
theorem k_X5_note_160 {p : Program} {l : Launch} {e : Env} {s : State} {m : MethodId} {args : Array Value} {below : List Frame} {meth : Method} {c : Code} {D : va_G} {t : Nat → ClassId} {a : Nat → Nat} {X : State → Prop} {N : Nat} {S' : ST} (hX : XOk (aW 17 a) X) (E : EN p s m args meth c cX5_note RX5 wsX5_note none 5) {k30 : ST → Int32 → Int32 → Int32 → Option ST} (hk30 : ∀ {S : ST} {x1 : Int32} {x2 : Int32} {x3 : Int32} {H : Heap} {locs : List Loc} {ls : Array Slot}, Wd D (cM t a) (aW 17 a) (tyM t) X S s H locs → lv_has ls 5 [(0, .ref (a 0)), (1, .int x1), (2, .int x2), (3, .int x3)] → k30 S x1 x2 x3 = some S' → W p l e rmX5_note s m args below meth c H locs 0 0 (MQ below (Qv D (cM t a) (aW 17 a) (tyM t) S') args s 0 0 (aW 17 a)) (F0 m 30 ls [])) {S : ST} {x1 : Int32} {x2 : Int32} {x3 : Int32} {s1 : Int32} {s2 : Int32} {H : Heap} {locs : List Loc} {ls : Array Slot} (w : Wd D (cM t a) (aW 17 a) (tyM t) X S s H locs) (hl : lv_has ls 5 [(0, .ref (a 0)), (1, .int x1), (2, .int x2), (3, .int x3)]) (hf : b_X5_note_160 N k30 S x1 x2 x3 s1 s2 = some S') : W p l e rmX5_note s m args below meth c H locs 0 0 (MQ below (Qv D (cM t a) (aW 17 a) (tyM t) S') args s 0 0 (aW 17 a)) (F0 m 160 ls [.int s2, .int s1, .ref (a 10)]) := by
  obtain ⟨⟨hx, hb, hml, hown, hts⟩, hr, hlk⟩ := id E
  unfold b_X5_note_160 at hf
  obtain ⟨h24, hf⟩ := it_n hf
  obtain ⟨S23, eS23, hf⟩ := nm_o hf
  refine w_ast (S1 := S23) E w 10 0 (cM_at_10 t a S) rfl h24 rfl ((cM_st_10 t a S s1.toNatClampNeg s2).trans (congrArg (cM t a) eS23.symm)) dX5_note_160 (fun H locs w => ?_)
  exact k_X5_note_161 hX E hk30 w (lv_sub hl [0, 1, 2, 3] rfl) hf
set_option maxHeartbeats 4000000 in
set_option maxRecDepth 100000 in
theorem k_X5_note_129 {p : Program} {l : Launch} {e : Env} {s : State} {m : MethodId} {args : Array Value} {below : List Frame} {meth : Method} {c : Code} {D : va_G} {t : Nat → ClassId} {a : Nat → Nat} {X : State → Prop} {N : Nat} {S' : ST} (hX : XOk (aW 17 a) X) (E : EN p s m args meth c cX5_note RX5 wsX5_note none 5) {k30 : ST → Int32 → Int32 → Int32 → Option ST} (hk30 : ∀ {S : ST} {x1 : Int32} {x2 : Int32} {x3 : Int32} {H : Heap} {locs : List Loc} {ls : Array Slot}, Wd D (cM t a) (aW 17 a) (tyM t) X S s H locs → lv_has ls 5 [(0, .ref (a 0)), (1, .int x1), (2, .int x2), (3, .int x3)] → k30 S x1 x2 x3 = some S' → W p l e rmX5_note s m args below meth c H locs 0 0 (MQ below (Qv D (cM t a) (aW 17 a) (tyM t) S') args s 0 0 (aW 17 a)) (F0 m 30 ls [])) {S : ST} {x1 : Int32} {x2 : Int32} {x3 : Int32} {H : Heap} {locs : List Loc} {ls : Array Slot} (w : Wd D (cM t a) (aW 17 a) (tyM t) X S s H locs) (hl : lv_has ls 5 [(0, .ref (a 0)), (1, .int x1), (2, .int x2), (3, .int x3)]) (hf : b_X5_note_129 N k30 S x1 x2 x3 = some S') : W p l e rmX5_note s m args below meth c H locs 0 0 (MQ below (Qv D (cM t a) (aW 17 a) (tyM t) S') args s 0 0 (aW 17 a)) (F0 m 129 ls []) := by
  obtain ⟨⟨hx, hb, hml, hown, hts⟩, hr, hlk⟩ := id E
  unfold b_X5_note_129 at hf
  refine lv_aload_n hx hb dX5_note_129 rfl (lv_at hl 0 rfl) ?_
  refine w_get E w in_X5_note_X5 0 (cM_at_0 t a S) rfl 20 (by decide) fl_X5_note_38 rfl rfl dX5_note_130 ?_
  refine lv_iload_n hx hb dX5_note_133 rfl (lv_at hl 3 rfl) ?_
  refine lv_aload_n hx hb dX5_note_134 rfl (lv_at hl 0 rfl) ?_
  refine w_get E w in_X5_note_X5 0 (cM_at_0 t a S) rfl 7 (by decide) fl_X5_note_131 rfl rfl dX5_note_135 ?_
  refine lv_aload_n hx hb dX5_note_138 rfl (lv_at hl 0 rfl) ?_
  refine w_get E w in_X5_note_X5 0 (cM_at_0 t a S) rfl 20 (by decide) fl_X5_note_38 rfl rfl dX5_note_139 ?_
  refine lv_iload_n hx hb dX5_note_142 rfl (lv_at hl 3 rfl) ?_
  obtain ⟨h20, hf⟩ := it_n hf
  refine w_ald E w 10 0 (cM_at_10 t a S) rfl h20 rfl dX5_note_143 ?_
  refine lv_icmp_ge (tgt := 154) hx hb dX5_note_144 (by decide) (fun h21 => ?_) (fun h21 => ?_)
  · replace hf := it_t h21 hf
    refine lv_aload_n hx hb dX5_note_154 rfl (lv_at hl 0 rfl) ?_
    refine w_get E w in_X5_note_X5 0 (cM_at_0 t a S) rfl 20 (by decide) fl_X5_note_38 rfl rfl dX5_note_155 ?_
    refine lv_iload_n hx hb dX5_note_158 rfl (lv_at hl 3 rfl) ?_
    obtain ⟨h22, hf⟩ := it_n hf
    refine w_ald E w 10 0 (cM_at_10 t a S) rfl h22 rfl dX5_note_159 ?_
    exact k_X5_note_160 hX E hk30 w (lv_sub hl [0, 1, 2, 3] rfl) hf
  · replace hf := it_f h21 hf
    refine lv_aload_n hx hb dX5_note_147 rfl (lv_at hl 0 rfl) ?_
    refine w_get E w in_X5_note_X5 0 (cM_at_0 t a S) rfl 7 (by decide) fl_X5_note_131 rfl rfl dX5_note_148 ?_
    refine lv_goto (tgt := 160) hx hb dX5_note_151 (by decide) ?_
    exact k_X5_note_160 hX E hk30 w (lv_sub hl [0, 1, 2, 3] rfl) hf
set_option maxHeartbeats 4000000 in
set_option maxRecDepth 100000 in
theorem k_X5_note_88 {p : Program} {l : Launch} {e : Env} {s : State} {m : MethodId} {args : Array Value} {below : List Frame} {meth : Method} {c : Code} {D : va_G} {t : Nat → ClassId} {a : Nat → Nat} {X : State → Prop} {N : Nat} {S' : ST} (hX : XOk (aW 17 a) X) (E : EN p s m args meth c cX5_note RX5 wsX5_note none 5) {k30 : ST → Int32 → Int32 → Int32 → Option ST} (hk30 : ∀ {S : ST} {x1 : Int32} {x2 : Int32} {x3 : Int32} {H : Heap} {locs : List Loc} {ls : Array Slot}, Wd D (cM t a) (aW 17 a) (tyM t) X S s H locs → lv_has ls 5 [(0, .ref (a 0)), (1, .int x1), (2, .int x2), (3, .int x3)] → k30 S x1 x2 x3 = some S' → W p l e rmX5_note s m args below meth c H locs 0 0 (MQ below (Qv D (cM t a) (aW 17 a) (tyM t) S') args s 0 0 (aW 17 a)) (F0 m 30 ls [])) {S : ST} {x1 : Int32} {x2 : Int32} {x3 : Int32} {s0 : Int32} {H : Heap} {locs : List Loc} {ls : Array Slot} (w : Wd D (cM t a) (aW 17 a) (tyM t) X S s H locs) (hl : lv_has ls 5 [(0, .ref (a 0)), (1, .int x1), (2, .int x2), (3, .int x3)]) (hf : b_X5_note_88 N k30 S x1 x2 x3 s0 = some S') : W p l e rmX5_note s m args below meth c H locs 0 0 (MQ below (Qv D (cM t a) (aW 17 a) (tyM t) S') args s 0 0 (aW 17 a)) (F0 m 88 ls [.int s0]) := by
  obtain ⟨⟨hx, hb, hml, hown, hts⟩, hr, hlk⟩ := id E
  unfold b_X5_note_88 at hf
  refine lv_istore (lv' := [(4, .int s0), (0, .ref (a 0)), (1, .int x1), (2, .int x2), (3, .int x3)]) hx hb dX5_note_88 hl (by decide) rfl (fun ls hl => ?_)
  refine lv_iload hx hb dX5_note_90 (lv_at hl 0 rfl) ?_
  refine lv_if_eq (tgt := 129) hx hb dX5_note_92 (by decide) (fun h11 => ?_) (fun h11 => ?_)
  · replace hf := it_t h11 hf
    exact k_X5_note_129 hX E hk30 w (lv_sub hl [1, 2, 3, 4] rfl) hf
  · replace hf := it_f h11 hf
    refine lv_aload_n hx hb dX5_note_95 rfl (lv_at hl 1 rfl) ?_
    refine w_get E w in_X5_note_X5 0 (cM_at_0 t a S) rfl 16 (by decide) fl_X5_note_26 rfl rfl dX5_note_96 ?_
    refine lv_iload_n hx hb dX5_note_99 rfl (lv_at hl 4 rfl) ?_
    refine lv_aload_n hx hb dX5_note_100 rfl (lv_at hl 1 rfl) ?_
    refine w_get E w in_X5_note_X5 0 (cM_at_0 t a S) rfl 6 (by decide) fl_X5_note_140 rfl rfl dX5_note_101 ?_
    obtain ⟨h13, hf⟩ := it_n hf
    obtain ⟨S12, eS12, hf⟩ := nm_o hf
    refine w_ast (S1 := S12) E w 6 0 (cM_at_6 t a S) rfl h13 rfl ((cM_st_6 t a S x3.toNatClampNeg (S 0 6)).trans (congrArg (cM t a) eS12.symm)) dX5_note_104 (fun H locs w => ?_)
    refine lv_aload_n hx hb dX5_note_105 rfl (lv_at hl 1 rfl) ?_
    refine w_get E w in_X5_note_X5 0 (cM_at_0 t a S12) rfl 17 (by decide) fl_X5_note_29 rfl rfl dX5_note_106 ?_
    refine lv_iload_n hx hb dX5_note_109 rfl (lv_at hl 4 rfl) ?_
    refine lv_iload_n hx hb dX5_note_110 rfl (lv_at hl 2 rfl) ?_
    obtain ⟨h15, hf⟩ := it_n hf
    obtain ⟨S14, eS14, hf⟩ := nm_o hf
    refine w_ast (S1 := S14) E w 7 0 (cM_at_7 t a S12) rfl h15 rfl ((cM_st_7 t a S12 x3.toNatClampNeg x1).trans (congrArg (cM t a) eS14.symm)) dX5_note_111 (fun H locs w => ?_)
    refine lv_aload_n hx hb dX5_note_112 rfl (lv_at hl 1 rfl) ?_
    refine w_get E w in_X5_note_X5 0 (cM_at_0 t a S14) rfl 18 (by decide) fl_X5_note_32 rfl rfl dX5_note_113 ?_
    refine lv_iload_n hx hb dX5_note_116 rfl (lv_at hl 4 rfl) ?_
    refine lv_aload_n hx hb dX5_note_117 rfl (lv_at hl 1 rfl) ?_
    refine w_get E w in_X5_note_X5 0 (cM_at_0 t a S14) rfl 7 (by decide) fl_X5_note_131 rfl rfl dX5_note_118 ?_
    obtain ⟨h17, hf⟩ := it_n hf
    obtain ⟨S16, eS16, hf⟩ := nm_o hf
    refine w_ast (S1 := S16) E w 8 0 (cM_at_8 t a S14) rfl h17 rfl ((cM_st_8 t a S14 x3.toNatClampNeg (S14 0 7)).trans (congrArg (cM t a) eS16.symm)) dX5_note_121 (fun H locs w => ?_)
    refine lv_aload_n hx hb dX5_note_122 rfl (lv_at hl 1 rfl) ?_
    refine w_get E w in_X5_note_X5 0 (cM_at_0 t a S16) rfl 19 (by decide) fl_X5_note_35 rfl rfl dX5_note_123 ?_
    refine lv_iload_n hx hb dX5_note_126 rfl (lv_at hl 4 rfl) ?_
    refine lv_iload_n hx hb dX5_note_127 rfl (lv_at hl 3 rfl) ?_
    obtain ⟨h19, hf⟩ := it_n hf
    obtain ⟨S18, eS18, hf⟩ := nm_o hf
    refine w_ast (S1 := S18) E w 9 0 (cM_at_9 t a S16) rfl h19 rfl ((cM_st_9 t a S16 x3.toNatClampNeg x2).trans (congrArg (cM t a) eS18.symm)) dX5_note_128 (fun H locs w => ?_)
    exact k_X5_note_129 hX E hk30 w (lv_sub hl [1, 2, 3, 4] rfl) hf
set_option maxHeartbeats 4000000 in
set_option maxRecDepth 100000 in
theorem k_X5_note_87 {p : Program} {l : Launch} {e : Env} {s : State} {m : MethodId} {args : Array Value} {below : List Frame} {meth : Method} {c : Code} {D : va_G} {t : Nat → ClassId} {a : Nat → Nat} {X : State → Prop} {N : Nat} {S' : ST} (hX : XOk (aW 17 a) X) (E : EN p s m args meth c cX5_note RX5 wsX5_note none 5) {k30 : ST → Int32 → Int32 → Int32 → Option ST} (hk30 : ∀ {S : ST} {x1 : Int32} {x2 : Int32} {x3 : Int32} {H : Heap} {locs : List Loc} {ls : Array Slot}, Wd D (cM t a) (aW 17 a) (tyM t) X S s H locs → lv_has ls 5 [(0, .ref (a 0)), (1, .int x1), (2, .int x2), (3, .int x3)] → k30 S x1 x2 x3 = some S' → W p l e rmX5_note s m args below meth c H locs 0 0 (MQ below (Qv D (cM t a) (aW 17 a) (tyM t) S') args s 0 0 (aW 17 a)) (F0 m 30 ls [])) {S : ST} {x1 : Int32} {x2 : Int32} {x3 : Int32} {H : Heap} {locs : List Loc} {ls : Array Slot} (w : Wd D (cM t a) (aW 17 a) (tyM t) X S s H locs) (hl : lv_has ls 5 [(0, .ref (a 0)), (1, .int x1), (2, .int x2), (3, .int x3)]) (hf : b_X5_note_87 N k30 S x1 x2 x3 = some S') : W p l e rmX5_note s m args below meth c H locs 0 0 (MQ below (Qv D (cM t a) (aW 17 a) (tyM t) S') args s 0 0 (aW 17 a)) (F0 m 87 ls []) := by
  obtain ⟨⟨hx, hb, hml, hown, hts⟩, hr, hlk⟩ := id E
  unfold b_X5_note_87 at hf
  refine lv_iconst (v := 0) hx hb dX5_note_87 (by decide) ?_
  exact k_X5_note_88 hX E hk30 w (lv_sub hl [0, 1, 2, 3] rfl) hf
set_option maxHeartbeats 4000000 in
set_option maxRecDepth 100000 in
theorem k_X5_note_83 {p : Program} {l : Launch} {e : Env} {s : State} {m : MethodId} {args : Array Value} {below : List Frame} {meth : Method} {c : Code} {D : va_G} {t : Nat → ClassId} {a : Nat → Nat} {X : State → Prop} {N : Nat} {S' : ST} (hX : XOk (aW 17 a) X) (E : EN p s m args meth c cX5_note RX5 wsX5_note none 5) {k30 : ST → Int32 → Int32 → Int32 → Option ST} (hk30 : ∀ {S : ST} {x1 : Int32} {x2 : Int32} {x3 : Int32} {H : Heap} {locs : List Loc} {ls : Array Slot}, Wd D (cM t a) (aW 17 a) (tyM t) X S s H locs → lv_has ls 5 [(0, .ref (a 0)), (1, .int x1), (2, .int x2), (3, .int x3)] → k30 S x1 x2 x3 = some S' → W p l e rmX5_note s m args below meth c H locs 0 0 (MQ below (Qv D (cM t a) (aW 17 a) (tyM t) S') args s 0 0 (aW 17 a)) (F0 m 30 ls [])) {S : ST} {x1 : Int32} {x2 : Int32} {x3 : Int32} {H : Heap} {locs : List Loc} {ls : Array Slot} (w : Wd D (cM t a) (aW 17 a) (tyM t) X S s H locs) (hl : lv_has ls 5 [(0, .ref (a 0)), (1, .int x1), (2, .int x2), (3, .int x3)]) (hf : b_X5_note_83 N k30 S x1 x2 x3 = some S') : W p l e rmX5_note s m args below meth c H locs 0 0 (MQ below (Qv D (cM t a) (aW 17 a) (tyM t) S') args s 0 0 (aW 17 a)) (F0 m 83 ls []) := by
  obtain ⟨⟨hx, hb, hml, hown, hts⟩, hr, hlk⟩ := id E
  unfold b_X5_note_83 at hf
  refine lv_iconst (v := 1) hx hb dX5_note_83 (by decide) ?_
  refine lv_goto (tgt := 88) hx hb dX5_note_84 (by decide) ?_
  exact k_X5_note_88 hX E hk30 w (lv_sub hl [0, 1, 2, 3] rfl) hf
set_option maxHeartbeats 4000000 in
set_option maxRecDepth 100000 in
theorem k_X5_note_30 {p : Program} {l : Launch} {e : Env} {s : State} {m : MethodId} {args : Array Value} {below : List Frame} {meth : Method} {c : Code} {D : va_G} {t : Nat → ClassId} {a : Nat → Nat} {X : State → Prop} {N : Nat} {S' : ST} (hX : XOk (aW 17 a) X) (E : EN p s m args meth c cX5_note RX5 wsX5_note none 5) : ∀ (n : Nat) {S : ST} {x1 : Int32} {x2 : Int32} {x3 : Int32} {H : Heap} {locs : List Loc} {ls : Array Slot}, Wd D (cM t a) (aW 17 a) (tyM t) X S s H locs → lv_has ls 5 [(0, .ref (a 0)), (1, .int x1), (2, .int x2), (3, .int x3)] → b_X5_note_30 N n S x1 x2 x3 = some S' → W p l e rmX5_note s m args below meth c H locs 0 0 (MQ below (Qv D (cM t a) (aW 17 a) (tyM t) S') args s 0 0 (aW 17 a)) (F0 m 30 ls []) := by
  obtain ⟨⟨hx, hb, hml, hown, hts⟩, hr, hlk⟩ := id E
  intro n
  induction n with
  | zero => intro S x1 x2 x3 H locs ls w hl hf; cases hf
  | succ n ih =>
    intro S x1 x2 x3 H locs ls w hl hf
    unfold b_X5_note_30 at hf
    refine lv_iload_n hx hb dX5_note_30 rfl (lv_at hl 3 rfl) ?_
    refine lv_bipush (v := 64) hx hb dX5_note_31 (by decide) ?_
    refine lv_icmp_ge (tgt := 167) hx hb dX5_note_33 (by decide) (fun h3 => ?_) (fun h3 => ?_)
    · replace hf := it_t h3 hf
      exact w_retv E w hf dX5_note_167
    · replace hf := it_f h3 hf
      refine lv_iload_n hx hb dX5_note_36 rfl (lv_at hl 3 rfl) ?_
      refine lv_aload_n hx hb dX5_note_37 rfl (lv_at hl 0 rfl) ?_
      refine w_get E w in_X5_note_X5 0 (cM_at_0 t a S) rfl 5 (by decide) fl_X5_note_128 rfl rfl dX5_note_38 ?_
      refine lv_iconst (v := (-1)) hx hb dX5_note_41 (by decide) ?_
      refine lv_ixor hx hb dX5_note_42 ?_
      refine lv_iand hx hb dX5_note_43 ?_
      refine lv_if_ne (tgt := 161) hx hb dX5_note_44 (by decide) (fun h4 => ?_) (fun h4 => ?_)
      · replace hf := it_f h4 hf
        exact k_X5_note_161 hX E (fun w hl hf => ih w hl hf) w (lv_sub hl [0, 1, 2, 3] rfl) hf
      · replace hf := it_t h4 hf
        refine lv_aload_n hx hb dX5_note_47 rfl (lv_at hl 0 rfl) ?_
        refine w_get E w in_X5_note_X5 0 (cM_at_0 t a S) rfl 6 (by decide) fl_X5_note_140 rfl rfl dX5_note_48 ?_
        refine lv_aload_n hx hb dX5_note_51 rfl (lv_at hl 0 rfl) ?_
        refine w_get E w in_X5_note_X5 0 (cM_at_0 t a S) rfl 16 (by decide) fl_X5_note_26 rfl rfl dX5_note_52 ?_
        refine lv_iload_n hx hb dX5_note_55 rfl (lv_at hl 3 rfl) ?_
        obtain ⟨h5, hf⟩ := it_n hf
        refine w_ald E w 6 0 (cM_at_6 t a S) rfl h5 rfl dX5_note_56 ?_
        refine lv_icmp_lt (tgt := 83) hx hb dX5_note_57 (by decide) (fun h6 => ?_) (fun h6 => ?_)
        · replace hf := it_t h6 hf
          exact k_X5_note_83 hX E (fun w hl hf => ih w hl hf) w (lv_sub hl [0, 1, 2, 3] rfl) hf
        · replace hf := it_f h6 hf
          refine lv_aload_n hx hb dX5_note_60 rfl (lv_at hl 0 rfl) ?_
          refine w_get E w in_X5_note_X5 0 (cM_at_0 t a S) rfl 6 (by decide) fl_X5_note_140 rfl rfl dX5_note_61 ?_
          refine lv_aload_n hx hb dX5_note_64 rfl (lv_at hl 0 rfl) ?_
          refine w_get E w in_X5_note_X5 0 (cM_at_0 t a S) rfl 16 (by decide) fl_X5_note_26 rfl rfl dX5_note_65 ?_
          refine lv_iload_n hx hb dX5_note_68 rfl (lv_at hl 3 rfl) ?_
          obtain ⟨h7, hf⟩ := it_n hf
          refine w_ald E w 6 0 (cM_at_6 t a S) rfl h7 rfl dX5_note_69 ?_
          refine lv_icmp_ne (tgt := 87) hx hb dX5_note_70 (by decide) (fun h8 => ?_) (fun h8 => ?_)
          · replace hf := it_f h8 hf
            exact k_X5_note_87 hX E (fun w hl hf => ih w hl hf) w (lv_sub hl [0, 1, 2, 3] rfl) hf
          · replace hf := it_t h8 hf
            refine lv_iload_n hx hb dX5_note_73 rfl (lv_at hl 1 rfl) ?_
            refine lv_aload_n hx hb dX5_note_74 rfl (lv_at hl 0 rfl) ?_
            refine w_get E w in_X5_note_X5 0 (cM_at_0 t a S) rfl 17 (by decide) fl_X5_note_29 rfl rfl dX5_note_75 ?_
            refine lv_iload_n hx hb dX5_note_78 rfl (lv_at hl 3 rfl) ?_
            obtain ⟨h9, hf⟩ := it_n hf
            refine w_ald E w 7 0 (cM_at_7 t a S) rfl h9 rfl dX5_note_79 ?_
            refine lv_icmp_ge (tgt := 87) hx hb dX5_note_80 (by decide) (fun h10 => ?_) (fun h10 => ?_)
            · replace hf := it_t h10 hf
              exact k_X5_note_87 hX E (fun w hl hf => ih w hl hf) w (lv_sub hl [0, 1, 2, 3] rfl) hf
            · replace hf := it_f h10 hf
              exact k_X5_note_83 hX E (fun w hl hf => ih w hl hf) w (lv_sub hl [0, 1, 2, 3] rfl) hf
set_option maxHeartbeats 4000000 in
set_option maxRecDepth 100000 in
theorem k_X5_note_6 {p : Program} {l : Launch} {e : Env} {s : State} {m : MethodId} {args : Array Value} {below : List Frame} {meth : Method} {c : Code} {D : va_G} {t : Nat → ClassId} {a : Nat → Nat} {X : State → Prop} {N : Nat} {S' : ST} (hX : XOk (aW 17 a) X) (E : EN p s m args meth c cX5_note RX5 wsX5_note none 5) : ∀ (n : Nat) {S : ST} {x1 : Int32} {x2 : Int32} {x3 : Int32} {H : Heap} {locs : List Loc} {ls : Array Slot}, Wd D (cM t a) (aW 17 a) (tyM t) X S s H locs → lv_has ls 5 [(0, .ref (a 0)), (1, .int x1), (2, .int x2), (3, .int x3)] → b_X5_note_6 N n S x1 x2 x3 = some S' → W p l e rmX5_note s m args below meth c H locs 0 0 (MQ below (Qv D (cM t a) (aW 17 a) (tyM t) S') args s 0 0 (aW 17 a)) (F0 m 6 ls []) := by
  obtain ⟨⟨hx, hb, hml, hown, hts⟩, hr, hlk⟩ := id E
  intro n
  induction n with
  | zero => intro S x1 x2 x3 H locs ls w hl hf; cases hf
  | succ n ih =>
    intro S x1 x2 x3 H locs ls w hl hf
    unfold b_X5_note_6 at hf
    refine lv_iload_n hx hb dX5_note_6 rfl (lv_at hl 3 rfl) ?_
    refine lv_if_lt (tgt := 28) hx hb dX5_note_7 (by decide) (fun h1 => ?_) (fun h1 => ?_)
    · replace hf := it_t h1 hf
      refine lv_iconst (v := 1) hx hb dX5_note_28 (by decide) ?_
      refine lv_istore_n (lv' := [(3, .int 1), (0, .ref (a 0)), (1, .int x1), (2, .int x2)]) hx hb dX5_note_29 rfl hl (by decide) rfl (fun ls hl => ?_)
      exact k_X5_note_30 hX E N w (lv_sub hl [1, 2, 3, 0] rfl) hf
    · replace hf := it_f h1 hf
      refine lv_bipush (v := 8) hx hb dX5_note_10 (by decide) ?_
      refine lv_iload_n hx hb dX5_note_12 rfl (lv_at hl 2 rfl) ?_
      refine lv_imul hx hb dX5_note_13 ?_
      refine lv_aload_n hx hb dX5_note_14 rfl (lv_at hl 0 rfl) ?_
      refine w_get E w in_X5_note_X5 0 (cM_at_0 t a S) rfl 21 (by decide) fl_X5_note_41 rfl rfl dX5_note_15 ?_
      refine lv_iload_n hx hb dX5_note_18 rfl (lv_at hl 3 rfl) ?_
      obtain ⟨h2, hf⟩ := it_n hf
      refine w_ald E w 11 0 (cM_at_11 t a S) rfl h2 rfl dX5_note_19 ?_
      refine lv_iadd hx hb dX5_note_20 ?_
      refine lv_istore_n (lv' := [(2, .int ((8 * x2) + (S 11 x3.toNatClampNeg))), (0, .ref (a 0)), (1, .int x1), (3, .int x3)]) hx hb dX5_note_21 rfl hl (by decide) rfl (fun ls hl => ?_)
      refine lv_iinc (v := x3 + (-1)) (lv' := [(3, .int (x3 + (-1))), (2, .int ((8 * x2) + (S 11 x3.toNatClampNeg))), (0, .ref (a 0)), (1, .int x1)]) hx hb dX5_note_22 hl (k := 3) rfl rfl (by decide) rfl (fun ls hl => ?_)
      refine lv_goto (tgt := 6) hx hb dX5_note_25 (by decide) ?_
      exact ih w (lv_sub hl [2, 3, 1, 0] rfl) hf
set_option maxHeartbeats 4000000 in
set_option maxRecDepth 100000 in
theorem k_X5_note_E {p : Program} {l : Launch} {e : Env} {s : State} {m : MethodId} {args : Array Value} {below : List Frame} {meth : Method} {c : Code} {D : va_G} {t : Nat → ClassId} {a : Nat → Nat} {X : State → Prop} {N : Nat} {S' : ST} (hX : XOk (aW 17 a) X) (E : EN p s m args meth c cX5_note RX5 wsX5_note none 5) {S : ST} {x1 : Int32} {H : Heap} {locs : List Loc} {ls : Array Slot} (w : Wd D (cM t a) (aW 17 a) (tyM t) X S s H locs) (hl : lv_has ls 5 [(0, .ref (a 0)), (1, .int x1)]) (hf : f_X5_note N S x1 = some S') : W p l e rmX5_note s m args below meth c H locs 0 0 (MQ below (Qv D (cM t a) (aW 17 a) (tyM t) S') args s 0 0 (aW 17 a)) (F0 m 0 ls []) := by
  obtain ⟨⟨hx, hb, hml, hown, hts⟩, hr, hlk⟩ := id E
  unfold f_X5_note at hf
  refine lv_iconst (v := 0) hx hb dX5_note_0 (by decide) ?_
  refine lv_istore_n (lv' := [(2, .int 0), (0, .ref (a 0)), (1, .int x1)]) hx hb dX5_note_1 rfl hl (by decide) rfl (fun ls hl => ?_)
  refine lv_iload_n hx hb dX5_note_2 rfl (lv_at hl 2 rfl) ?_
  refine lv_iconst (v := 1) hx hb dX5_note_3 (by decide) ?_
  refine lv_isub hx hb dX5_note_4 ?_
  refine lv_istore_n (lv' := [(3, .int (x1 - 1)), (2, .int 0), (0, .ref (a 0)), (1, .int x1)]) hx hb dX5_note_5 rfl hl (by decide) rfl (fun ls hl => ?_)
  exact k_X5_note_6 hX E N w (lv_sub hl [2, 3, 1, 0] rfl) hf
theorem c_X5_note (l : Launch) {D : va_G} {t : Nat → ClassId} {a : Nat → Nat} {X : State → Prop} (hX : XOk (aW 17 a) X) {N : Nat} {S : ST} {x1 : Int32} {S' : ST} (hf : f_X5_note N S x1 = some S') : Co l yX5_note wsX5_note rmX5_note D (cM t a) (aW 17 a) (tyM t) X [.ref (a 0), .int x1] S (Qv D (cM t a) (aW 17 a) (tyM t) S') :=
  co_of (cc := cX5_note) (maxL := 5) (ret := none) (lv := [(0, .ref (a 0)), (1, .int x1)]) (by decide) rfl rfl (Nat.le_of_ble_eq_true rfl) rfl rfl (fun p e s m below meth c ls E hl w => k_X5_note_E hX E w hl hf)
-- X5_goAll
theorem hd_X5_keepState : yX5_keepState.cls = RX5 ∧ yX5_keepState.cls ≠ "java/lang/invoke/MethodHandle" ∧ yX5_keepState.cls ≠ "java/lang/invoke/VarHandle" ∧ (parseMethodDescriptor yX5_keepState.desc).map (fun d => d.parameters.length) = some 1 := by decide +kernel
theorem in_X5_goAll_X5 : ∀ w ∈ u_ws RX5 TX5 28, w ∈ wsX5_goAll := by decide +kernel
theorem fl_X5_goAll_41 : Cond.fieldLink RX5 41 "NextDoorModel" "path" "[I" ∈ wsX5_goAll := by decide +kernel
theorem ct_X5_goAll_226 : Cond.constant RX5 226 1000000 ∈ wsX5_goAll := by decide +kernel
theorem fl_X5_goAll_26 : Cond.fieldLink RX5 26 "NextDoorModel" "bestPaid" "[I" ∈ wsX5_goAll := by decide +kernel
theorem fl_X5_goAll_29 : Cond.fieldLink RX5 29 "NextDoorModel" "bestMany" "[I" ∈ wsX5_goAll := by decide +kernel
theorem fl_X5_goAll_32 : Cond.fieldLink RX5 32 "NextDoorModel" "bestMinute" "[I" ∈ wsX5_goAll := by decide +kernel
theorem fl_X5_goAll_35 : Cond.fieldLink RX5 35 "NextDoorModel" "bestRow" "[I" ∈ wsX5_goAll := by decide +kernel
theorem fl_X5_goAll_38 : Cond.fieldLink RX5 38 "NextDoorModel" "soonMinute" "[I" ∈ wsX5_goAll := by decide +kernel
theorem hd_X5_backTo : yX5_backTo.cls = RX5 ∧ yX5_backTo.cls ≠ "java/lang/invoke/MethodHandle" ∧ yX5_backTo.cls ≠ "java/lang/invoke/VarHandle" ∧ (parseMethodDescriptor yX5_backTo.desc).map (fun d => d.parameters.length) = some 1 := by decide +kernel
theorem hd_X5_note : yX5_note.cls = RX5 ∧ yX5_note.cls ≠ "java/lang/invoke/MethodHandle" ∧ yX5_note.cls ≠ "java/lang/invoke/VarHandle" ∧ (parseMethodDescriptor yX5_note.desc).map (fun d => d.parameters.length) = some 1 := by decide +kernel
abbrev rmX5_goAll : Room := { frames := 5, cells := 0, slots := 0, locals := 112 }
set_option maxHeartbeats 4000000 in
set_option maxRecDepth 100000 in
theorem k_X5_goAll_154 {p : Program} {l : Launch} {e : Env} {s : State} {m : MethodId} {args : Array Value} {below : List Frame} {meth : Method} {c : Code} {D : va_G} {t : Nat → ClassId} {a : Nat → Nat} {X : State → Prop} {N : Nat} {S' : ST} (hX : XOk (aW 17 a) X) (E : EN p s m args meth c cX5_goAll RX5 wsX5_goAll none 4) {k78 : ST → Int32 → Int32 → Option ST} (hk78 : ∀ {S : ST} {x1 : Int32} {x2 : Int32} {H : Heap} {locs : List Loc} {ls : Array Slot}, Wd D (cM t a) (aW 17 a) (tyM t) X S s H locs → lv_has ls 4 [(0, .ref (a 0)), (1, .int x1), (2, .int x2)] → k78 S x1 x2 = some S' → W p l e rmX5_goAll s m args below meth c H locs 0 0 (MQ below (Qv D (cM t a) (aW 17 a) (tyM t) S') args s 0 0 (aW 17 a)) (F0 m 78 ls [])) {S : ST} {x1 : Int32} {x2 : Int32} {H : Heap} {locs : List Loc} {ls : Array Slot} (w : Wd D (cM t a) (aW 17 a) (tyM t) X S s H locs) (hl : lv_has ls 4 [(0, .ref (a 0)), (1, .int x1), (2, .int x2)]) (hf : b_X5_goAll_154 N k78 S x1 x2 = some S') : W p l e rmX5_goAll s m args below meth c H locs 0 0 (MQ below (Qv D (cM t a) (aW 17 a) (tyM t) S') args s 0 0 (aW 17 a)) (F0 m 154 ls []) := by
  obtain ⟨⟨hx, hb, hml, hown, hts⟩, hr, hlk⟩ := id E
  unfold b_X5_goAll_154 at hf
  refine lv_goto (tgt := 78) hx hb dX5_goAll_154 (by decide) ?_
  exact hk78 w (lv_sub hl [0, 1, 2] rfl) hf
set_option maxHeartbeats 4000000 in
set_option maxRecDepth 100000 in
theorem k_X5_goAll_78 {p : Program} {l : Launch} {e : Env} {s : State} {m : MethodId} {args : Array Value} {below : List Frame} {meth : Method} {c : Code} {D : va_G} {t : Nat → ClassId} {a : Nat → Nat} {X : State → Prop} {N : Nat} {S' : ST} (hX : XOk (aW 17 a) X) (E : EN p s m args meth c cX5_goAll RX5 wsX5_goAll none 4) : ∀ (n : Nat) {S : ST} {x1 : Int32} {x2 : Int32} {H : Heap} {locs : List Loc} {ls : Array Slot}, Wd D (cM t a) (aW 17 a) (tyM t) X S s H locs → lv_has ls 4 [(0, .ref (a 0)), (1, .int x1), (2, .int x2)] → b_X5_goAll_78 N n S x1 x2 = some S' → W p l e rmX5_goAll s m args below meth c H locs 0 0 (MQ below (Qv D (cM t a) (aW 17 a) (tyM t) S') args s 0 0 (aW 17 a)) (F0 m 78 ls []) := by
  obtain ⟨⟨hx, hb, hml, hown, hts⟩, hr, hlk⟩ := id E
  intro n
  induction n with
  | zero => intro S x1 x2 H locs ls w hl hf; cases hf
  | succ n ih =>
    intro S x1 x2 H locs ls w hl hf
    unfold b_X5_goAll_78 at hf
    refine lv_iload_n hx hb dX5_goAll_78 rfl (lv_at hl 2 rfl) ?_
    refine lv_if_lt (tgt := 157) hx hb dX5_goAll_79 (by decide) (fun h18 => ?_) (fun h18 => ?_)
    · replace hf := it_t h18 hf
      exact w_retv E w hf dX5_goAll_157
    · replace hf := it_f h18 hf
      refine lv_aload_n hx hb dX5_goAll_82 rfl (lv_at hl 0 rfl) ?_
      refine w_get E w in_X5_goAll_X5 0 (cM_at_0 t a S) rfl 21 (by decide) fl_X5_goAll_41 rfl rfl dX5_goAll_83 ?_
      refine lv_iload_n hx hb dX5_goAll_86 rfl (lv_at hl 2 rfl) ?_
      refine lv_dup2_11 hx hb dX5_goAll_87 rfl rfl ?_
      obtain ⟨h19, hf⟩ := it_n hf
      refine w_ald E w 11 0 (cM_at_11 t a S) rfl h19 rfl dX5_goAll_88 ?_
      refine lv_iconst (v := 1) hx hb dX5_goAll_89 (by decide) ?_
      refine lv_iadd hx hb dX5_goAll_90 ?_
      obtain ⟨h21, hf⟩ := it_n hf
      obtain ⟨S20, eS20, hf⟩ := nm_o hf
      refine w_ast (S1 := S20) E w 11 0 (cM_at_11 t a S) rfl h21 rfl ((cM_st_11 t a S x2.toNatClampNeg ((S 11 x2.toNatClampNeg) + 1)).trans (congrArg (cM t a) eS20.symm)) dX5_goAll_91 (fun H locs w => ?_)
      refine lv_aload_n hx hb dX5_goAll_92 rfl (lv_at hl 0 rfl) ?_
      refine w_get E w in_X5_goAll_X5 0 (cM_at_0 t a S20) rfl 21 (by decide) fl_X5_goAll_41 rfl rfl dX5_goAll_93 ?_
      refine lv_iload_n hx hb dX5_goAll_96 rfl (lv_at hl 2 rfl) ?_
      obtain ⟨h22, hf⟩ := it_n hf
      refine w_ald E w 11 0 (cM_at_11 t a S20) rfl h22 rfl dX5_goAll_97 ?_
      refine lv_istore_n (lv' := [(3, .int (S20 11 x2.toNatClampNeg)), (0, .ref (a 0)), (1, .int x1), (2, .int x2)]) hx hb dX5_goAll_98 rfl hl (by decide) rfl (fun ls hl => ?_)
      refine lv_aload_n hx hb dX5_goAll_99 rfl (lv_at hl 1 rfl) ?_
      refine lv_iload_n hx hb dX5_goAll_100 rfl (lv_at hl 3 rfl) ?_
      obtain ⟨S24, h23, hf⟩ := bd1_o hf
      refine w_callVv (As := [.int x2]) (rest := []) hX E w (c_X5_backTo l hX h23) (cwV 1 hts gX5_goAll_X5_backTo rfl rfl rfl hd_X5_backTo ⟨Nat.le_of_ble_eq_true rfl, Nat.le_of_ble_eq_true rfl⟩) (ci := 5) rfl (cM_at_0 t a S20) rfl hl.1 rfl (Nat.le_of_ble_eq_true rfl) dX5_goAll_101 ⟨Nat.le_refl _, Nat.le_refl _⟩ (fun H locs w => ?_)
      refine lv_iload_n hx hb dX5_goAll_104 rfl (lv_at hl 0 rfl) ?_
      refine lv_aload_n hx hb dX5_goAll_105 rfl (lv_at hl 1 rfl) ?_
      obtain ⟨r27, S26, h25, hf⟩ := bd2_o hf
      refine w_callVi (As := []) (rest := [.int (S20 11 x2.toNatClampNeg)]) hX E w (c_X5_shops l hX h25) (cwV 0 hts gX5_goAll_X5_shops rfl rfl rfl hd_X5_shops ⟨Nat.le_of_ble_eq_true rfl, Nat.le_of_ble_eq_true rfl⟩) (ci := 5) rfl (cM_at_0 t a S24) rfl hl.1 rfl (Nat.le_of_ble_eq_true rfl) dX5_goAll_106 ⟨Nat.le_refl _, Nat.le_refl _⟩ (fun H locs w => ?_)
      refine lv_icmp_lt (tgt := 118) hx hb dX5_goAll_109 (by decide) (fun h28 => ?_) (fun h28 => ?_)
      · replace hf := it_t h28 hf
        refine lv_aload_n hx hb dX5_goAll_118 rfl (lv_at hl 1 rfl) ?_
        refine lv_iload_n hx hb dX5_goAll_119 rfl (lv_at hl 0 rfl) ?_
        refine lv_iload_n hx hb dX5_goAll_120 rfl (lv_at hl 2 rfl) ?_
        obtain ⟨r31, S30, h29, hf⟩ := bd2_o hf
        refine w_callVi (As := [.int (S20 11 x2.toNatClampNeg), .int x1]) (rest := []) hX E w (c_X5_whyNot l hX h29) (cwV 2 hts gX5_goAll_X5_whyNot rfl rfl rfl hd_X5_whyNot ⟨Nat.le_of_ble_eq_true rfl, Nat.le_of_ble_eq_true rfl⟩) (ci := 5) rfl (cM_at_0 t a S26) rfl hl.1 rfl (Nat.le_of_ble_eq_true rfl) dX5_goAll_121 ⟨Nat.le_refl _, Nat.le_refl _⟩ (fun H locs w => ?_)
        refine lv_if_ne (tgt := 154) hx hb dX5_goAll_124 (by decide) (fun h32 => ?_) (fun h32 => ?_)
        · replace hf := it_f h32 hf
          exact k_X5_goAll_154 hX E (fun w hl hf => ih w hl hf) w (lv_sub hl [1, 2, 3] rfl) hf
        · replace hf := it_t h32 hf
          refine lv_aload_n hx hb dX5_goAll_127 rfl (lv_at hl 1 rfl) ?_
          refine lv_iload_n hx hb dX5_goAll_128 rfl (lv_at hl 0 rfl) ?_
          obtain ⟨S34, h33, hf⟩ := bd1_o hf
          refine w_callVv (As := [.int (S20 11 x2.toNatClampNeg)]) (rest := []) hX E w (c_X5_buy l hX h33) (cwV 1 hts gX5_goAll_X5_buy rfl rfl rfl hd_X5_buy ⟨Nat.le_of_ble_eq_true rfl, Nat.le_of_ble_eq_true rfl⟩) (ci := 5) rfl (cM_at_0 t a S30) rfl hl.1 rfl (Nat.le_of_ble_eq_true rfl) dX5_goAll_129 ⟨Nat.le_refl _, Nat.le_refl _⟩ (fun H locs w => ?_)
          refine lv_aload_n hx hb dX5_goAll_132 rfl (lv_at hl 1 rfl) ?_
          refine lv_iload_n hx hb dX5_goAll_133 rfl (lv_at hl 3 rfl) ?_
          refine lv_iconst (v := 1) hx hb dX5_goAll_134 (by decide) ?_
          refine lv_iadd hx hb dX5_goAll_135 ?_
          obtain ⟨S36, h35, hf⟩ := bd1_o hf
          refine w_callVv (As := [.int (x2 + 1)]) (rest := []) hX E w (c_X5_note l hX h35) (cwV 1 hts gX5_goAll_X5_note rfl rfl rfl hd_X5_note ⟨Nat.le_of_ble_eq_true rfl, Nat.le_of_ble_eq_true rfl⟩) (ci := 5) rfl (cM_at_0 t a S34) rfl hl.1 rfl (Nat.le_of_ble_eq_true rfl) dX5_goAll_136 ⟨Nat.le_refl _, Nat.le_refl _⟩ (fun H locs w => ?_)
          refine lv_iinc (v := x2 + 1) (lv' := [(2, .int (x2 + 1)), (3, .int (S20 11 x2.toNatClampNeg)), (0, .ref (a 0)), (1, .int x1)]) hx hb dX5_goAll_139 hl (k := 3) rfl rfl (by decide) rfl (fun ls hl => ?_)
          refine lv_aload_n hx hb dX5_goAll_142 rfl (lv_at hl 2 rfl) ?_
          refine lv_iload_n hx hb dX5_goAll_143 rfl (lv_at hl 0 rfl) ?_
          obtain ⟨S38, h37, hf⟩ := bd1_o hf
          refine w_callVv (As := [.int (x2 + 1)]) (rest := []) hX E w (c_X5_keepState l hX h37) (cwV 1 hts gX5_goAll_X5_keepState rfl rfl rfl hd_X5_keepState ⟨Nat.le_of_ble_eq_true rfl, Nat.le_of_ble_eq_true rfl⟩) (ci := 5) rfl (cM_at_0 t a S36) rfl hl.1 rfl (Nat.le_of_ble_eq_true rfl) dX5_goAll_144 ⟨Nat.le_refl _, Nat.le_refl _⟩ (fun H locs w => ?_)
          refine lv_aload_n hx hb dX5_goAll_147 rfl (lv_at hl 2 rfl) ?_
          refine w_get E w in_X5_goAll_X5 0 (cM_at_0 t a S38) rfl 21 (by decide) fl_X5_goAll_41 rfl rfl dX5_goAll_148 ?_
          refine lv_iload_n hx hb dX5_goAll_151 rfl (lv_at hl 0 rfl) ?_
          refine lv_iconst (v := (-1)) hx hb dX5_goAll_152 (by decide) ?_
          obtain ⟨h40, hf⟩ := it_n hf
          obtain ⟨S39, eS39, hf⟩ := nm_o hf
          refine w_ast (S1 := S39) E w 11 0 (cM_at_11 t a S38) rfl h40 rfl ((cM_st_11 t a S38 ((x2 + 1).toNatClampNeg) (-1)).trans (congrArg (cM t a) eS39.symm)) dX5_goAll_153 (fun H locs w => ?_)
          exact k_X5_goAll_154 hX E (fun w hl hf => ih w hl hf) w (lv_sub hl [2, 3, 0] rfl) hf
      · replace hf := it_f h28 hf
        refine lv_iinc (v := x2 + (-1)) (lv' := [(2, .int (x2 + (-1))), (3, .int (S20 11 x2.toNatClampNeg)), (0, .ref (a 0)), (1, .int x1)]) hx hb dX5_goAll_112 hl (k := 3) rfl rfl (by decide) rfl (fun ls hl => ?_)
        refine lv_goto (tgt := 154) hx hb dX5_goAll_115 (by decide) ?_
        exact k_X5_goAll_154 hX E (fun w hl hf => ih w hl hf) w (lv_sub hl [2, 3, 0] rfl) hf
set_option maxHeartbeats 4000000 in
set_option maxRecDepth 100000 in
theorem k_X5_goAll_18 {p : Program} {l : Launch} {e : Env} {s : State} {m : MethodId} {args : Array Value} {below : List Frame} {meth : Method} {c : Code} {D : va_G} {t : Nat → ClassId} {a : Nat → Nat} {X : State → Prop} {N : Nat} {S' : ST} (hX : XOk (aW 17 a) X) (E : EN p s m args meth c cX5_goAll RX5 wsX5_goAll none 4) {k2 : ST → Int32 → Int32 → Option ST} (hk2 : ∀ {S : ST} {x1 : Int32} {x2 : Int32} {H : Heap} {locs : List Loc} {ls : Array Slot}, Wd D (cM t a) (aW 17 a) (tyM t) X S s H locs → lv_has ls 4 [(0, .ref (a 0)), (1, .int x1), (2, .int x2)] → k2 S x1 x2 = some S' → W p l e rmX5_goAll s m args below meth c H locs 0 0 (MQ below (Qv D (cM t a) (aW 17 a) (tyM t) S') args s 0 0 (aW 17 a)) (F0 m 2 ls [])) {S : ST} {x1 : Int32} {x2 : Int32} {s0 : Int32} {H : Heap} {locs : List Loc} {ls : Array Slot} (w : Wd D (cM t a) (aW 17 a) (tyM t) X S s H locs) (hl : lv_has ls 4 [(0, .ref (a 0)), (1, .int x1), (2, .int x2)]) (hf : b_X5_goAll_18 N k2 S x1 x2 s0 = some S') : W p l e rmX5_goAll s m args below meth c H locs 0 0 (MQ below (Qv D (cM t a) (aW 17 a) (tyM t) S') args s 0 0 (aW 17 a)) (F0 m 18 ls [.int s0]) := by
  obtain ⟨⟨hx, hb, hml, hown, hts⟩, hr, hlk⟩ := id E
  unfold b_X5_goAll_18 at hf
  refine lv_istore_n (lv' := [(3, .int s0), (0, .ref (a 0)), (1, .int x1), (2, .int x2)]) hx hb dX5_goAll_18 rfl hl (by decide) rfl (fun ls hl => ?_)
  refine lv_aload_n hx hb dX5_goAll_19 rfl (lv_at hl 1 rfl) ?_
  refine w_get E w in_X5_goAll_X5 0 (cM_at_0 t a S) rfl 16 (by decide) fl_X5_goAll_26 rfl rfl dX5_goAll_20 ?_
  refine lv_iload_n hx hb dX5_goAll_23 rfl (lv_at hl 3 rfl) ?_
  refine lv_iload_n hx hb dX5_goAll_24 rfl (lv_at hl 0 rfl) ?_
  obtain ⟨h9, hf⟩ := it_n hf
  obtain ⟨S8, eS8, hf⟩ := nm_o hf
  refine w_ast (S1 := S8) E w 6 0 (cM_at_6 t a S) rfl h9 rfl ((cM_st_6 t a S x2.toNatClampNeg s0).trans (congrArg (cM t a) eS8.symm)) dX5_goAll_25 (fun H locs w => ?_)
  refine lv_aload_n hx hb dX5_goAll_26 rfl (lv_at hl 1 rfl) ?_
  refine w_get E w in_X5_goAll_X5 0 (cM_at_0 t a S8) rfl 17 (by decide) fl_X5_goAll_29 rfl rfl dX5_goAll_27 ?_
  refine lv_iload_n hx hb dX5_goAll_30 rfl (lv_at hl 3 rfl) ?_
  refine lv_iload_n hx hb dX5_goAll_31 rfl (lv_at hl 0 rfl) ?_
  obtain ⟨h11, hf⟩ := it_n hf
  obtain ⟨S10, eS10, hf⟩ := nm_o hf
  refine w_ast (S1 := S10) E w 7 0 (cM_at_7 t a S8) rfl h11 rfl ((cM_st_7 t a S8 x2.toNatClampNeg s0).trans (congrArg (cM t a) eS10.symm)) dX5_goAll_32 (fun H locs w => ?_)
  refine lv_aload_n hx hb dX5_goAll_33 rfl (lv_at hl 1 rfl) ?_
  refine w_get E w in_X5_goAll_X5 0 (cM_at_0 t a S10) rfl 18 (by decide) fl_X5_goAll_32 rfl rfl dX5_goAll_34 ?_
  refine lv_iload_n hx hb dX5_goAll_37 rfl (lv_at hl 3 rfl) ?_
  refine lv_iload_n hx hb dX5_goAll_38 rfl (lv_at hl 0 rfl) ?_
  obtain ⟨h13, hf⟩ := it_n hf
  obtain ⟨S12, eS12, hf⟩ := nm_o hf
  refine w_ast (S1 := S12) E w 8 0 (cM_at_8 t a S10) rfl h13 rfl ((cM_st_8 t a S10 x2.toNatClampNeg s0).trans (congrArg (cM t a) eS12.symm)) dX5_goAll_39 (fun H locs w => ?_)
  refine lv_aload_n hx hb dX5_goAll_40 rfl (lv_at hl 1 rfl) ?_
  refine w_get E w in_X5_goAll_X5 0 (cM_at_0 t a S12) rfl 19 (by decide) fl_X5_goAll_35 rfl rfl dX5_goAll_41 ?_
  refine lv_iload_n hx hb dX5_goAll_44 rfl (lv_at hl 3 rfl) ?_
  refine lv_iconst (v := 0) hx hb dX5_goAll_45 (by decide) ?_
  obtain ⟨h15, hf⟩ := it_n hf
  obtain ⟨S14, eS14, hf⟩ := nm_o hf
  refine w_ast (S1 := S14) E w 9 0 (cM_at_9 t a S12) rfl h15 rfl ((cM_st_9 t a S12 x2.toNatClampNeg 0).trans (congrArg (cM t a) eS14.symm)) dX5_goAll_46 (fun H locs w => ?_)
  refine lv_aload_n hx hb dX5_goAll_47 rfl (lv_at hl 1 rfl) ?_
  refine w_get E w in_X5_goAll_X5 0 (cM_at_0 t a S14) rfl 20 (by decide) fl_X5_goAll_38 rfl rfl dX5_goAll_48 ?_
  refine lv_iload_n hx hb dX5_goAll_51 rfl (lv_at hl 3 rfl) ?_
  refine lv_iload_n hx hb dX5_goAll_52 rfl (lv_at hl 0 rfl) ?_
  obtain ⟨h17, hf⟩ := it_n hf
  obtain ⟨S16, eS16, hf⟩ := nm_o hf
  refine w_ast (S1 := S16) E w 10 0 (cM_at_10 t a S14) rfl h17 rfl ((cM_st_10 t a S14 x2.toNatClampNeg s0).trans (congrArg (cM t a) eS16.symm)) dX5_goAll_53 (fun H locs w => ?_)
  refine lv_iinc (v := x2 + 1) (lv' := [(2, .int (x2 + 1)), (3, .int s0), (0, .ref (a 0)), (1, .int x1)]) hx hb dX5_goAll_54 hl (k := 3) rfl rfl (by decide) rfl (fun ls hl => ?_)
  refine lv_goto (tgt := 2) hx hb dX5_goAll_57 (by decide) ?_
  exact hk2 w (lv_sub hl [2, 3, 0] rfl) hf
set_option maxHeartbeats 4000000 in
set_option maxRecDepth 100000 in
theorem k_X5_goAll_2 {p : Program} {l : Launch} {e : Env} {s : State} {m : MethodId} {args : Array Value} {below : List Frame} {meth : Method} {c : Code} {D : va_G} {t : Nat → ClassId} {a : Nat → Nat} {X : State → Prop} {N : Nat} {S' : ST} (hX : XOk (aW 17 a) X) (E : EN p s m args meth c cX5_goAll RX5 wsX5_goAll none 4) : ∀ (n : Nat) {S : ST} {x1 : Int32} {x2 : Int32} {H : Heap} {locs : List Loc} {ls : Array Slot}, Wd D (cM t a) (aW 17 a) (tyM t) X S s H locs → lv_has ls 4 [(0, .ref (a 0)), (1, .int x1), (2, .int x2)] → b_X5_goAll_2 N n S x1 x2 = some S' → W p l e rmX5_goAll s m args below meth c H locs 0 0 (MQ below (Qv D (cM t a) (aW 17 a) (tyM t) S') args s 0 0 (aW 17 a)) (F0 m 2 ls []) := by
  obtain ⟨⟨hx, hb, hml, hown, hts⟩, hr, hlk⟩ := id E
  intro n
  induction n with
  | zero => intro S x1 x2 H locs ls w hl hf; cases hf
  | succ n ih =>
    intro S x1 x2 H locs ls w hl hf
    unfold b_X5_goAll_2 at hf
    refine lv_iload_n hx hb dX5_goAll_2 rfl (lv_at hl 2 rfl) ?_
    refine lv_bipush (v := 64) hx hb dX5_goAll_3 (by decide) ?_
    refine lv_icmp_ge (tgt := 60) hx hb dX5_goAll_5 (by decide) (fun h1 => ?_) (fun h1 => ?_)
    · replace hf := it_t h1 hf
      refine lv_aload_n hx hb dX5_goAll_60 rfl (lv_at hl 0 rfl) ?_
      obtain ⟨S3, h2, hf⟩ := bd1_o hf
      refine w_callVv (As := []) (rest := []) hX E w (c_X5_begin l hX h2) (cwV 0 hts gX5_goAll_X5_begin rfl rfl rfl hd_X5_begin ⟨Nat.le_of_ble_eq_true rfl, Nat.le_of_ble_eq_true rfl⟩) (ci := 5) rfl (cM_at_0 t a S) rfl hl.1 rfl (Nat.le_of_ble_eq_true rfl) dX5_goAll_61 ⟨Nat.le_refl _, Nat.le_refl _⟩ (fun H locs w => ?_)
      refine lv_aload_n hx hb dX5_goAll_64 rfl (lv_at hl 0 rfl) ?_
      refine lv_iconst (v := 0) hx hb dX5_goAll_65 (by decide) ?_
      obtain ⟨S5, h4, hf⟩ := bd1_o hf
      refine w_callVv (As := [.int 0]) (rest := []) hX E w (c_X5_keepState l hX h4) (cwV 1 hts gX5_goAll_X5_keepState rfl rfl rfl hd_X5_keepState ⟨Nat.le_of_ble_eq_true rfl, Nat.le_of_ble_eq_true rfl⟩) (ci := 5) rfl (cM_at_0 t a S3) rfl hl.1 rfl (Nat.le_of_ble_eq_true rfl) dX5_goAll_66 ⟨Nat.le_refl _, Nat.le_refl _⟩ (fun H locs w => ?_)
      refine lv_aload_n hx hb dX5_goAll_69 rfl (lv_at hl 0 rfl) ?_
      refine w_get E w in_X5_goAll_X5 0 (cM_at_0 t a S5) rfl 21 (by decide) fl_X5_goAll_41 rfl rfl dX5_goAll_70 ?_
      refine lv_iconst (v := 0) hx hb dX5_goAll_73 (by decide) ?_
      refine lv_iconst (v := (-1)) hx hb dX5_goAll_74 (by decide) ?_
      obtain ⟨S6, eS6, hf⟩ := nm_o hf
      refine w_ast (S1 := S6) E w 11 0 (cM_at_11 t a S5) rfl (by decide) ix_0 ((cM_st_11 t a S5 0 (-1)).trans (congrArg (cM t a) eS6.symm)) dX5_goAll_75 (fun H locs w => ?_)
      refine lv_iconst (v := 0) hx hb dX5_goAll_76 (by decide) ?_
      refine lv_istore_n (lv' := [(2, .int 0), (0, .ref (a 0)), (1, .int x1)]) hx hb dX5_goAll_77 rfl hl (by decide) rfl (fun ls hl => ?_)
      exact k_X5_goAll_78 hX E N w (lv_sub hl [1, 2, 0] rfl) hf
    · replace hf := it_f h1 hf
      refine lv_iload_n hx hb dX5_goAll_8 rfl (lv_at hl 2 rfl) ?_
      refine lv_if_ne (tgt := 16) hx hb dX5_goAll_9 (by decide) (fun h7 => ?_) (fun h7 => ?_)
      · replace hf := it_f h7 hf
        refine lv_ldc hx hb hown (hts _ ct_X5_goAll_226) dX5_goAll_16 ?_
        exact k_X5_goAll_18 hX E (fun w hl hf => ih w hl hf) w (lv_sub hl [0, 1, 2] rfl) hf
      · replace hf := it_t h7 hf
        refine lv_iconst (v := 0) hx hb dX5_goAll_12 (by decide) ?_
        refine lv_goto (tgt := 18) hx hb dX5_goAll_13 (by decide) ?_
        exact k_X5_goAll_18 hX E (fun w hl hf => ih w hl hf) w (lv_sub hl [0, 1, 2] rfl) hf
set_option maxHeartbeats 4000000 in
set_option maxRecDepth 100000 in
theorem k_X5_goAll_E {p : Program} {l : Launch} {e : Env} {s : State} {m : MethodId} {args : Array Value} {below : List Frame} {meth : Method} {c : Code} {D : va_G} {t : Nat → ClassId} {a : Nat → Nat} {X : State → Prop} {N : Nat} {S' : ST} (hX : XOk (aW 17 a) X) (E : EN p s m args meth c cX5_goAll RX5 wsX5_goAll none 4) {S : ST} {x1 : Int32} {H : Heap} {locs : List Loc} {ls : Array Slot} (w : Wd D (cM t a) (aW 17 a) (tyM t) X S s H locs) (hl : lv_has ls 4 [(0, .ref (a 0)), (1, .int x1)]) (hf : f_X5_goAll N S x1 = some S') : W p l e rmX5_goAll s m args below meth c H locs 0 0 (MQ below (Qv D (cM t a) (aW 17 a) (tyM t) S') args s 0 0 (aW 17 a)) (F0 m 0 ls []) := by
  obtain ⟨⟨hx, hb, hml, hown, hts⟩, hr, hlk⟩ := id E
  unfold f_X5_goAll at hf
  refine lv_iconst (v := 0) hx hb dX5_goAll_0 (by decide) ?_
  refine lv_istore_n (lv' := [(2, .int 0), (0, .ref (a 0)), (1, .int x1)]) hx hb dX5_goAll_1 rfl hl (by decide) rfl (fun ls hl => ?_)
  exact k_X5_goAll_2 hX E N w (lv_sub hl [1, 2, 0] rfl) hf
theorem c_X5_goAll (l : Launch) {D : va_G} {t : Nat → ClassId} {a : Nat → Nat} {X : State → Prop} (hX : XOk (aW 17 a) X) {N : Nat} {S : ST} {x1 : Int32} {S' : ST} (hf : f_X5_goAll N S x1 = some S') : Co l yX5_goAll wsX5_goAll rmX5_goAll D (cM t a) (aW 17 a) (tyM t) X [.ref (a 0), .int x1] S (Qv D (cM t a) (aW 17 a) (tyM t) S') :=
  co_of (cc := cX5_goAll) (maxL := 4) (ret := none) (lv := [(0, .ref (a 0)), (1, .int x1)]) (by decide) rfl rfl (Nat.le_of_ble_eq_true rfl) rfl rfl (fun p e s m below meth c ls E hl w => k_X5_goAll_E hX E w hl hf)
-- X5_cheapest
theorem hd_X5_isWants : yX5_isWants.cls = RX5 ∧ yX5_isWants.cls ≠ "java/lang/invoke/MethodHandle" ∧ yX5_isWants.cls ≠ "java/lang/invoke/VarHandle" ∧ (parseMethodDescriptor yX5_isWants.desc).map (fun d => d.parameters.length) = some 1 := by decide +kernel
theorem ct_X5_cheapest_239 : Cond.constantLong RX5 239 2 ∈ wsX5_cheapest := by decide +kernel
theorem hd_X5_goAll : yX5_goAll.cls = RX5 ∧ yX5_goAll.cls ≠ "java/lang/invoke/MethodHandle" ∧ yX5_goAll.cls ≠ "java/lang/invoke/VarHandle" ∧ (parseMethodDescriptor yX5_goAll.desc).map (fun d => d.parameters.length) = some 1 := by decide +kernel
theorem in_X5_cheapest_X5 : ∀ w ∈ u_ws RX5 TX5 28, w ∈ wsX5_cheapest := by decide +kernel
theorem fl_X5_cheapest_26 : Cond.fieldLink RX5 26 "NextDoorModel" "bestPaid" "[I" ∈ wsX5_cheapest := by decide +kernel
theorem ct_X5_cheapest_226 : Cond.constant RX5 226 1000000 ∈ wsX5_cheapest := by decide +kernel
theorem fl_X5_cheapest_32 : Cond.fieldLink RX5 32 "NextDoorModel" "bestMinute" "[I" ∈ wsX5_cheapest := by decide +kernel
theorem fl_X5_cheapest_29 : Cond.fieldLink RX5 29 "NextDoorModel" "bestMany" "[I" ∈ wsX5_cheapest := by decide +kernel
abbrev rmX5_cheapest : Room := { frames := 6, cells := 0, slots := 0, locals := 135 }
set_option maxHeartbeats 4000000 in
set_option maxRecDepth 100000 in
theorem k_X5_cheapest_20 {p : Program} {l : Launch} {e : Env} {s : State} {m : MethodId} {args : Array Value} {below : List Frame} {meth : Method} {c : Code} {D : va_G} {t : Nat → ClassId} {a : Nat → Nat} {X : State → Prop} {N : Nat} {r : Int32} {S' : ST} (hX : XOk (aW 17 a) X) (E : EN p s m args meth c cX5_cheapest RX5 wsX5_cheapest (some .int) 3) {S : ST} {H : Heap} {locs : List Loc} {ls : Array Slot} (w : Wd D (cM t a) (aW 17 a) (tyM t) X S s H locs) (hl : lv_has ls 3 [(0, .ref (a 0))]) (hf : b_X5_cheapest_20 N S = some (r, S')) : W p l e rmX5_cheapest s m args below meth c H locs 0 0 (MQ below (Qi D (cM t a) (aW 17 a) (tyM t) r S') args s 0 0 (aW 17 a)) (F0 m 20 ls []) := by
  obtain ⟨⟨hx, hb, hml, hown, hts⟩, hr, hlk⟩ := id E
  unfold b_X5_cheapest_20 at hf
  refine lv_aload_n hx hb dX5_cheapest_20 rfl (lv_at hl 0 rfl) ?_
  refine lv_bipush (v := (-2)) hx hb dX5_cheapest_21 (by decide) ?_
  obtain ⟨r20, S19, h18, hf⟩ := bd2_o hf
  refine w_callVi (As := [.int (-2)]) (rest := []) hX E w (c_X5_bad l hX h18) (cwV 1 hts gX5_cheapest_X5_bad rfl rfl rfl hd_X5_bad ⟨Nat.le_of_ble_eq_true rfl, Nat.le_of_ble_eq_true rfl⟩) (ci := 5) rfl (cM_at_0 t a S) rfl hl.1 rfl (Nat.le_of_ble_eq_true rfl) dX5_cheapest_23 ⟨Nat.le_refl _, Nat.le_refl _⟩ (fun H locs w => ?_)
  exact w_reti E w hf dX5_cheapest_26
set_option maxHeartbeats 4000000 in
set_option maxRecDepth 100000 in
theorem k_X5_cheapest_E {p : Program} {l : Launch} {e : Env} {s : State} {m : MethodId} {args : Array Value} {below : List Frame} {meth : Method} {c : Code} {D : va_G} {t : Nat → ClassId} {a : Nat → Nat} {X : State → Prop} {N : Nat} {r : Int32} {S' : ST} (hX : XOk (aW 17 a) X) (E : EN p s m args meth c cX5_cheapest RX5 wsX5_cheapest (some .int) 3) {S : ST} {x1 : Int32} {x2 : Int32} {H : Heap} {locs : List Loc} {ls : Array Slot} (w : Wd D (cM t a) (aW 17 a) (tyM t) X S s H locs) (hl : lv_has ls 3 [(0, .ref (a 0)), (1, .int x1), (2, .int x2)]) (hf : f_X5_cheapest N S x1 x2 = some (r, S')) : W p l e rmX5_cheapest s m args below meth c H locs 0 0 (MQ below (Qi D (cM t a) (aW 17 a) (tyM t) r S') args s 0 0 (aW 17 a)) (F0 m 0 ls []) := by
  obtain ⟨⟨hx, hb, hml, hown, hts⟩, hr, hlk⟩ := id E
  unfold f_X5_cheapest at hf
  refine lv_aload_n hx hb dX5_cheapest_0 rfl (lv_at hl 0 rfl) ?_
  refine lv_iload_n hx hb dX5_cheapest_1 rfl (lv_at hl 1 rfl) ?_
  obtain ⟨r3, S2, h1, hf⟩ := bd2_o hf
  refine w_callVi (As := [.int x1]) (rest := []) hX E w (c_X5_isWants l hX h1) (cwV 1 hts gX5_cheapest_X5_isWants rfl rfl rfl hd_X5_isWants ⟨Nat.le_of_ble_eq_true rfl, Nat.le_of_ble_eq_true rfl⟩) (ci := 5) rfl (cM_at_0 t a S) rfl hl.1 rfl (Nat.le_of_ble_eq_true rfl) dX5_cheapest_2 ⟨Nat.le_refl _, Nat.le_refl _⟩ (fun H locs w => ?_)
  refine lv_if_eq (tgt := 20) hx hb dX5_cheapest_5 (by decide) (fun h4 => ?_) (fun h4 => ?_)
  · replace hf := it_t h4 hf
    exact k_X5_cheapest_20 hX E w (lv_sub hl [0] rfl) hf
  · replace hf := it_f h4 hf
    refine lv_iload_n hx hb dX5_cheapest_8 rfl (lv_at hl 2 rfl) ?_
    refine lv_i2l hx hb dX5_cheapest_9 rfl ?_
    refine lv_lconst (v := 0) hx hb dX5_cheapest_10 (by decide) ?_
    refine lv_ldc2 hx hb hown (hts _ ct_X5_cheapest_239) dX5_cheapest_11 ?_
    obtain ⟨r7, S6, h5, hf⟩ := bd2_o hf
    refine w_callSi (As := [.long ((x2 : Int32).toInt64), .long 0, .long 2]) (rest := []) hX E w (c_X5_in l hX h5) (va_cwS 3 hts gX5_cheapest_X5_in rfl rfl rfl hd_X5_in ⟨Nat.le_of_ble_eq_true rfl, Nat.le_of_ble_eq_true rfl⟩) rfl hl.1 rfl (Nat.le_of_ble_eq_true rfl) dX5_cheapest_14 ⟨Nat.le_refl _, Nat.le_refl _⟩ (fun H locs w => ?_)
    refine lv_if_ne (tgt := 27) hx hb dX5_cheapest_17 (by decide) (fun h8 => ?_) (fun h8 => ?_)
    · replace hf := it_f h8 hf
      refine lv_aload_n hx hb dX5_cheapest_27 rfl (lv_at hl 0 rfl) ?_
      refine lv_iconst (v := (-1)) hx hb dX5_cheapest_28 (by decide) ?_
      obtain ⟨S10, h9, hf⟩ := bd1_o hf
      refine w_callVv (As := [.int (-1)]) (rest := []) hX E w (c_X5_goAll l hX h9) (cwV 1 hts gX5_cheapest_X5_goAll rfl rfl rfl hd_X5_goAll ⟨Nat.le_of_ble_eq_true rfl, Nat.le_of_ble_eq_true rfl⟩) (ci := 5) rfl (cM_at_0 t a S6) rfl hl.1 rfl (Nat.le_of_ble_eq_true rfl) dX5_cheapest_29 ⟨Nat.le_refl _, Nat.le_refl _⟩ (fun H locs w => ?_)
      refine lv_aload_n hx hb dX5_cheapest_32 rfl (lv_at hl 0 rfl) ?_
      refine w_get E w in_X5_cheapest_X5 0 (cM_at_0 t a S10) rfl 16 (by decide) fl_X5_cheapest_26 rfl rfl dX5_cheapest_33 ?_
      refine lv_iload_n hx hb dX5_cheapest_36 rfl (lv_at hl 1 rfl) ?_
      obtain ⟨h11, hf⟩ := it_n hf
      refine w_ald E w 6 0 (cM_at_6 t a S10) rfl h11 rfl dX5_cheapest_37 ?_
      refine lv_ldc hx hb hown (hts _ ct_X5_cheapest_226) dX5_cheapest_38 ?_
      refine lv_icmp_ne (tgt := 45) hx hb dX5_cheapest_40 (by decide) (fun h12 => ?_) (fun h12 => ?_)
      · replace hf := it_f h12 hf
        refine lv_iload_n hx hb dX5_cheapest_45 rfl (lv_at hl 2 rfl) ?_
        refine lv_if_ne (tgt := 58) hx hb dX5_cheapest_46 (by decide) (fun h13 => ?_) (fun h13 => ?_)
        · replace hf := it_f h13 hf
          refine lv_iload_n hx hb dX5_cheapest_58 rfl (lv_at hl 2 rfl) ?_
          refine lv_iconst (v := 1) hx hb dX5_cheapest_59 (by decide) ?_
          refine lv_icmp_ne (tgt := 72) hx hb dX5_cheapest_60 (by decide) (fun h14 => ?_) (fun h14 => ?_)
          · replace hf := it_f h14 hf
            refine lv_aload_n hx hb dX5_cheapest_72 rfl (lv_at hl 0 rfl) ?_
            refine w_get E w in_X5_cheapest_X5 0 (cM_at_0 t a S10) rfl 18 (by decide) fl_X5_cheapest_32 rfl rfl dX5_cheapest_73 ?_
            refine lv_iload_n hx hb dX5_cheapest_76 rfl (lv_at hl 1 rfl) ?_
            obtain ⟨h15, hf⟩ := it_n hf
            refine w_ald E w 8 0 (cM_at_8 t a S10) rfl h15 rfl dX5_cheapest_77 ?_
            exact w_reti E w hf dX5_cheapest_78
          · replace hf := it_t h14 hf
            refine lv_aload_n hx hb dX5_cheapest_63 rfl (lv_at hl 0 rfl) ?_
            refine w_get E w in_X5_cheapest_X5 0 (cM_at_0 t a S10) rfl 17 (by decide) fl_X5_cheapest_29 rfl rfl dX5_cheapest_64 ?_
            refine lv_iload_n hx hb dX5_cheapest_67 rfl (lv_at hl 1 rfl) ?_
            obtain ⟨h16, hf⟩ := it_n hf
            refine w_ald E w 7 0 (cM_at_7 t a S10) rfl h16 rfl dX5_cheapest_68 ?_
            refine lv_goto (tgt := 78) hx hb dX5_cheapest_69 (by decide) ?_
            exact w_reti E w hf dX5_cheapest_78
        · replace hf := it_t h13 hf
          refine lv_aload_n hx hb dX5_cheapest_49 rfl (lv_at hl 0 rfl) ?_
          refine w_get E w in_X5_cheapest_X5 0 (cM_at_0 t a S10) rfl 16 (by decide) fl_X5_cheapest_26 rfl rfl dX5_cheapest_50 ?_
          refine lv_iload_n hx hb dX5_cheapest_53 rfl (lv_at hl 1 rfl) ?_
          obtain ⟨h17, hf⟩ := it_n hf
          refine w_ald E w 6 0 (cM_at_6 t a S10) rfl h17 rfl dX5_cheapest_54 ?_
          refine lv_goto (tgt := 78) hx hb dX5_cheapest_55 (by decide) ?_
          exact w_reti E w hf dX5_cheapest_78
      · replace hf := it_t h12 hf
        refine lv_iconst (v := (-1)) hx hb dX5_cheapest_43 (by decide) ?_
        exact w_reti E w hf dX5_cheapest_44
    · replace hf := it_t h8 hf
      exact k_X5_cheapest_20 hX E w (lv_sub hl [0] rfl) hf
theorem c_X5_cheapest (l : Launch) {D : va_G} {t : Nat → ClassId} {a : Nat → Nat} {X : State → Prop} (hX : XOk (aW 17 a) X) {N : Nat} {S : ST} {x1 : Int32} {x2 : Int32} {r : Int32} {S' : ST} (hf : f_X5_cheapest N S x1 x2 = some (r, S')) : Co l yX5_cheapest wsX5_cheapest rmX5_cheapest D (cM t a) (aW 17 a) (tyM t) X [.ref (a 0), .int x1, .int x2] S (Qi D (cM t a) (aW 17 a) (tyM t) r S') :=
  co_of (cc := cX5_cheapest) (maxL := 3) (ret := (some .int)) (lv := [(0, .ref (a 0)), (1, .int x1), (2, .int x2)]) (by decide) rfl rfl (Nat.le_of_ble_eq_true rfl) rfl rfl (fun p e s m below meth c ls E hl w => k_X5_cheapest_E hX E w hl hf)
-- X5_shopIn
abbrev rmX5_shopIn : Room := { frames := 0, cells := 0, slots := 0, locals := 0 }
set_option maxHeartbeats 4000000 in
set_option maxRecDepth 100000 in
theorem k_X5_shopIn_E {p : Program} {l : Launch} {e : Env} {s : State} {m : MethodId} {args : Array Value} {below : List Frame} {meth : Method} {c : Code} {D : va_G} {t : Nat → ClassId} {a : Nat → Nat} {X : State → Prop} {N : Nat} {r : Int32} {S' : ST} (hX : XOk (aW 17 a) X) (E : EN p s m args meth c cX5_shopIn RX5 wsX5_shopIn (some .int) 2) {S : ST} {x0 : Int32} {x1 : Int32} {H : Heap} {locs : List Loc} {ls : Array Slot} (w : Wd D (cM t a) (aW 17 a) (tyM t) X S s H locs) (hl : lv_has ls 2 [(0, .int x0), (1, .int x1)]) (hf : f_X5_shopIn N S x0 x1 = some (r, S')) : W p l e rmX5_shopIn s m args below meth c H locs 0 0 (MQ below (Qi D (cM t a) (aW 17 a) (tyM t) r S') args s 0 0 (aW 17 a)) (F0 m 0 ls []) := by
  obtain ⟨⟨hx, hb, hml, hown, hts⟩, hr, hlk⟩ := id E
  unfold f_X5_shopIn at hf
  refine lv_iload_n hx hb dX5_shopIn_0 rfl (lv_at hl 0 rfl) ?_
  refine lv_iconst (v := 3) hx hb dX5_shopIn_1 (by decide) ?_
  refine lv_iload_n hx hb dX5_shopIn_2 rfl (lv_at hl 1 rfl) ?_
  refine lv_imul hx hb dX5_shopIn_3 ?_
  refine lv_ishr hx hb dX5_shopIn_4 ?_
  refine lv_bipush (v := 7) hx hb dX5_shopIn_5 (by decide) ?_
  refine lv_iand hx hb dX5_shopIn_7 ?_
  exact w_reti E w hf dX5_shopIn_8
theorem c_X5_shopIn (l : Launch) {D : va_G} {t : Nat → ClassId} {a : Nat → Nat} {X : State → Prop} (hX : XOk (aW 17 a) X) {N : Nat} {S : ST} {x0 : Int32} {x1 : Int32} {r : Int32} {S' : ST} (hf : f_X5_shopIn N S x0 x1 = some (r, S')) : Co l yX5_shopIn wsX5_shopIn rmX5_shopIn D (cM t a) (aW 17 a) (tyM t) X [.int x0, .int x1] S (Qi D (cM t a) (aW 17 a) (tyM t) r S') :=
  co_of (cc := cX5_shopIn) (maxL := 2) (ret := (some .int)) (lv := [(0, .int x0), (1, .int x1)]) (by decide) rfl rfl (Nat.le_of_ble_eq_true rfl) rfl rfl (fun p e s m below meth c ls E hl w => k_X5_shopIn_E hX E w hl hf)
-- X5_row
theorem in_X5_row_X5 : ∀ w ∈ u_ws RX5 TX5 28, w ∈ wsX5_row := by decide +kernel
theorem fl_X5_row_26 : Cond.fieldLink RX5 26 "NextDoorModel" "bestPaid" "[I" ∈ wsX5_row := by decide +kernel
theorem ct_X5_row_226 : Cond.constant RX5 226 1000000 ∈ wsX5_row := by decide +kernel
theorem fl_X5_row_29 : Cond.fieldLink RX5 29 "NextDoorModel" "bestMany" "[I" ∈ wsX5_row := by decide +kernel
theorem fl_X5_row_35 : Cond.fieldLink RX5 35 "NextDoorModel" "bestRow" "[I" ∈ wsX5_row := by decide +kernel
theorem hd_X5_shopIn : yX5_shopIn.cls ≠ "java/lang/invoke/MethodHandle" ∧ yX5_shopIn.cls ≠ "java/lang/invoke/VarHandle" ∧ (parseMethodDescriptor yX5_shopIn.desc).map (fun d => d.parameters.length) = some 2 := by decide +kernel
abbrev rmX5_row : Room := { frames := 6, cells := 0, slots := 0, locals := 135 }
set_option maxHeartbeats 4000000 in
set_option maxRecDepth 100000 in
theorem k_X5_row_12 {p : Program} {l : Launch} {e : Env} {s : State} {m : MethodId} {args : Array Value} {below : List Frame} {meth : Method} {c : Code} {D : va_G} {t : Nat → ClassId} {a : Nat → Nat} {X : State → Prop} {N : Nat} {r : Int32} {S' : ST} (hX : XOk (aW 17 a) X) (E : EN p s m args meth c cX5_row RX5 wsX5_row (some .int) 3) {S : ST} {H : Heap} {locs : List Loc} {ls : Array Slot} (w : Wd D (cM t a) (aW 17 a) (tyM t) X S s H locs) (hl : lv_has ls 3 [(0, .ref (a 0))]) (hf : b_X5_row_12 N S = some (r, S')) : W p l e rmX5_row s m args below meth c H locs 0 0 (MQ below (Qi D (cM t a) (aW 17 a) (tyM t) r S') args s 0 0 (aW 17 a)) (F0 m 12 ls []) := by
  obtain ⟨⟨hx, hb, hml, hown, hts⟩, hr, hlk⟩ := id E
  unfold b_X5_row_12 at hf
  refine lv_aload_n hx hb dX5_row_12 rfl (lv_at hl 0 rfl) ?_
  refine lv_bipush (v := (-10)) hx hb dX5_row_13 (by decide) ?_
  obtain ⟨r18, S17, h16, hf⟩ := bd2_o hf
  refine w_callVi (As := [.int (-10)]) (rest := []) hX E w (c_X5_bad l hX h16) (cwV 1 hts gX5_row_X5_bad rfl rfl rfl hd_X5_bad ⟨Nat.le_of_ble_eq_true rfl, Nat.le_of_ble_eq_true rfl⟩) (ci := 5) rfl (cM_at_0 t a S) rfl hl.1 rfl (Nat.le_of_ble_eq_true rfl) dX5_row_15 ⟨Nat.le_refl _, Nat.le_refl _⟩ (fun H locs w => ?_)
  exact w_reti E w hf dX5_row_18
set_option maxHeartbeats 4000000 in
set_option maxRecDepth 100000 in
theorem k_X5_row_E {p : Program} {l : Launch} {e : Env} {s : State} {m : MethodId} {args : Array Value} {below : List Frame} {meth : Method} {c : Code} {D : va_G} {t : Nat → ClassId} {a : Nat → Nat} {X : State → Prop} {N : Nat} {r : Int32} {S' : ST} (hX : XOk (aW 17 a) X) (E : EN p s m args meth c cX5_row RX5 wsX5_row (some .int) 3) {S : ST} {x1 : Int32} {x2 : Int32} {H : Heap} {locs : List Loc} {ls : Array Slot} (w : Wd D (cM t a) (aW 17 a) (tyM t) X S s H locs) (hl : lv_has ls 3 [(0, .ref (a 0)), (1, .int x1), (2, .int x2)]) (hf : f_X5_row N S x1 x2 = some (r, S')) : W p l e rmX5_row s m args below meth c H locs 0 0 (MQ below (Qi D (cM t a) (aW 17 a) (tyM t) r S') args s 0 0 (aW 17 a)) (F0 m 0 ls []) := by
  obtain ⟨⟨hx, hb, hml, hown, hts⟩, hr, hlk⟩ := id E
  unfold f_X5_row at hf
  refine lv_aload_n hx hb dX5_row_0 rfl (lv_at hl 0 rfl) ?_
  refine lv_iload_n hx hb dX5_row_1 rfl (lv_at hl 1 rfl) ?_
  obtain ⟨r3, S2, h1, hf⟩ := bd2_o hf
  refine w_callVi (As := [.int x1]) (rest := []) hX E w (c_X5_isWants l hX h1) (cwV 1 hts gX5_row_X5_isWants rfl rfl rfl hd_X5_isWants ⟨Nat.le_of_ble_eq_true rfl, Nat.le_of_ble_eq_true rfl⟩) (ci := 5) rfl (cM_at_0 t a S) rfl hl.1 rfl (Nat.le_of_ble_eq_true rfl) dX5_row_2 ⟨Nat.le_refl _, Nat.le_refl _⟩ (fun H locs w => ?_)
  refine lv_if_eq (tgt := 12) hx hb dX5_row_5 (by decide) (fun h4 => ?_) (fun h4 => ?_)
  · replace hf := it_t h4 hf
    exact k_X5_row_12 hX E w (lv_sub hl [0] rfl) hf
  · replace hf := it_f h4 hf
    refine lv_iload_n hx hb dX5_row_8 rfl (lv_at hl 2 rfl) ?_
    refine lv_if_ge (tgt := 19) hx hb dX5_row_9 (by decide) (fun h5 => ?_) (fun h5 => ?_)
    · replace hf := it_t h5 hf
      refine lv_aload_n hx hb dX5_row_19 rfl (lv_at hl 0 rfl) ?_
      refine lv_iconst (v := (-1)) hx hb dX5_row_20 (by decide) ?_
      obtain ⟨S7, h6, hf⟩ := bd1_o hf
      refine w_callVv (As := [.int (-1)]) (rest := []) hX E w (c_X5_goAll l hX h6) (cwV 1 hts gX5_row_X5_goAll rfl rfl rfl hd_X5_goAll ⟨Nat.le_of_ble_eq_true rfl, Nat.le_of_ble_eq_true rfl⟩) (ci := 5) rfl (cM_at_0 t a S2) rfl hl.1 rfl (Nat.le_of_ble_eq_true rfl) dX5_row_21 ⟨Nat.le_refl _, Nat.le_refl _⟩ (fun H locs w => ?_)
      refine lv_aload_n hx hb dX5_row_24 rfl (lv_at hl 0 rfl) ?_
      refine w_get E w in_X5_row_X5 0 (cM_at_0 t a S7) rfl 16 (by decide) fl_X5_row_26 rfl rfl dX5_row_25 ?_
      refine lv_iload_n hx hb dX5_row_28 rfl (lv_at hl 1 rfl) ?_
      obtain ⟨h8, hf⟩ := it_n hf
      refine w_ald E w 6 0 (cM_at_6 t a S7) rfl h8 rfl dX5_row_29 ?_
      refine lv_ldc hx hb hown (hts _ ct_X5_row_226) dX5_row_30 ?_
      refine lv_icmp_eq (tgt := 45) hx hb dX5_row_32 (by decide) (fun h9 => ?_) (fun h9 => ?_)
      · replace hf := it_t h9 hf
        refine lv_bipush (v := (-5)) hx hb dX5_row_45 (by decide) ?_
        refine lv_goto (tgt := 60) hx hb dX5_row_47 (by decide) ?_
        exact w_reti E w hf dX5_row_60
      · replace hf := it_f h9 hf
        refine lv_iload_n hx hb dX5_row_35 rfl (lv_at hl 2 rfl) ?_
        refine lv_aload_n hx hb dX5_row_36 rfl (lv_at hl 0 rfl) ?_
        refine w_get E w in_X5_row_X5 0 (cM_at_0 t a S7) rfl 17 (by decide) fl_X5_row_29 rfl rfl dX5_row_37 ?_
        refine lv_iload_n hx hb dX5_row_40 rfl (lv_at hl 1 rfl) ?_
        obtain ⟨h10, hf⟩ := it_n hf
        refine w_ald E w 7 0 (cM_at_7 t a S7) rfl h10 rfl dX5_row_41 ?_
        refine lv_icmp_lt (tgt := 50) hx hb dX5_row_42 (by decide) (fun h11 => ?_) (fun h11 => ?_)
        · replace hf := it_t h11 hf
          refine lv_aload_n hx hb dX5_row_50 rfl (lv_at hl 0 rfl) ?_
          refine w_get E w in_X5_row_X5 0 (cM_at_0 t a S7) rfl 19 (by decide) fl_X5_row_35 rfl rfl dX5_row_51 ?_
          refine lv_iload_n hx hb dX5_row_54 rfl (lv_at hl 1 rfl) ?_
          obtain ⟨h12, hf⟩ := it_n hf
          refine w_ald E w 9 0 (cM_at_9 t a S7) rfl h12 rfl dX5_row_55 ?_
          refine lv_iload_n hx hb dX5_row_56 rfl (lv_at hl 2 rfl) ?_
          obtain ⟨r15, S14, h13, hf⟩ := bd2_o hf
          refine w_callSi (As := [.int (S7 9 x1.toNatClampNeg), .int x2]) (rest := []) hX E w (c_X5_shopIn l hX h13) (va_cwS 2 hts gX5_row_X5_shopIn rfl rfl rfl hd_X5_shopIn ⟨Nat.le_of_ble_eq_true rfl, Nat.le_of_ble_eq_true rfl⟩) rfl hl.1 rfl (Nat.le_of_ble_eq_true rfl) dX5_row_57 ⟨Nat.le_refl _, Nat.le_refl _⟩ (fun H locs w => ?_)
          exact w_reti E w hf dX5_row_60
        · replace hf := it_f h11 hf
          refine lv_bipush (v := (-5)) hx hb dX5_row_45 (by decide) ?_
          refine lv_goto (tgt := 60) hx hb dX5_row_47 (by decide) ?_
          exact w_reti E w hf dX5_row_60
    · replace hf := it_f h5 hf
      exact k_X5_row_12 hX E w (lv_sub hl [0] rfl) hf
theorem c_X5_row (l : Launch) {D : va_G} {t : Nat → ClassId} {a : Nat → Nat} {X : State → Prop} (hX : XOk (aW 17 a) X) {N : Nat} {S : ST} {x1 : Int32} {x2 : Int32} {r : Int32} {S' : ST} (hf : f_X5_row N S x1 x2 = some (r, S')) : Co l yX5_row wsX5_row rmX5_row D (cM t a) (aW 17 a) (tyM t) X [.ref (a 0), .int x1, .int x2] S (Qi D (cM t a) (aW 17 a) (tyM t) r S') :=
  co_of (cc := cX5_row) (maxL := 3) (ret := (some .int)) (lv := [(0, .ref (a 0)), (1, .int x1), (2, .int x2)]) (by decide) rfl rfl (Nat.le_of_ble_eq_true rfl) rfl rfl (fun p e s m below meth c ls E hl w => k_X5_row_E hX E w hl hf)
-- X5_soonest
theorem in_X5_soonest_X5 : ∀ w ∈ u_ws RX5 TX5 28, w ∈ wsX5_soonest := by decide +kernel
theorem fl_X5_soonest_38 : Cond.fieldLink RX5 38 "NextDoorModel" "soonMinute" "[I" ∈ wsX5_soonest := by decide +kernel
theorem ct_X5_soonest_226 : Cond.constant RX5 226 1000000 ∈ wsX5_soonest := by decide +kernel
abbrev rmX5_soonest : Room := { frames := 6, cells := 0, slots := 0, locals := 135 }
set_option maxHeartbeats 4000000 in
set_option maxRecDepth 100000 in
theorem k_X5_soonest_E {p : Program} {l : Launch} {e : Env} {s : State} {m : MethodId} {args : Array Value} {below : List Frame} {meth : Method} {c : Code} {D : va_G} {t : Nat → ClassId} {a : Nat → Nat} {X : State → Prop} {N : Nat} {r : Int32} {S' : ST} (hX : XOk (aW 17 a) X) (E : EN p s m args meth c cX5_soonest RX5 wsX5_soonest (some .int) 2) {S : ST} {x1 : Int32} {H : Heap} {locs : List Loc} {ls : Array Slot} (w : Wd D (cM t a) (aW 17 a) (tyM t) X S s H locs) (hl : lv_has ls 2 [(0, .ref (a 0)), (1, .int x1)]) (hf : f_X5_soonest N S x1 = some (r, S')) : W p l e rmX5_soonest s m args below meth c H locs 0 0 (MQ below (Qi D (cM t a) (aW 17 a) (tyM t) r S') args s 0 0 (aW 17 a)) (F0 m 0 ls []) := by
  obtain ⟨⟨hx, hb, hml, hown, hts⟩, hr, hlk⟩ := id E
  unfold f_X5_soonest at hf
  refine lv_aload_n hx hb dX5_soonest_0 rfl (lv_at hl 0 rfl) ?_
  refine lv_iload_n hx hb dX5_soonest_1 rfl (lv_at hl 1 rfl) ?_
  obtain ⟨r3, S2, h1, hf⟩ := bd2_o hf
  refine w_callVi (As := [.int x1]) (rest := []) hX E w (c_X5_isWants l hX h1) (cwV 1 hts gX5_soonest_X5_isWants rfl rfl rfl hd_X5_isWants ⟨Nat.le_of_ble_eq_true rfl, Nat.le_of_ble_eq_true rfl⟩) (ci := 5) rfl (cM_at_0 t a S) rfl hl.1 rfl (Nat.le_of_ble_eq_true rfl) dX5_soonest_2 ⟨Nat.le_refl _, Nat.le_refl _⟩ (fun H locs w => ?_)
  refine lv_if_ne (tgt := 15) hx hb dX5_soonest_5 (by decide) (fun h4 => ?_) (fun h4 => ?_)
  · replace hf := it_f h4 hf
    refine lv_aload_n hx hb dX5_soonest_15 rfl (lv_at hl 0 rfl) ?_
    refine lv_iconst (v := (-1)) hx hb dX5_soonest_16 (by decide) ?_
    obtain ⟨S6, h5, hf⟩ := bd1_o hf
    refine w_callVv (As := [.int (-1)]) (rest := []) hX E w (c_X5_goAll l hX h5) (cwV 1 hts gX5_soonest_X5_goAll rfl rfl rfl hd_X5_goAll ⟨Nat.le_of_ble_eq_true rfl, Nat.le_of_ble_eq_true rfl⟩) (ci := 5) rfl (cM_at_0 t a S2) rfl hl.1 rfl (Nat.le_of_ble_eq_true rfl) dX5_soonest_17 ⟨Nat.le_refl _, Nat.le_refl _⟩ (fun H locs w => ?_)
    refine lv_aload_n hx hb dX5_soonest_20 rfl (lv_at hl 0 rfl) ?_
    refine w_get E w in_X5_soonest_X5 0 (cM_at_0 t a S6) rfl 20 (by decide) fl_X5_soonest_38 rfl rfl dX5_soonest_21 ?_
    refine lv_iload_n hx hb dX5_soonest_24 rfl (lv_at hl 1 rfl) ?_
    obtain ⟨h7, hf⟩ := it_n hf
    refine w_ald E w 10 0 (cM_at_10 t a S6) rfl h7 rfl dX5_soonest_25 ?_
    refine lv_ldc hx hb hown (hts _ ct_X5_soonest_226) dX5_soonest_26 ?_
    refine lv_icmp_ne (tgt := 35) hx hb dX5_soonest_28 (by decide) (fun h8 => ?_) (fun h8 => ?_)
    · replace hf := it_f h8 hf
      refine lv_aload_n hx hb dX5_soonest_35 rfl (lv_at hl 0 rfl) ?_
      refine w_get E w in_X5_soonest_X5 0 (cM_at_0 t a S6) rfl 20 (by decide) fl_X5_soonest_38 rfl rfl dX5_soonest_36 ?_
      refine lv_iload_n hx hb dX5_soonest_39 rfl (lv_at hl 1 rfl) ?_
      obtain ⟨h9, hf⟩ := it_n hf
      refine w_ald E w 10 0 (cM_at_10 t a S6) rfl h9 rfl dX5_soonest_40 ?_
      exact w_reti E w hf dX5_soonest_41
    · replace hf := it_t h8 hf
      refine lv_iconst (v := (-1)) hx hb dX5_soonest_31 (by decide) ?_
      refine lv_goto (tgt := 41) hx hb dX5_soonest_32 (by decide) ?_
      exact w_reti E w hf dX5_soonest_41
  · replace hf := it_t h4 hf
    refine lv_aload_n hx hb dX5_soonest_8 rfl (lv_at hl 0 rfl) ?_
    refine lv_bipush (v := (-2)) hx hb dX5_soonest_9 (by decide) ?_
    obtain ⟨r12, S11, h10, hf⟩ := bd2_o hf
    refine w_callVi (As := [.int (-2)]) (rest := []) hX E w (c_X5_bad l hX h10) (cwV 1 hts gX5_soonest_X5_bad rfl rfl rfl hd_X5_bad ⟨Nat.le_of_ble_eq_true rfl, Nat.le_of_ble_eq_true rfl⟩) (ci := 5) rfl (cM_at_0 t a S2) rfl hl.1 rfl (Nat.le_of_ble_eq_true rfl) dX5_soonest_11 ⟨Nat.le_refl _, Nat.le_refl _⟩ (fun H locs w => ?_)
    exact w_reti E w hf dX5_soonest_14
theorem c_X5_soonest (l : Launch) {D : va_G} {t : Nat → ClassId} {a : Nat → Nat} {X : State → Prop} (hX : XOk (aW 17 a) X) {N : Nat} {S : ST} {x1 : Int32} {r : Int32} {S' : ST} (hf : f_X5_soonest N S x1 = some (r, S')) : Co l yX5_soonest wsX5_soonest rmX5_soonest D (cM t a) (aW 17 a) (tyM t) X [.ref (a 0), .int x1] S (Qi D (cM t a) (aW 17 a) (tyM t) r S') :=
  co_of (cc := cX5_soonest) (maxL := 2) (ret := (some .int)) (lv := [(0, .ref (a 0)), (1, .int x1)]) (by decide) rfl rfl (Nat.le_of_ble_eq_true rfl) rfl rfl (fun p e s m below meth c ls E hl w => k_X5_soonest_E hX E w hl hf)
-- X5_worth
theorem in_X5_worth_X5 : ∀ w ∈ u_ws RX5 TX5 28, w ∈ wsX5_worth := by decide +kernel
theorem fl_X5_worth_26 : Cond.fieldLink RX5 26 "NextDoorModel" "bestPaid" "[I" ∈ wsX5_worth := by decide +kernel
theorem fl_X5_worth_7 : Cond.fieldLink RX5 7 "NextDoorModel" "now" "[I" ∈ wsX5_worth := by decide +kernel
theorem ct_X5_worth_226 : Cond.constant RX5 226 1000000 ∈ wsX5_worth := by decide +kernel
abbrev rmX5_worth : Room := { frames := 6, cells := 0, slots := 0, locals := 135 }
set_option maxHeartbeats 4000000 in
set_option maxRecDepth 100000 in
theorem k_X5_worth_92 {p : Program} {l : Launch} {e : Env} {s : State} {m : MethodId} {args : Array Value} {below : List Frame} {meth : Method} {c : Code} {D : va_G} {t : Nat → ClassId} {a : Nat → Nat} {X : State → Prop} {N : Nat} {r : Int32} {S' : ST} (hX : XOk (aW 17 a) X) (E : EN p s m args meth c cX5_worth RX5 wsX5_worth (some .int) 4) {S : ST} {H : Heap} {locs : List Loc} {ls : Array Slot} (w : Wd D (cM t a) (aW 17 a) (tyM t) X S s H locs) (hl : lv_has ls 4 [(0, .ref (a 0))]) (hf : b_X5_worth_92 N S = some (r, S')) : W p l e rmX5_worth s m args below meth c H locs 0 0 (MQ below (Qi D (cM t a) (aW 17 a) (tyM t) r S') args s 0 0 (aW 17 a)) (F0 m 92 ls []) := by
  obtain ⟨⟨hx, hb, hml, hown, hts⟩, hr, hlk⟩ := id E
  unfold b_X5_worth_92 at hf
  refine lv_aload_n hx hb dX5_worth_92 rfl (lv_at hl 0 rfl) ?_
  refine lv_sipush (v := (-2000)) hx hb dX5_worth_93 (by decide) ?_
  obtain ⟨r29, S28, h27, hf⟩ := bd2_o hf
  refine w_callVi (As := [.int (-2000)]) (rest := []) hX E w (c_X5_no l hX h27) (cwV 1 hts gX5_worth_X5_no rfl rfl rfl hd_X5_no ⟨Nat.le_of_ble_eq_true rfl, Nat.le_of_ble_eq_true rfl⟩) (ci := 5) rfl (cM_at_0 t a S) rfl hl.1 rfl (Nat.le_of_ble_eq_true rfl) dX5_worth_96 ⟨Nat.le_refl _, Nat.le_refl _⟩ (fun H locs w => ?_)
  refine lv_goto (tgt := 110) hx hb dX5_worth_99 (by decide) ?_
  exact w_reti E w hf dX5_worth_110
set_option maxHeartbeats 4000000 in
set_option maxRecDepth 100000 in
theorem k_X5_worth_24 {p : Program} {l : Launch} {e : Env} {s : State} {m : MethodId} {args : Array Value} {below : List Frame} {meth : Method} {c : Code} {D : va_G} {t : Nat → ClassId} {a : Nat → Nat} {X : State → Prop} {N : Nat} {r : Int32} {S' : ST} (hX : XOk (aW 17 a) X) (E : EN p s m args meth c cX5_worth RX5 wsX5_worth (some .int) 4) {S : ST} {H : Heap} {locs : List Loc} {ls : Array Slot} (w : Wd D (cM t a) (aW 17 a) (tyM t) X S s H locs) (hl : lv_has ls 4 [(0, .ref (a 0))]) (hf : b_X5_worth_24 N S = some (r, S')) : W p l e rmX5_worth s m args below meth c H locs 0 0 (MQ below (Qi D (cM t a) (aW 17 a) (tyM t) r S') args s 0 0 (aW 17 a)) (F0 m 24 ls []) := by
  obtain ⟨⟨hx, hb, hml, hown, hts⟩, hr, hlk⟩ := id E
  unfold b_X5_worth_24 at hf
  refine lv_aload_n hx hb dX5_worth_24 rfl (lv_at hl 0 rfl) ?_
  refine lv_sipush (v := (-1000)) hx hb dX5_worth_25 (by decide) ?_
  obtain ⟨r26, S25, h24, hf⟩ := bd2_o hf
  refine w_callVi (As := [.int (-1000)]) (rest := []) hX E w (c_X5_bad l hX h24) (cwV 1 hts gX5_worth_X5_bad rfl rfl rfl hd_X5_bad ⟨Nat.le_of_ble_eq_true rfl, Nat.le_of_ble_eq_true rfl⟩) (ci := 5) rfl (cM_at_0 t a S) rfl hl.1 rfl (Nat.le_of_ble_eq_true rfl) dX5_worth_28 ⟨Nat.le_refl _, Nat.le_refl _⟩ (fun H locs w => ?_)
  exact w_reti E w hf dX5_worth_31
set_option maxHeartbeats 4000000 in
set_option maxRecDepth 100000 in
theorem k_X5_worth_E {p : Program} {l : Launch} {e : Env} {s : State} {m : MethodId} {args : Array Value} {below : List Frame} {meth : Method} {c : Code} {D : va_G} {t : Nat → ClassId} {a : Nat → Nat} {X : State → Prop} {N : Nat} {r : Int32} {S' : ST} (hX : XOk (aW 17 a) X) (E : EN p s m args meth c cX5_worth RX5 wsX5_worth (some .int) 4) {S : ST} {x1 : Int32} {x2 : Int32} {H : Heap} {locs : List Loc} {ls : Array Slot} (w : Wd D (cM t a) (aW 17 a) (tyM t) X S s H locs) (hl : lv_has ls 4 [(0, .ref (a 0)), (1, .int x1), (2, .int x2)]) (hf : f_X5_worth N S x1 x2 = some (r, S')) : W p l e rmX5_worth s m args below meth c H locs 0 0 (MQ below (Qi D (cM t a) (aW 17 a) (tyM t) r S') args s 0 0 (aW 17 a)) (F0 m 0 ls []) := by
  obtain ⟨⟨hx, hb, hml, hown, hts⟩, hr, hlk⟩ := id E
  unfold f_X5_worth at hf
  refine lv_aload_n hx hb dX5_worth_0 rfl (lv_at hl 0 rfl) ?_
  refine lv_iload_n hx hb dX5_worth_1 rfl (lv_at hl 1 rfl) ?_
  obtain ⟨r3, S2, h1, hf⟩ := bd2_o hf
  refine w_callVi (As := [.int x1]) (rest := []) hX E w (c_X5_isWants l hX h1) (cwV 1 hts gX5_worth_X5_isWants rfl rfl rfl hd_X5_isWants ⟨Nat.le_of_ble_eq_true rfl, Nat.le_of_ble_eq_true rfl⟩) (ci := 5) rfl (cM_at_0 t a S) rfl hl.1 rfl (Nat.le_of_ble_eq_true rfl) dX5_worth_2 ⟨Nat.le_refl _, Nat.le_refl _⟩ (fun H locs w => ?_)
  refine lv_if_eq (tgt := 24) hx hb dX5_worth_5 (by decide) (fun h4 => ?_) (fun h4 => ?_)
  · replace hf := it_t h4 hf
    exact k_X5_worth_24 hX E w (lv_sub hl [0] rfl) hf
  · replace hf := it_f h4 hf
    refine lv_aload_n hx hb dX5_worth_8 rfl (lv_at hl 0 rfl) ?_
    refine lv_iload_n hx hb dX5_worth_9 rfl (lv_at hl 2 rfl) ?_
    obtain ⟨r7, S6, h5, hf⟩ := bd2_o hf
    refine w_callVi (As := [.int x2]) (rest := []) hX E w (c_X5_isShop l hX h5) (cwV 1 hts gX5_worth_X5_isShop rfl rfl rfl hd_X5_isShop ⟨Nat.le_of_ble_eq_true rfl, Nat.le_of_ble_eq_true rfl⟩) (ci := 5) rfl (cM_at_0 t a S2) rfl hl.1 rfl (Nat.le_of_ble_eq_true rfl) dX5_worth_10 ⟨Nat.le_refl _, Nat.le_refl _⟩ (fun H locs w => ?_)
    refine lv_if_eq (tgt := 24) hx hb dX5_worth_13 (by decide) (fun h8 => ?_) (fun h8 => ?_)
    · replace hf := it_t h8 hf
      exact k_X5_worth_24 hX E w (lv_sub hl [0] rfl) hf
    · replace hf := it_f h8 hf
      refine lv_aload_n hx hb dX5_worth_16 rfl (lv_at hl 0 rfl) ?_
      refine lv_iload_n hx hb dX5_worth_17 rfl (lv_at hl 2 rfl) ?_
      obtain ⟨r11, S10, h9, hf⟩ := bd2_o hf
      refine w_callVi (As := [.int x2]) (rest := []) hX E w (c_X5_isFree l hX h9) (cwV 1 hts gX5_worth_X5_isFree rfl rfl rfl hd_X5_isFree ⟨Nat.le_of_ble_eq_true rfl, Nat.le_of_ble_eq_true rfl⟩) (ci := 5) rfl (cM_at_0 t a S6) rfl hl.1 rfl (Nat.le_of_ble_eq_true rfl) dX5_worth_18 ⟨Nat.le_refl _, Nat.le_refl _⟩ (fun H locs w => ?_)
      refine lv_if_eq (tgt := 32) hx hb dX5_worth_21 (by decide) (fun h12 => ?_) (fun h12 => ?_)
      · replace hf := it_t h12 hf
        refine lv_aload_n hx hb dX5_worth_32 rfl (lv_at hl 0 rfl) ?_
        refine lv_iconst (v := (-1)) hx hb dX5_worth_33 (by decide) ?_
        obtain ⟨S14, h13, hf⟩ := bd1_o hf
        refine w_callVv (As := [.int (-1)]) (rest := []) hX E w (c_X5_goAll l hX h13) (cwV 1 hts gX5_worth_X5_goAll rfl rfl rfl hd_X5_goAll ⟨Nat.le_of_ble_eq_true rfl, Nat.le_of_ble_eq_true rfl⟩) (ci := 5) rfl (cM_at_0 t a S10) rfl hl.1 rfl (Nat.le_of_ble_eq_true rfl) dX5_worth_34 ⟨Nat.le_refl _, Nat.le_refl _⟩ (fun H locs w => ?_)
        refine lv_aload_n hx hb dX5_worth_37 rfl (lv_at hl 0 rfl) ?_
        refine w_get E w in_X5_worth_X5 0 (cM_at_0 t a S14) rfl 16 (by decide) fl_X5_worth_26 rfl rfl dX5_worth_38 ?_
        refine lv_iload_n hx hb dX5_worth_41 rfl (lv_at hl 1 rfl) ?_
        obtain ⟨h15, hf⟩ := it_n hf
        refine w_ald E w 6 0 (cM_at_6 t a S14) rfl h15 rfl dX5_worth_42 ?_
        refine lv_istore_n (lv' := [(3, .int (S14 6 x1.toNatClampNeg)), (0, .ref (a 0)), (1, .int x1), (2, .int x2)]) hx hb dX5_worth_43 rfl hl (by decide) rfl (fun ls hl => ?_)
        refine lv_aload_n hx hb dX5_worth_44 rfl (lv_at hl 1 rfl) ?_
        refine w_get E w in_X5_worth_X5 0 (cM_at_0 t a S14) rfl 0 (by decide) fl_X5_worth_7 rfl rfl dX5_worth_45 ?_
        refine lv_bipush (v := 30) hx hb dX5_worth_48 (by decide) ?_
        refine lv_dup2_11 hx hb dX5_worth_50 rfl rfl ?_
        refine w_ald E w 1 0 (cM_at_1 t a S14) rfl (by decide) (congrArg (S14 1) ix_30) dX5_worth_51 ?_
        refine lv_iconst (v := 1) hx hb dX5_worth_52 (by decide) ?_
        refine lv_iload_n hx hb dX5_worth_53 rfl (lv_at hl 3 rfl) ?_
        refine lv_ishl hx hb dX5_worth_54 ?_
        refine lv_ixor hx hb dX5_worth_55 ?_
        obtain ⟨S16, eS16, hf⟩ := nm_o hf
        refine w_ast (S1 := S16) E w 1 0 (cM_at_1 t a S14) rfl (by decide) ix_30 ((cM_st_1 t a S14 30 ((S14 1 30) ^^^ (1 <<< (x2 &&& 31)))).trans (congrArg (cM t a) eS16.symm)) dX5_worth_56 (fun H locs w => ?_)
        refine lv_aload_n hx hb dX5_worth_57 rfl (lv_at hl 1 rfl) ?_
        refine lv_iconst (v := (-1)) hx hb dX5_worth_58 (by decide) ?_
        obtain ⟨S18, h17, hf⟩ := bd1_o hf
        refine w_callVv (As := [.int (-1)]) (rest := []) hX E w (c_X5_goAll l hX h17) (cwV 1 hts gX5_worth_X5_goAll rfl rfl rfl hd_X5_goAll ⟨Nat.le_of_ble_eq_true rfl, Nat.le_of_ble_eq_true rfl⟩) (ci := 5) rfl (cM_at_0 t a S16) rfl hl.1 rfl (Nat.le_of_ble_eq_true rfl) dX5_worth_59 ⟨Nat.le_refl _, Nat.le_refl _⟩ (fun H locs w => ?_)
        refine lv_aload_n hx hb dX5_worth_62 rfl (lv_at hl 1 rfl) ?_
        refine w_get E w in_X5_worth_X5 0 (cM_at_0 t a S18) rfl 0 (by decide) fl_X5_worth_7 rfl rfl dX5_worth_63 ?_
        refine lv_bipush (v := 30) hx hb dX5_worth_66 (by decide) ?_
        refine lv_dup2_11 hx hb dX5_worth_68 rfl rfl ?_
        refine w_ald E w 1 0 (cM_at_1 t a S18) rfl (by decide) (congrArg (S18 1) ix_30) dX5_worth_69 ?_
        refine lv_iconst (v := 1) hx hb dX5_worth_70 (by decide) ?_
        refine lv_iload_n hx hb dX5_worth_71 rfl (lv_at hl 3 rfl) ?_
        refine lv_ishl hx hb dX5_worth_72 ?_
        refine lv_ixor hx hb dX5_worth_73 ?_
        obtain ⟨S19, eS19, hf⟩ := nm_o hf
        refine w_ast (S1 := S19) E w 1 0 (cM_at_1 t a S18) rfl (by decide) ix_30 ((cM_st_1 t a S18 30 ((S18 1 30) ^^^ (1 <<< (x2 &&& 31)))).trans (congrArg (cM t a) eS19.symm)) dX5_worth_74 (fun H locs w => ?_)
        refine lv_iload_n hx hb dX5_worth_75 rfl (lv_at hl 0 rfl) ?_
        refine lv_ldc hx hb hown (hts _ ct_X5_worth_226) dX5_worth_76 ?_
        refine lv_icmp_eq (tgt := 92) hx hb dX5_worth_78 (by decide) (fun h20 => ?_) (fun h20 => ?_)
        · replace hf := it_t h20 hf
          exact k_X5_worth_92 hX E w (lv_sub hl [1] rfl) hf
        · replace hf := it_f h20 hf
          refine lv_aload_n hx hb dX5_worth_81 rfl (lv_at hl 1 rfl) ?_
          refine w_get E w in_X5_worth_X5 0 (cM_at_0 t a S19) rfl 16 (by decide) fl_X5_worth_26 rfl rfl dX5_worth_82 ?_
          refine lv_iload_n hx hb dX5_worth_85 rfl (lv_at hl 2 rfl) ?_
          obtain ⟨h21, hf⟩ := it_n hf
          refine w_ald E w 6 0 (cM_at_6 t a S19) rfl h21 rfl dX5_worth_86 ?_
          refine lv_ldc hx hb hown (hts _ ct_X5_worth_226) dX5_worth_87 ?_
          refine lv_icmp_ne (tgt := 102) hx hb dX5_worth_89 (by decide) (fun h22 => ?_) (fun h22 => ?_)
          · replace hf := it_f h22 hf
            refine lv_iload_n hx hb dX5_worth_102 rfl (lv_at hl 0 rfl) ?_
            refine lv_aload_n hx hb dX5_worth_103 rfl (lv_at hl 1 rfl) ?_
            refine w_get E w in_X5_worth_X5 0 (cM_at_0 t a S19) rfl 16 (by decide) fl_X5_worth_26 rfl rfl dX5_worth_104 ?_
            refine lv_iload_n hx hb dX5_worth_107 rfl (lv_at hl 2 rfl) ?_
            obtain ⟨h23, hf⟩ := it_n hf
            refine w_ald E w 6 0 (cM_at_6 t a S19) rfl h23 rfl dX5_worth_108 ?_
            refine lv_isub hx hb dX5_worth_109 ?_
            exact w_reti E w hf dX5_worth_110
          · replace hf := it_t h22 hf
            exact k_X5_worth_92 hX E w (lv_sub hl [1] rfl) hf
      · replace hf := it_f h12 hf
        exact k_X5_worth_24 hX E w (lv_sub hl [0] rfl) hf
theorem c_X5_worth (l : Launch) {D : va_G} {t : Nat → ClassId} {a : Nat → Nat} {X : State → Prop} (hX : XOk (aW 17 a) X) {N : Nat} {S : ST} {x1 : Int32} {x2 : Int32} {r : Int32} {S' : ST} (hf : f_X5_worth N S x1 x2 = some (r, S')) : Co l yX5_worth wsX5_worth rmX5_worth D (cM t a) (aW 17 a) (tyM t) X [.ref (a 0), .int x1, .int x2] S (Qi D (cM t a) (aW 17 a) (tyM t) r S') :=
  co_of (cc := cX5_worth) (maxL := 4) (ret := (some .int)) (lv := [(0, .ref (a 0)), (1, .int x1), (2, .int x2)]) (by decide) rfl rfl (Nat.le_of_ble_eq_true rfl) rfl rfl (fun p e s m below meth c ls E hl w => k_X5_worth_E hX E w hl hf)
-- X5_hadWith
theorem in_X5_hadWith_X5 : ∀ w ∈ u_ws RX5 TX5 28, w ∈ wsX5_hadWith := by decide +kernel
theorem fl_X5_hadWith_26 : Cond.fieldLink RX5 26 "NextDoorModel" "bestPaid" "[I" ∈ wsX5_hadWith := by decide +kernel
theorem ct_X5_hadWith_226 : Cond.constant RX5 226 1000000 ∈ wsX5_hadWith := by decide +kernel
abbrev rmX5_hadWith : Room := { frames := 6, cells := 0, slots := 0, locals := 135 }
set_option maxHeartbeats 4000000 in
set_option maxRecDepth 100000 in
theorem k_X5_hadWith_38 {p : Program} {l : Launch} {e : Env} {s : State} {m : MethodId} {args : Array Value} {below : List Frame} {meth : Method} {c : Code} {D : va_G} {t : Nat → ClassId} {a : Nat → Nat} {X : State → Prop} {N : Nat} {r : Int32} {S' : ST} (hX : XOk (aW 17 a) X) (E : EN p s m args meth c cX5_hadWith RX5 wsX5_hadWith (some .int) 4) {k9 : ST → Int32 → Int32 → Option (Int32 × ST)} (hk9 : ∀ {S : ST} {x2 : Int32} {x3 : Int32} {H : Heap} {locs : List Loc} {ls : Array Slot}, Wd D (cM t a) (aW 17 a) (tyM t) X S s H locs → lv_has ls 4 [(0, .ref (a 0)), (2, .int x2), (3, .int x3)] → k9 S x2 x3 = some (r, S') → W p l e rmX5_hadWith s m args below meth c H locs 0 0 (MQ below (Qi D (cM t a) (aW 17 a) (tyM t) r S') args s 0 0 (aW 17 a)) (F0 m 9 ls [])) {S : ST} {x3 : Int32} {s0 : Int32} {s1 : Int32} {H : Heap} {locs : List Loc} {ls : Array Slot} (w : Wd D (cM t a) (aW 17 a) (tyM t) X S s H locs) (hl : lv_has ls 4 [(0, .ref (a 0)), (3, .int x3)]) (hf : b_X5_hadWith_38 N k9 S x3 s0 s1 = some (r, S')) : W p l e rmX5_hadWith s m args below meth c H locs 0 0 (MQ below (Qi D (cM t a) (aW 17 a) (tyM t) r S') args s 0 0 (aW 17 a)) (F0 m 38 ls [.int s1, .int s0]) := by
  obtain ⟨⟨hx, hb, hml, hown, hts⟩, hr, hlk⟩ := id E
  unfold b_X5_hadWith_38 at hf
  refine lv_ior hx hb dX5_hadWith_38 ?_
  refine lv_istore_n (lv' := [(2, .int (s0 ||| s1)), (0, .ref (a 0)), (3, .int x3)]) hx hb dX5_hadWith_39 rfl hl (by decide) rfl (fun ls hl => ?_)
  refine lv_iinc (v := x3 + 1) (lv' := [(3, .int (x3 + 1)), (2, .int (s0 ||| s1)), (0, .ref (a 0))]) hx hb dX5_hadWith_40 hl (k := 2) rfl rfl (by decide) rfl (fun ls hl => ?_)
  refine lv_goto (tgt := 9) hx hb dX5_hadWith_43 (by decide) ?_
  exact hk9 w (lv_sub hl [2, 1, 0] rfl) hf
set_option maxHeartbeats 4000000 in
set_option maxRecDepth 100000 in
theorem k_X5_hadWith_9 {p : Program} {l : Launch} {e : Env} {s : State} {m : MethodId} {args : Array Value} {below : List Frame} {meth : Method} {c : Code} {D : va_G} {t : Nat → ClassId} {a : Nat → Nat} {X : State → Prop} {N : Nat} {r : Int32} {S' : ST} (hX : XOk (aW 17 a) X) (E : EN p s m args meth c cX5_hadWith RX5 wsX5_hadWith (some .int) 4) : ∀ (n : Nat) {S : ST} {x2 : Int32} {x3 : Int32} {H : Heap} {locs : List Loc} {ls : Array Slot}, Wd D (cM t a) (aW 17 a) (tyM t) X S s H locs → lv_has ls 4 [(0, .ref (a 0)), (2, .int x2), (3, .int x3)] → b_X5_hadWith_9 N n S x2 x3 = some (r, S') → W p l e rmX5_hadWith s m args below meth c H locs 0 0 (MQ below (Qi D (cM t a) (aW 17 a) (tyM t) r S') args s 0 0 (aW 17 a)) (F0 m 9 ls []) := by
  obtain ⟨⟨hx, hb, hml, hown, hts⟩, hr, hlk⟩ := id E
  intro n
  induction n with
  | zero => intro S x2 x3 H locs ls w hl hf; cases hf
  | succ n ih =>
    intro S x2 x3 H locs ls w hl hf
    unfold b_X5_hadWith_9 at hf
    refine lv_iload_n hx hb dX5_hadWith_9 rfl (lv_at hl 2 rfl) ?_
    refine lv_aload_n hx hb dX5_hadWith_10 rfl (lv_at hl 0 rfl) ?_
    obtain ⟨r5, S4, h3, hf⟩ := bd2_o hf
    refine w_callVi (As := []) (rest := [.int x3]) hX E w (c_X5_shops l hX h3) (cwV 0 hts gX5_hadWith_X5_shops rfl rfl rfl hd_X5_shops ⟨Nat.le_of_ble_eq_true rfl, Nat.le_of_ble_eq_true rfl⟩) (ci := 5) rfl (cM_at_0 t a S) rfl hl.1 rfl (Nat.le_of_ble_eq_true rfl) dX5_hadWith_11 ⟨Nat.le_refl _, Nat.le_refl _⟩ (fun H locs w => ?_)
    refine lv_icmp_ge (tgt := 46) hx hb dX5_hadWith_14 (by decide) (fun h6 => ?_) (fun h6 => ?_)
    · replace hf := it_t h6 hf
      refine lv_iload_n hx hb dX5_hadWith_46 rfl (lv_at hl 1 rfl) ?_
      exact w_reti E w hf dX5_hadWith_47
    · replace hf := it_f h6 hf
      refine lv_iload_n hx hb dX5_hadWith_17 rfl (lv_at hl 1 rfl) ?_
      refine lv_aload_n hx hb dX5_hadWith_18 rfl (lv_at hl 0 rfl) ?_
      refine w_get E w in_X5_hadWith_X5 0 (cM_at_0 t a S4) rfl 16 (by decide) fl_X5_hadWith_26 rfl rfl dX5_hadWith_19 ?_
      refine lv_iconst (v := 1) hx hb dX5_hadWith_22 (by decide) ?_
      refine lv_iload_n hx hb dX5_hadWith_23 rfl (lv_at hl 2 rfl) ?_
      refine lv_ishl hx hb dX5_hadWith_24 ?_
      obtain ⟨h7, hf⟩ := it_n hf
      refine w_ald E w 6 0 (cM_at_6 t a S4) rfl h7 rfl dX5_hadWith_25 ?_
      refine lv_ldc hx hb hown (hts _ ct_X5_hadWith_226) dX5_hadWith_26 ?_
      refine lv_icmp_ne (tgt := 35) hx hb dX5_hadWith_28 (by decide) (fun h8 => ?_) (fun h8 => ?_)
      · replace hf := it_f h8 hf
        refine lv_iconst (v := 1) hx hb dX5_hadWith_35 (by decide) ?_
        refine lv_iload_n hx hb dX5_hadWith_36 rfl (lv_at hl 2 rfl) ?_
        refine lv_ishl hx hb dX5_hadWith_37 ?_
        exact k_X5_hadWith_38 hX E (fun w hl hf => ih w hl hf) w (lv_sub hl [0, 2] rfl) hf
      · replace hf := it_t h8 hf
        refine lv_iconst (v := 0) hx hb dX5_hadWith_31 (by decide) ?_
        refine lv_goto (tgt := 38) hx hb dX5_hadWith_32 (by decide) ?_
        exact k_X5_hadWith_38 hX E (fun w hl hf => ih w hl hf) w (lv_sub hl [0, 2] rfl) hf
set_option maxHeartbeats 4000000 in
set_option maxRecDepth 100000 in
theorem k_X5_hadWith_E {p : Program} {l : Launch} {e : Env} {s : State} {m : MethodId} {args : Array Value} {below : List Frame} {meth : Method} {c : Code} {D : va_G} {t : Nat → ClassId} {a : Nat → Nat} {X : State → Prop} {N : Nat} {r : Int32} {S' : ST} (hX : XOk (aW 17 a) X) (E : EN p s m args meth c cX5_hadWith RX5 wsX5_hadWith (some .int) 4) {S : ST} {x1 : Int32} {H : Heap} {locs : List Loc} {ls : Array Slot} (w : Wd D (cM t a) (aW 17 a) (tyM t) X S s H locs) (hl : lv_has ls 4 [(0, .ref (a 0)), (1, .int x1)]) (hf : f_X5_hadWith N S x1 = some (r, S')) : W p l e rmX5_hadWith s m args below meth c H locs 0 0 (MQ below (Qi D (cM t a) (aW 17 a) (tyM t) r S') args s 0 0 (aW 17 a)) (F0 m 0 ls []) := by
  obtain ⟨⟨hx, hb, hml, hown, hts⟩, hr, hlk⟩ := id E
  unfold f_X5_hadWith at hf
  refine lv_aload_n hx hb dX5_hadWith_0 rfl (lv_at hl 0 rfl) ?_
  refine lv_iload_n hx hb dX5_hadWith_1 rfl (lv_at hl 1 rfl) ?_
  obtain ⟨S2, h1, hf⟩ := bd1_o hf
  refine w_callVv (As := [.int x1]) (rest := []) hX E w (c_X5_goAll l hX h1) (cwV 1 hts gX5_hadWith_X5_goAll rfl rfl rfl hd_X5_goAll ⟨Nat.le_of_ble_eq_true rfl, Nat.le_of_ble_eq_true rfl⟩) (ci := 5) rfl (cM_at_0 t a S) rfl hl.1 rfl (Nat.le_of_ble_eq_true rfl) dX5_hadWith_2 ⟨Nat.le_refl _, Nat.le_refl _⟩ (fun H locs w => ?_)
  refine lv_iconst (v := 0) hx hb dX5_hadWith_5 (by decide) ?_
  refine lv_istore_n (lv' := [(2, .int 0), (0, .ref (a 0)), (1, .int x1)]) hx hb dX5_hadWith_6 rfl hl (by decide) rfl (fun ls hl => ?_)
  refine lv_iconst (v := 0) hx hb dX5_hadWith_7 (by decide) ?_
  refine lv_istore_n (lv' := [(3, .int 0), (2, .int 0), (0, .ref (a 0)), (1, .int x1)]) hx hb dX5_hadWith_8 rfl hl (by decide) rfl (fun ls hl => ?_)
  exact k_X5_hadWith_9 hX E N w (lv_sub hl [2, 1, 0] rfl) hf
theorem c_X5_hadWith (l : Launch) {D : va_G} {t : Nat → ClassId} {a : Nat → Nat} {X : State → Prop} (hX : XOk (aW 17 a) X) {N : Nat} {S : ST} {x1 : Int32} {r : Int32} {S' : ST} (hf : f_X5_hadWith N S x1 = some (r, S')) : Co l yX5_hadWith wsX5_hadWith rmX5_hadWith D (cM t a) (aW 17 a) (tyM t) X [.ref (a 0), .int x1] S (Qi D (cM t a) (aW 17 a) (tyM t) r S') :=
  co_of (cc := cX5_hadWith) (maxL := 4) (ret := (some .int)) (lv := [(0, .ref (a 0)), (1, .int x1)]) (by decide) rfl rfl (Nat.le_of_ble_eq_true rfl) rfl rfl (fun p e s m below meth c ls E hl w => k_X5_hadWith_E hX E w hl hf)
-- X5_shutOut
theorem hd_X5_hadWith : yX5_hadWith.cls = RX5 ∧ yX5_hadWith.cls ≠ "java/lang/invoke/MethodHandle" ∧ yX5_hadWith.cls ≠ "java/lang/invoke/VarHandle" ∧ (parseMethodDescriptor yX5_hadWith.desc).map (fun d => d.parameters.length) = some 1 := by decide +kernel
abbrev rmX5_shutOut : Room := { frames := 7, cells := 0, slots := 0, locals := 158 }
set_option maxHeartbeats 4000000 in
set_option maxRecDepth 100000 in
theorem k_X5_shutOut_E {p : Program} {l : Launch} {e : Env} {s : State} {m : MethodId} {args : Array Value} {below : List Frame} {meth : Method} {c : Code} {D : va_G} {t : Nat → ClassId} {a : Nat → Nat} {X : State → Prop} {N : Nat} {r : Int32} {S' : ST} (hX : XOk (aW 17 a) X) (E : EN p s m args meth c cX5_shutOut RX5 wsX5_shutOut (some .int) 3) {S : ST} {x1 : Int32} {H : Heap} {locs : List Loc} {ls : Array Slot} (w : Wd D (cM t a) (aW 17 a) (tyM t) X S s H locs) (hl : lv_has ls 3 [(0, .ref (a 0)), (1, .int x1)]) (hf : f_X5_shutOut N S x1 = some (r, S')) : W p l e rmX5_shutOut s m args below meth c H locs 0 0 (MQ below (Qi D (cM t a) (aW 17 a) (tyM t) r S') args s 0 0 (aW 17 a)) (F0 m 0 ls []) := by
  obtain ⟨⟨hx, hb, hml, hown, hts⟩, hr, hlk⟩ := id E
  unfold f_X5_shutOut at hf
  refine lv_aload_n hx hb dX5_shutOut_0 rfl (lv_at hl 0 rfl) ?_
  refine lv_iload_n hx hb dX5_shutOut_1 rfl (lv_at hl 1 rfl) ?_
  obtain ⟨r3, S2, h1, hf⟩ := bd2_o hf
  refine w_callVi (As := [.int x1]) (rest := []) hX E w (c_X5_isShop l hX h1) (cwV 1 hts gX5_shutOut_X5_isShop rfl rfl rfl hd_X5_isShop ⟨Nat.le_of_ble_eq_true rfl, Nat.le_of_ble_eq_true rfl⟩) (ci := 5) rfl (cM_at_0 t a S) rfl hl.1 rfl (Nat.le_of_ble_eq_true rfl) dX5_shutOut_2 ⟨Nat.le_refl _, Nat.le_refl _⟩ (fun H locs w => ?_)
  refine lv_if_ne (tgt := 15) hx hb dX5_shutOut_5 (by decide) (fun h4 => ?_) (fun h4 => ?_)
  · replace hf := it_f h4 hf
    refine lv_aload_n hx hb dX5_shutOut_15 rfl (lv_at hl 0 rfl) ?_
    refine lv_iconst (v := (-1)) hx hb dX5_shutOut_16 (by decide) ?_
    obtain ⟨r7, S6, h5, hf⟩ := bd2_o hf
    refine w_callVi (As := [.int (-1)]) (rest := []) hX E w (c_X5_hadWith l hX h5) (cwV 1 hts gX5_shutOut_X5_hadWith rfl rfl rfl hd_X5_hadWith ⟨Nat.le_of_ble_eq_true rfl, Nat.le_of_ble_eq_true rfl⟩) (ci := 5) rfl (cM_at_0 t a S2) rfl hl.1 rfl (Nat.le_of_ble_eq_true rfl) dX5_shutOut_17 ⟨Nat.le_refl _, Nat.le_refl _⟩ (fun H locs w => ?_)
    refine lv_istore_n (lv' := [(2, .int r7), (0, .ref (a 0)), (1, .int x1)]) hx hb dX5_shutOut_20 rfl hl (by decide) rfl (fun ls hl => ?_)
    refine lv_iload_n hx hb dX5_shutOut_21 rfl (lv_at hl 0 rfl) ?_
    refine lv_aload_n hx hb dX5_shutOut_22 rfl (lv_at hl 1 rfl) ?_
    refine lv_iload_n hx hb dX5_shutOut_23 rfl (lv_at hl 2 rfl) ?_
    obtain ⟨r10, S9, h8, hf⟩ := bd2_o hf
    refine w_callVi (As := [.int x1]) (rest := [.int r7]) hX E w (c_X5_hadWith l hX h8) (cwV 1 hts gX5_shutOut_X5_hadWith rfl rfl rfl hd_X5_hadWith ⟨Nat.le_of_ble_eq_true rfl, Nat.le_of_ble_eq_true rfl⟩) (ci := 5) rfl (cM_at_0 t a S6) rfl hl.1 rfl (Nat.le_of_ble_eq_true rfl) dX5_shutOut_24 ⟨Nat.le_refl _, Nat.le_refl _⟩ (fun H locs w => ?_)
    refine lv_iconst (v := (-1)) hx hb dX5_shutOut_27 (by decide) ?_
    refine lv_ixor hx hb dX5_shutOut_28 ?_
    refine lv_iand hx hb dX5_shutOut_29 ?_
    exact w_reti E w hf dX5_shutOut_30
  · replace hf := it_t h4 hf
    refine lv_aload_n hx hb dX5_shutOut_8 rfl (lv_at hl 0 rfl) ?_
    refine lv_bipush (v := (-2)) hx hb dX5_shutOut_9 (by decide) ?_
    obtain ⟨r13, S12, h11, hf⟩ := bd2_o hf
    refine w_callVi (As := [.int (-2)]) (rest := []) hX E w (c_X5_bad l hX h11) (cwV 1 hts gX5_shutOut_X5_bad rfl rfl rfl hd_X5_bad ⟨Nat.le_of_ble_eq_true rfl, Nat.le_of_ble_eq_true rfl⟩) (ci := 5) rfl (cM_at_0 t a S2) rfl hl.1 rfl (Nat.le_of_ble_eq_true rfl) dX5_shutOut_11 ⟨Nat.le_refl _, Nat.le_refl _⟩ (fun H locs w => ?_)
    exact w_reti E w hf dX5_shutOut_14
theorem c_X5_shutOut (l : Launch) {D : va_G} {t : Nat → ClassId} {a : Nat → Nat} {X : State → Prop} (hX : XOk (aW 17 a) X) {N : Nat} {S : ST} {x1 : Int32} {r : Int32} {S' : ST} (hf : f_X5_shutOut N S x1 = some (r, S')) : Co l yX5_shutOut wsX5_shutOut rmX5_shutOut D (cM t a) (aW 17 a) (tyM t) X [.ref (a 0), .int x1] S (Qi D (cM t a) (aW 17 a) (tyM t) r S') :=
  co_of (cc := cX5_shutOut) (maxL := 3) (ret := (some .int)) (lv := [(0, .ref (a 0)), (1, .int x1)]) (by decide) rfl rfl (Nat.le_of_ble_eq_true rfl) rfl rfl (fun p e s m below meth c ls E hl w => k_X5_shutOut_E hX E w hl hf)
-- X5_isNewPair
abbrev rmX5_isNewPair : Room := { frames := 1, cells := 0, slots := 0, locals := 22 }
set_option maxHeartbeats 4000000 in
set_option maxRecDepth 100000 in
theorem k_X5_isNewPair_E {p : Program} {l : Launch} {e : Env} {s : State} {m : MethodId} {args : Array Value} {below : List Frame} {meth : Method} {c : Code} {D : va_G} {t : Nat → ClassId} {a : Nat → Nat} {X : State → Prop} {N : Nat} {r : Int32} {S' : ST} (hX : XOk (aW 17 a) X) (E : EN p s m args meth c cX5_isNewPair RX5 wsX5_isNewPair (some .boolean) 4) {S : ST} {x1 : Int32} {H : Heap} {locs : List Loc} {ls : Array Slot} (w : Wd D (cM t a) (aW 17 a) (tyM t) X S s H locs) (hl : lv_has ls 4 [(0, .ref (a 0)), (1, .int x1)]) (hf : f_X5_isNewPair N S x1 = some (r, S')) : W p l e rmX5_isNewPair s m args below meth c H locs 0 0 (MQ below (Qi D (cM t a) (aW 17 a) (tyM t) r S') args s 0 0 (aW 17 a)) (F0 m 0 ls []) := by
  obtain ⟨⟨hx, hb, hml, hown, hts⟩, hr, hlk⟩ := id E
  unfold f_X5_isNewPair at hf
  refine lv_iload_n hx hb dX5_isNewPair_0 rfl (lv_at hl 1 rfl) ?_
  refine lv_aload_n hx hb dX5_isNewPair_1 rfl (lv_at hl 0 rfl) ?_
  obtain ⟨r3, S2, h1, hf⟩ := bd2_o hf
  refine w_callVi (As := []) (rest := [.int x1]) hX E w (c_X5_shops l hX h1) (cwV 0 hts gX5_isNewPair_X5_shops rfl rfl rfl hd_X5_shops ⟨Nat.le_of_ble_eq_true rfl, Nat.le_of_ble_eq_true rfl⟩) (ci := 5) rfl (cM_at_0 t a S) rfl hl.1 rfl (Nat.le_of_ble_eq_true rfl) dX5_isNewPair_2 ⟨Nat.le_refl _, Nat.le_refl _⟩ (fun H locs w => ?_)
  obtain ⟨h4, hf⟩ := it_n hf
  refine lv_idiv hx hb dX5_isNewPair_5 h4 ?_
  refine lv_istore_n (lv' := [(2, .int (x1 / r3)), (0, .ref (a 0)), (1, .int x1)]) hx hb dX5_isNewPair_6 rfl hl (by decide) rfl (fun ls hl => ?_)
  refine lv_iload_n hx hb dX5_isNewPair_7 rfl (lv_at hl 2 rfl) ?_
  refine lv_aload_n hx hb dX5_isNewPair_8 rfl (lv_at hl 1 rfl) ?_
  obtain ⟨r7, S6, h5, hf⟩ := bd2_o hf
  refine w_callVi (As := []) (rest := [.int x1]) hX E w (c_X5_shops l hX h5) (cwV 0 hts gX5_isNewPair_X5_shops rfl rfl rfl hd_X5_shops ⟨Nat.le_of_ble_eq_true rfl, Nat.le_of_ble_eq_true rfl⟩) (ci := 5) rfl (cM_at_0 t a S2) rfl hl.1 rfl (Nat.le_of_ble_eq_true rfl) dX5_isNewPair_9 ⟨Nat.le_refl _, Nat.le_refl _⟩ (fun H locs w => ?_)
  obtain ⟨h8, hf⟩ := it_n hf
  refine lv_irem hx hb dX5_isNewPair_12 h8 ?_
  refine lv_istore_n (lv' := [(3, .int (x1 - x1 / r7 * r7)), (2, .int (x1 / r3)), (0, .ref (a 0)), (1, .int x1)]) hx hb dX5_isNewPair_13 rfl hl (by decide) rfl (fun ls hl => ?_)
  refine lv_iload_n hx hb dX5_isNewPair_14 rfl (lv_at hl 1 rfl) ?_
  refine lv_iload_n hx hb dX5_isNewPair_15 rfl (lv_at hl 0 rfl) ?_
  refine lv_icmp_ge (tgt := 32) hx hb dX5_isNewPair_16 (by decide) (fun h9 => ?_) (fun h9 => ?_)
  · replace hf := it_t h9 hf
    refine lv_iconst (v := 0) hx hb dX5_isNewPair_32 (by decide) ?_
    exact w_retz E w (by decide) hf dX5_isNewPair_33
  · replace hf := it_f h9 hf
    refine lv_aload_n hx hb dX5_isNewPair_19 rfl (lv_at hl 2 rfl) ?_
    refine lv_iload_n hx hb dX5_isNewPair_20 rfl (lv_at hl 1 rfl) ?_
    refine lv_iload_n hx hb dX5_isNewPair_21 rfl (lv_at hl 0 rfl) ?_
    obtain ⟨r12, S11, h10, hf⟩ := bd2_o hf
    refine w_callVi (As := [.int (x1 / r3), .int (x1 - x1 / r7 * r7)]) (rest := []) hX E w (c_X5_areNear l hX h10) (cwV 2 hts gX5_isNewPair_X5_areNear rfl rfl rfl hd_X5_areNear ⟨Nat.le_of_ble_eq_true rfl, Nat.le_of_ble_eq_true rfl⟩) (ci := 5) rfl (cM_at_0 t a S6) rfl hl.1 rfl (Nat.le_of_ble_eq_true rfl) dX5_isNewPair_22 ⟨Nat.le_refl _, Nat.le_refl _⟩ (fun H locs w => ?_)
    refine lv_if_ne (tgt := 32) hx hb dX5_isNewPair_25 (by decide) (fun h13 => ?_) (fun h13 => ?_)
    · replace hf := it_f h13 hf
      refine lv_iconst (v := 0) hx hb dX5_isNewPair_32 (by decide) ?_
      exact w_retz E w (by decide) hf dX5_isNewPair_33
    · replace hf := it_t h13 hf
      refine lv_iconst (v := 1) hx hb dX5_isNewPair_28 (by decide) ?_
      refine lv_goto (tgt := 33) hx hb dX5_isNewPair_29 (by decide) ?_
      exact w_retz E w (by decide) hf dX5_isNewPair_33
theorem c_X5_isNewPair (l : Launch) {D : va_G} {t : Nat → ClassId} {a : Nat → Nat} {X : State → Prop} (hX : XOk (aW 17 a) X) {N : Nat} {S : ST} {x1 : Int32} {r : Int32} {S' : ST} (hf : f_X5_isNewPair N S x1 = some (r, S')) : Co l yX5_isNewPair wsX5_isNewPair rmX5_isNewPair D (cM t a) (aW 17 a) (tyM t) X [.ref (a 0), .int x1] S (Qi D (cM t a) (aW 17 a) (tyM t) r S') :=
  co_of (cc := cX5_isNewPair) (maxL := 4) (ret := (some .boolean)) (lv := [(0, .ref (a 0)), (1, .int x1)]) (by decide) rfl rfl (Nat.le_of_ble_eq_true rfl) rfl rfl (fun p e s m below meth c ls E hl w => k_X5_isNewPair_E hX E w hl hf)
