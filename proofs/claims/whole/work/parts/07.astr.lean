def xR (kd vd : Nat → Nat) (a : Nat → Nat) (U : State) : Prop := va_Nw (.methodLinkNest RX0 121 yX4_isIn "NextDoor") U ∧ vk_S 4 lenW bytW kd vd (aW 56 a) U U.heap ∧ va_Z "java/lang/String" "COMPACT_STRINGS" "Z" (.int 1) (aW 56 a) U U.heap ∧ va_Zq "jdk/internal/util/Preconditions" "SIOOBE_FORMATTER" "Ljava/util/function/BiFunction;" (aW 56 a) U U.heap ∧ vk_R RX0 55 "shop" (kd 0) U ∧ vk_R RX0 67 "next" (kd 1) U ∧ vk_R RX0 72 "free" (kd 2) U ∧ vk_R RX0 77 "buy" (kd 3) U
theorem w_retn {p : Program} {l : Launch} {e : Env} {R : Room} {s : State} {m : MethodId} {args : Array Value} {below : List Frame} {meth : Method} {c : Code} {H : Heap} {locs : List Loc} {cc : ByteArray} {own : String} {Ts : List Cond} {nL pc : Nat} {ls : Array Slot} {D : va_G} {cs : ST → va_W} {A : Nat → Prop} {tys : List (ClassId × FieldType)} {X : State → Prop} {S : ST} {ty : FieldType} (E : EN p s m args meth c cc own Ts (some ty) nL) (w : Wd D cs A tys X S s H locs) {v : Int32} (hn : narrow ty (.int v) = .int v) (hdg : decode cc pc = .ok (.ireturn, 1)) : W p l e R s m args below meth c H locs 0 0 (MQ below (Qi D cs A tys v S) args s 0 0 A) (F0 m pc ls [.int v]) := by
  obtain ⟨⟨hx, hb, hml, hown, hts⟩, hr, hlk⟩ := E
  obtain ⟨hP, hD, hK, hS, hX⟩ := w
  exact W.zret hx hb hr hn (fun t ht hW => ⟨⟨v, S, rfl, ⟨rfl, rfl⟩, by rw [ht]; exact hP, hD, va_K.moved hW.alike hK⟩, hS.F ht⟩) hS.2.2 hdg
section SR
variable {D : va_G} {t : Nat → ClassId} {a : Nat → Nat} {X : State → Prop} {kd vd : Nat → Nat} {S : ST}
theorem sw_1 : Cond.fieldLink RJ0 38 "java/lang/String" "COMPACT_STRINGS" "Z" ∈ wsJ0_coder_7d493 := by decide +kernel
theorem sw_2 : Cond.fieldLink RJ0 15 "java/lang/String" "coder" "B" ∈ wsJ0_coder_7d493 := by decide +kernel
theorem sw_3 : Cond.fieldLink RJ0 38 "java/lang/String" "COMPACT_STRINGS" "Z" ∈ wsJ0_isLatin1_aae02 := by decide +kernel
theorem sw_4 : Cond.fieldLink RJ0 15 "java/lang/String" "coder" "B" ∈ wsJ0_isLatin1_aae02 := by decide +kernel
theorem sw_5 : Cond.fieldLink RJ0 9 "java/lang/String" "value" "[B" ∈ wsJ0_length_8abf5 := by decide +kernel
theorem sw_6 : Cond.fieldLink RJ0 9 "java/lang/String" "value" "[B" ∈ wsJ0_charAt_5068e := by decide +kernel
theorem sw_7 : Cond.fieldLink RJ0 1053 "jdk/internal/util/Preconditions" "SIOOBE_FORMATTER" "Ljava/util/function/BiFunction;" ∈ wsJ0_checkIndex_df160 := by decide +kernel
abbrev rmJ0_coder : Room := { frames := 0, cells := 0, slots := 0, locals := 0 }
abbrev rmJ0_check : Room := { frames := 1, cells := 0, slots := 0, locals := 30 }
abbrev rmJ1_charAt : Room := { frames := 2, cells := 0, slots := 0, locals := 60 }
abbrev rmJ0_length : Room := { frames := 1, cells := 0, slots := 0, locals := 30 }
abbrev rmJ0_charAt : Room := { frames := 3, cells := 0, slots := 0, locals := 90 }
set_option maxHeartbeats 4000000 in
set_option maxRecDepth 100000 in
theorem j_coder (l : Launch) (hN : ∀ U : State, X U → xR kd vd a U) (i : Nat) (hi : i < 4) : Co l yJ0_coder_7d493 wsJ0_coder_7d493 rmJ0_coder D (cC t a) (aW 56 a) (tyC t) X [.ref (kd i)] S (Qi D (cC t a) (aW 56 a) (tyC t) 0 S) :=
  co_of (cc := cJ0_coder_7d493) (maxL := 1) (ret := some .byte) (lv := [(0, .ref (kd i))]) (by decide) rfl rfl (Nat.le_of_ble_eq_true rfl) rfl rfl (fun p e s m below meth c ls E hl w => by
    obtain ⟨⟨hx, hb, hml, hown, hts⟩, hr, hlk⟩ := id E
    have hR := hN s w.2.2.2.2
    refine va_gets hx hb hR.2.2.1 w.2.2.2.1 hown (hts _ sw_1) (fun _ h => h) dJ0_coder_7d493_0 ?_
    refine lv_if_eq (tgt := 13) hx hb dJ0_coder_7d493_3 (by decide) (fun h => absurd h (by decide)) (fun _ => ?_)
    refine lv_aload_n hx hb dJ0_coder_7d493_6 rfl (lv_at hl 0 rfl) ?_
    refine vk_getf hx hb (hR.2.1.1 i hi).2.1 w.2.2.2.1 hown (hts _ sw_2) (fun _ h => h) dJ0_coder_7d493_7 ?_
    refine lv_goto (tgt := 14) hx hb dJ0_coder_7d493_10 (by decide) ?_
    exact w_retn E w (by decide) dJ0_coder_7d493_14)
set_option maxHeartbeats 4000000 in
set_option maxRecDepth 100000 in
theorem j_latin (l : Launch) (hN : ∀ U : State, X U → xR kd vd a U) (i : Nat) (hi : i < 4) : Co l yJ0_isLatin1_aae02 wsJ0_isLatin1_aae02 rmJ0_coder D (cC t a) (aW 56 a) (tyC t) X [.ref (kd i)] S (Qi D (cC t a) (aW 56 a) (tyC t) 1 S) :=
  co_of (cc := cJ0_isLatin1_aae02) (maxL := 1) (ret := some .boolean) (lv := [(0, .ref (kd i))]) (by decide) rfl rfl (Nat.le_of_ble_eq_true rfl) rfl rfl (fun p e s m below meth c ls E hl w => by
    obtain ⟨⟨hx, hb, hml, hown, hts⟩, hr, hlk⟩ := id E
    have hR := hN s w.2.2.2.2
    refine va_gets hx hb hR.2.2.1 w.2.2.2.1 hown (hts _ sw_3) (fun _ h => h) dJ0_isLatin1_aae02_0 ?_
    refine lv_if_eq (tgt := 17) hx hb dJ0_isLatin1_aae02_3 (by decide) (fun h => absurd h (by decide)) (fun _ => ?_)
    refine lv_aload_n hx hb dJ0_isLatin1_aae02_6 rfl (lv_at hl 0 rfl) ?_
    refine vk_getf hx hb (hR.2.1.1 i hi).2.1 w.2.2.2.1 hown (hts _ sw_4) (fun _ h => h) dJ0_isLatin1_aae02_7 ?_
    refine lv_if_ne (tgt := 17) hx hb dJ0_isLatin1_aae02_10 (by decide) (fun h => absurd rfl h) (fun _ => ?_)
    refine lv_iconst (v := 1) hx hb dJ0_isLatin1_aae02_13 (by decide) ?_
    refine lv_goto (tgt := 18) hx hb dJ0_isLatin1_aae02_14 (by decide) ?_
    exact w_retn E w (by decide) dJ0_isLatin1_aae02_18)
theorem sw_rc {i : Nat} {s : State} {H : Heap} {locs : List Loc} (hN : ∀ U : State, X U → xR kd vd a U) (w : Wd D (cC t a) (aW 56 a) (tyC t) X S s H locs) (hi : i < 4) : ∃ cell : Cell, H[kd i]? = some cell ∧ cell.vm.isStatics = false ∧ s.vm.findClass "java/lang/String" = some cell.cls := vk_recv (hN s w.2.2.2.2).2.1 hi w.2.2.2.1
-- a call of a method of a word
theorem w_callKi {p : Program} {l : Launch} {e : Env} {R : Room} {s : State} {m : MethodId} {args : Array Value} {below : List Frame} {meth : Method} {c : Code} {H : Heap} {locs : List Loc} {cells slots : Nat} {Q : State → Prop} {cc : ByteArray} {own : String} {Ts : List Cond} {ret : Option FieldType} {nL pc : Nat} {ls : Array Slot} {rest : List Value} {y : MethodName} {bytes : ByteArray} {maxL n index : Nat} {ret' : Option FieldType} {ws : List Cond} {rm : Room} {As : List Value} {b : Nat} {S1 : ST} {r : Int32} (hXok : XOk (aW 56 a) X) (E : EN p s m args meth c cc own Ts ret nL) (w : Wd D (cC t a) (aW 56 a) (tyC t) X S s H locs) (hM : Co l y ws rm D (cC t a) (aW 56 a) (tyC t) X (.ref b :: As) S (Qi D (cC t a) (aW 56 a) (tyC t) r S1)) (cw : CallW R s args own "java/lang/String" index y bytes maxL ret' ws rm 0 0 n) (hrc : ∃ cell : Cell, H[b]? = some cell ∧ cell.vm.isStatics = false ∧ s.vm.findClass "java/lang/String" = some cell.cls) (hn : As.length = n) (hsize : ls.size = nL) {st0 : List Value} (hst : st0 = As.reverse ++ .ref b :: rest) (hW : (rest.map fun v => v.category).sum ≤ 8) (hdg : decode cc pc = .ok (.invokevirtual index, 3)) (hR : cells + 0 ≤ R.cells ∧ slots + 0 ≤ R.slots)
    (kk : ∀ (H1 : Heap) (locs1 : List Loc), Wd D (cC t a) (aW 56 a) (tyC t) X S1 s H1 locs1 → W p l e R s m args below meth c H1 locs1 cells slots Q (F0 m (pc + 3) ls (.int r :: rest))) : W p l e R s m args below meth c H locs cells slots Q (F0 m pc ls st0) := by
  refine va_calli (va_runV (As := As) (rest := rest) E.1 hM cw ⟨pw_blind hXok, hrc, pw_pre hXok w⟩ rfl hn hsize hst (lv_room hW) hdg hR) w.2.2.2.1 (fun _ _ h => h) (fun _ h => h) (fun r' u t H1 locs1 ht hvm hw hB hz1 hk1 hS => ?_)
  obtain ⟨rfl, rfl⟩ := hw
  exact kk H1 locs1 (pw_back w ht hvm hB hS)
theorem hd_J0_coder : yJ0_coder_7d493.cls = "java/lang/String" ∧ yJ0_coder_7d493.cls ≠ "java/lang/invoke/MethodHandle" ∧ yJ0_coder_7d493.cls ≠ "java/lang/invoke/VarHandle" ∧ (parseMethodDescriptor yJ0_coder_7d493.desc).map (fun d => d.parameters.length) = some 0 := by decide +kernel
theorem hd_J0_latin : yJ0_isLatin1_aae02.cls = "java/lang/String" ∧ yJ0_isLatin1_aae02.cls ≠ "java/lang/invoke/MethodHandle" ∧ yJ0_isLatin1_aae02.cls ≠ "java/lang/invoke/VarHandle" ∧ (parseMethodDescriptor yJ0_isLatin1_aae02.desc).map (fun d => d.parameters.length) = some 0 := by decide +kernel
theorem hd_J1_charAt : yJ1_charAt_3b067.cls ≠ "java/lang/invoke/MethodHandle" ∧ yJ1_charAt_3b067.cls ≠ "java/lang/invoke/VarHandle" ∧ (parseMethodDescriptor yJ1_charAt_3b067.desc).map (fun d => d.parameters.length) = some 2 := by decide +kernel
theorem hd_J0_check : yJ0_checkIndex_df160.cls ≠ "java/lang/invoke/MethodHandle" ∧ yJ0_checkIndex_df160.cls ≠ "java/lang/invoke/VarHandle" ∧ (parseMethodDescriptor yJ0_checkIndex_df160.desc).map (fun d => d.parameters.length) = some 2 := by decide +kernel
theorem hd_J3_check : yJ3_checkIndex_8e157.cls ≠ "java/lang/invoke/MethodHandle" ∧ yJ3_checkIndex_8e157.cls ≠ "java/lang/invoke/VarHandle" ∧ (parseMethodDescriptor yJ3_checkIndex_8e157.desc).map (fun d => d.parameters.length) = some 3 := by decide +kernel
theorem j_len_eq : ∀ i, i < 4 → (nI (lenW.getD i 0)) >>> ((0 : Int32) &&& 31) = nI (lenW.getD i 0) := by decide +kernel
set_option maxHeartbeats 4000000 in
set_option maxRecDepth 100000 in
theorem j_length (l : Launch) (hX : XOk (aW 56 a) X) (hN : ∀ U : State, X U → xR kd vd a U) (i : Nat) (hi : i < 4) : Co l yJ0_length_8abf5 wsJ0_length_8abf5 rmJ0_length D (cC t a) (aW 56 a) (tyC t) X [.ref (kd i)] S (Qi D (cC t a) (aW 56 a) (tyC t) (nI (lenW.getD i 0)) S) :=
  co_of (cc := cJ0_length_8abf5) (maxL := 1) (ret := some .int) (lv := [(0, .ref (kd i))]) (by decide) rfl rfl (Nat.le_of_ble_eq_true rfl) rfl rfl (fun p e s m below meth c ls E hl w => by
    obtain ⟨⟨hx, hb, hml, hown, hts⟩, hr, hlk⟩ := id E
    have hR := hN s w.2.2.2.2
    refine lv_aload_n hx hb dJ0_length_8abf5_0 rfl (lv_at hl 0 rfl) ?_
    refine vk_getf hx hb (hR.2.1.1 i hi).2.2.1 w.2.2.2.1 hown (hts _ sw_5) (fun _ h => h) dJ0_length_8abf5_1 ?_
    refine va_tlen hx hb (hR.2.1.1 i hi).2.2.2 w.2.2.2.1 rfl dJ0_length_8abf5_4 ?_
    refine lv_aload_n hx hb dJ0_length_8abf5_5 rfl (lv_at hl 0 rfl) ?_
    refine w_callKi (As := []) (rest := [.int (nI (lenW.getD i 0))]) hX E w (j_coder l hN i hi) (cwV 0 hts gJ0_length_8abf5_J0_coder_7d493 rfl rfl rfl hd_J0_coder ⟨Nat.le_of_ble_eq_true rfl, Nat.le_of_ble_eq_true rfl⟩) (sw_rc hN w hi) rfl hl.1 rfl (Nat.le_of_ble_eq_true rfl) dJ0_length_8abf5_6 ⟨Nat.le_refl _, Nat.le_refl _⟩ (fun H locs w => ?_)
    refine lv_ishr hx hb dJ0_length_8abf5_9 ?_
    rw [j_len_eq i hi]
    exact w_reti E w rfl dJ0_length_8abf5_10)
-- checkIndex where the index is in
theorem j_check3 (l : Launch) (hX : XOk (aW 56 a) X) (fv : Value) (hfv : fv = .null ∨ ∃ q : Nat, fv = .ref q) {k n : Int32} (h0 : ¬ k < 0) (h1 : k < n) : Co l yJ3_checkIndex_8e157 wsJ3_checkIndex_8e157 rmJ0_coder D (cC t a) (aW 56 a) (tyC t) X [.int k, .int n, fv] S (Qi D (cC t a) (aW 56 a) (tyC t) k S) := by
  rcases hfv with rfl | ⟨q, rfl⟩
  · exact co_of (cc := cJ3_checkIndex_8e157) (maxL := 3) (ret := some .int) (lv := [(0, .int k), (1, .int n), (2, .null)]) (by decide) rfl rfl (Nat.le_of_ble_eq_true rfl) rfl rfl (fun p e s m below meth c ls E hl w => by
      obtain ⟨⟨hx, hb, hml, hown, hts⟩, hr, hlk⟩ := id E
      refine lv_iload_n hx hb dJ3_checkIndex_8e157_0 rfl (lv_at hl 0 rfl) ?_
      refine lv_if_lt (tgt := 9) hx hb dJ3_checkIndex_8e157_1 (by decide) (fun h => absurd h h0) (fun _ => ?_)
      refine lv_iload_n hx hb dJ3_checkIndex_8e157_4 rfl (lv_at hl 0 rfl) ?_
      refine lv_iload_n hx hb dJ3_checkIndex_8e157_5 rfl (lv_at hl 1 rfl) ?_
      refine lv_icmp_lt (tgt := 16) hx hb dJ3_checkIndex_8e157_6 (by decide) (fun _ => ?_) (fun h => absurd h1 h)
      refine lv_iload_n hx hb dJ3_checkIndex_8e157_16 rfl (lv_at hl 0 rfl) ?_
      exact w_reti E w rfl dJ3_checkIndex_8e157_17)
  · exact co_of (cc := cJ3_checkIndex_8e157) (maxL := 3) (ret := some .int) (lv := [(0, .int k), (1, .int n), (2, .ref q)]) (by decide) rfl rfl (Nat.le_of_ble_eq_true rfl) rfl rfl (fun p e s m below meth c ls E hl w => by
      obtain ⟨⟨hx, hb, hml, hown, hts⟩, hr, hlk⟩ := id E
      refine lv_iload_n hx hb dJ3_checkIndex_8e157_0 rfl (lv_at hl 0 rfl) ?_
      refine lv_if_lt (tgt := 9) hx hb dJ3_checkIndex_8e157_1 (by decide) (fun h => absurd h h0) (fun _ => ?_)
      refine lv_iload_n hx hb dJ3_checkIndex_8e157_4 rfl (lv_at hl 0 rfl) ?_
      refine lv_iload_n hx hb dJ3_checkIndex_8e157_5 rfl (lv_at hl 1 rfl) ?_
      refine lv_icmp_lt (tgt := 16) hx hb dJ3_checkIndex_8e157_6 (by decide) (fun _ => ?_) (fun h => absurd h1 h)
      refine lv_iload_n hx hb dJ3_checkIndex_8e157_16 rfl (lv_at hl 0 rfl) ?_
      exact w_reti E w rfl dJ3_checkIndex_8e157_17)
set_option maxHeartbeats 4000000 in
set_option maxRecDepth 100000 in
theorem j_check (l : Launch) (hX : XOk (aW 56 a) X) (hN : ∀ U : State, X U → xR kd vd a U) {k n : Int32} (h0 : ¬ k < 0) (h1 : k < n) : Co l yJ0_checkIndex_df160 wsJ0_checkIndex_df160 rmJ0_check D (cC t a) (aW 56 a) (tyC t) X [.int k, .int n] S (Qv D (cC t a) (aW 56 a) (tyC t) S) :=
  co_of (cc := cJ0_checkIndex_df160) (maxL := 2) (ret := none) (lv := [(0, .int k), (1, .int n)]) (by decide) rfl rfl (Nat.le_of_ble_eq_true rfl) rfl rfl (fun p e s m below meth c ls E hl w => by
    obtain ⟨⟨hx, hb, hml, hown, hts⟩, hr, hlk⟩ := id E
    have hR := hN s w.2.2.2.2
    refine lv_iload_n hx hb dJ0_checkIndex_df160_0 rfl (lv_at hl 0 rfl) ?_
    refine lv_iload_n hx hb dJ0_checkIndex_df160_1 rfl (lv_at hl 1 rfl) ?_
    obtain ⟨fv, hfv, hZ⟩ : ∃ fv : Value, (fv = .null ∨ ∃ q : Nat, fv = .ref q) ∧ va_Z "jdk/internal/util/Preconditions" "SIOOBE_FORMATTER" "Ljava/util/function/BiFunction;" fv (aW 56 a) s s.heap := by
      rcases hR.2.2.2.1 with h | ⟨q, h⟩
      · exact ⟨_, Or.inl rfl, h⟩
      · exact ⟨_, Or.inr ⟨q, rfl⟩, h⟩
    refine va_gets hx hb hZ w.2.2.2.1 hown (hts _ sw_7) (fun _ h => h) dJ0_checkIndex_df160_2 ?_
    refine w_callSi (As := [.int k, .int n, fv]) (rest := []) hX E w (j_check3 l hX fv hfv h0 h1) (va_cwS 3 hts gJ0_checkIndex_df160_J3_checkIndex_8e157 rfl rfl rfl hd_J3_check ⟨Nat.le_of_ble_eq_true rfl, Nat.le_of_ble_eq_true rfl⟩) rfl hl.1 rfl (Nat.le_of_ble_eq_true rfl) dJ0_checkIndex_df160_5 ⟨Nat.le_refl _, Nat.le_refl _⟩ (fun H locs w => ?_)
    refine lv_pop hx hb dJ0_checkIndex_df160_8 rfl ?_
    exact w_retv E w rfl dJ0_checkIndex_df160_9)
theorem w_callSv {p : Program} {l : Launch} {e : Env} {R : Room} {s : State} {m : MethodId} {args : Array Value} {below : List Frame} {meth : Method} {c : Code} {H : Heap} {locs : List Loc} {cells slots : Nat} {Q : State → Prop} {cc : ByteArray} {own : String} {Ts : List Cond} {ret : Option FieldType} {nL pc : Nat} {ls : Array Slot} {rest : List Value} {y : MethodName} {bytes : ByteArray} {maxL n index : Nat} {ret' : Option FieldType} {ws : List Cond} {rm : Room} {As : List Value} {S1 : ST} {cs : ST → va_W} {A : Nat → Prop} {tys : List (ClassId × FieldType)} (hXok : XOk A X) (E : EN p s m args meth c cc own Ts ret nL) (w : Wd D cs A tys X S s H locs) (hM : Co l y ws rm D cs A tys X As S (Qv D cs A tys S1)) (cw : CallB R s args own index y bytes maxL ret' ws rm 0 0 n ∧ (Cond.static y).before args s = true) (hn : As.length = n) (hsize : ls.size = nL) {st0 : List Value} (hst : st0 = As.reverse ++ rest) (hW : (rest.map fun v => v.category).sum ≤ 8) (hdg : decode cc pc = .ok (.invokestatic index, 3)) (hR : cells + 0 ≤ R.cells ∧ slots + 0 ≤ R.slots)
    (kk : ∀ (H1 : Heap) (locs1 : List Loc), Wd D cs A tys X S1 s H1 locs1 → W p l e R s m args below meth c H1 locs1 cells slots Q (F0 m (pc + 3) ls rest)) : W p l e R s m args below meth c H locs cells slots Q (F0 m pc ls st0) := by
  refine va_callv (va_runS (As := As) (rest := rest) E.1 hM cw ⟨pw_blind hXok, pw_pre hXok w⟩ rfl hn hsize hst (lv_room hW) hdg hR) w.2.2.2.1 (fun _ _ h => h) (fun _ h => h) (fun u t H1 locs1 ht hvm hw hB hz1 hk1 hS => ?_)
  obtain rfl := hw
  exact kk H1 locs1 (pw_back w ht hvm hB hS)
theorem j_chr : ∀ i, i < 4 → ∀ k, k < lenW.getD i 0 → ((((bytW.getD i []).getD k 0 &&& 255).toUInt32 % 65536).toInt32 = (bytW.getD i []).getD k 0 ∧ narrow .char (.int ((bytW.getD i []).getD k 0)) = .int ((bytW.getD i []).getD k 0)) := by decide +kernel
theorem j_lenb : ∀ i, i < 4 → lenW.getD i 0 < 2 ^ 31 := by decide
set_option maxHeartbeats 4000000 in
set_option maxRecDepth 100000 in
theorem j_charAt1 (l : Launch) (hX : XOk (aW 56 a) X) (hN : ∀ U : State, X U → xR kd vd a U) (i : Nat) (hi : i < 4) (k : Nat) (hk : k < lenW.getD i 0) : Co l yJ1_charAt_3b067 wsJ1_charAt_3b067 rmJ1_charAt D (cC t a) (aW 56 a) (tyC t) X [.ref (vd i), .int (nI k)] S (Qi D (cC t a) (aW 56 a) (tyC t) ((bytW.getD i []).getD k 0) S) :=
  co_of (cc := cJ1_charAt_3b067) (maxL := 2) (ret := some .char) (lv := [(0, .ref (vd i)), (1, .int (nI k))]) (by decide) rfl rfl (Nat.le_of_ble_eq_true rfl) rfl rfl (fun p e s m below meth c ls E hl w => by
    obtain ⟨⟨hx, hb, hml, hown, hts⟩, hr, hlk⟩ := id E
    have hR := hN s w.2.2.2.2
    have hlb := j_lenb i hi
    refine lv_iload_n hx hb dJ1_charAt_3b067_0 rfl (lv_at hl 1 rfl) ?_
    refine lv_aload_n hx hb dJ1_charAt_3b067_1 rfl (lv_at hl 0 rfl) ?_
    refine va_tlen hx hb (hR.2.1.1 i hi).2.2.2 w.2.2.2.1 rfl dJ1_charAt_3b067_2 ?_
    refine w_callSv (As := [.int (nI k), .int (nI (lenW.getD i 0))]) (rest := []) hX E w (j_check l hX hN (nI_pos (by omega)) (nI_lt hk hlb)) (va_cwS 2 hts gJ1_charAt_3b067_J0_checkIndex_df160 rfl rfl rfl hd_J0_check ⟨Nat.le_of_ble_eq_true rfl, Nat.le_of_ble_eq_true rfl⟩) rfl hl.1 rfl (Nat.le_of_ble_eq_true rfl) dJ1_charAt_3b067_3 ⟨Nat.le_refl _, Nat.le_refl _⟩ (fun H locs w => ?_)
    refine lv_aload_n hx hb dJ1_charAt_3b067_6 rfl (lv_at hl 0 rfl) ?_
    refine lv_iload_n hx hb dJ1_charAt_3b067_7 rfl (lv_at hl 1 rfl) ?_
    refine va_tb hx hb (hR.2.1.1 i hi).2.2.2 w.2.2.2.1 (nI_in hk hlb) (congrArg (fun j => Value.int ((bytW.getD i []).getD j 0)) (nI_clamp (n := k) (by omega))) dJ1_charAt_3b067_8 ?_
    refine lv_sipush (v := 255) hx hb dJ1_charAt_3b067_9 (by decide) ?_
    refine lv_iand hx hb dJ1_charAt_3b067_12 ?_
    refine lv_i2c hx hb dJ1_charAt_3b067_13 (j_chr i hi k hk).1 ?_
    exact w_retn E w (j_chr i hi k hk).2 dJ1_charAt_3b067_14)
set_option maxHeartbeats 4000000 in
set_option maxRecDepth 100000 in
theorem j_charAt (l : Launch) (hX : XOk (aW 56 a) X) (hN : ∀ U : State, X U → xR kd vd a U) (i : Nat) (hi : i < 4) (k : Nat) (hk : k < lenW.getD i 0) : Co l yJ0_charAt_5068e wsJ0_charAt_5068e rmJ0_charAt D (cC t a) (aW 56 a) (tyC t) X [.ref (kd i), .int (nI k)] S (Qi D (cC t a) (aW 56 a) (tyC t) ((bytW.getD i []).getD k 0) S) :=
  co_of (cc := cJ0_charAt_5068e) (maxL := 2) (ret := some .char) (lv := [(0, .ref (kd i)), (1, .int (nI k))]) (by decide) rfl rfl (Nat.le_of_ble_eq_true rfl) rfl rfl (fun p e s m below meth c ls E hl w => by
    obtain ⟨⟨hx, hb, hml, hown, hts⟩, hr, hlk⟩ := id E
    have hR := hN s w.2.2.2.2
    refine lv_aload_n hx hb dJ0_charAt_5068e_0 rfl (lv_at hl 0 rfl) ?_
    refine w_callKi (As := []) (rest := []) hX E w (j_latin l hN i hi) (cwV 0 hts gJ0_charAt_5068e_J0_isLatin1_aae02 rfl rfl rfl hd_J0_latin ⟨Nat.le_of_ble_eq_true rfl, Nat.le_of_ble_eq_true rfl⟩) (sw_rc hN w hi) rfl hl.1 rfl (Nat.le_of_ble_eq_true rfl) dJ0_charAt_5068e_1 ⟨Nat.le_refl _, Nat.le_refl _⟩ (fun H locs w => ?_)
    refine lv_if_eq (tgt := 16) hx hb dJ0_charAt_5068e_4 (by decide) (fun h => absurd h (by decide)) (fun _ => ?_)
    refine lv_aload_n hx hb dJ0_charAt_5068e_7 rfl (lv_at hl 0 rfl) ?_
    refine vk_getf hx hb (hR.2.1.1 i hi).2.2.1 w.2.2.2.1 hown (hts _ sw_6) (fun _ h => h) dJ0_charAt_5068e_8 ?_
    refine lv_iload_n hx hb dJ0_charAt_5068e_11 rfl (lv_at hl 1 rfl) ?_
    refine w_callSi (As := [.ref (vd i), .int (nI k)]) (rest := []) hX E w (j_charAt1 l hX hN i hi k hk) (va_cwS 2 hts gJ0_charAt_5068e_J1_charAt_3b067 rfl rfl rfl hd_J1_charAt ⟨Nat.le_of_ble_eq_true rfl, Nat.le_of_ble_eq_true rfl⟩) rfl hl.1 rfl (Nat.le_of_ble_eq_true rfl) dJ0_charAt_5068e_12 ⟨Nat.le_refl _, Nat.le_refl _⟩ (fun H locs w => ?_)
    exact w_retn E w (j_chr i hi k hk).2 dJ0_charAt_5068e_15)
theorem nI_back {x : Int32} (h : ¬ x < 0) : nI x.toNatClampNeg = x := by
  obtain ⟨j, hj, rfl⟩ := nI_of h
  rw [nI_clamp hj]
theorem j_charAtX (l : Launch) (hX : XOk (aW 56 a) X) (hN : ∀ U : State, X U → xR kd vd a U) (i : Nat) (hi : i < 4) {x : Int32} (h : ¬ (x < 0 ∨ lenW.getD i 0 ≤ x.toNatClampNeg)) : Co l yJ0_charAt_5068e wsJ0_charAt_5068e rmJ0_charAt D (cC t a) (aW 56 a) (tyC t) X [.ref (kd i), .int x] S (Qi D (cC t a) (aW 56 a) (tyC t) ((bytW.getD i []).getD x.toNatClampNeg 0) S) := by
  have h1 := not_or.mp h
  have h2 := j_charAt (S := S) (t := t) (D := D) l hX hN i hi x.toNatClampNeg (Nat.not_le.mp h1.2)
  rw [nI_back h1.1] at h2
  exact h2
end SR
