theorem itL_4 : Cond.instantiable RX4 9 ∈ wsL_law := by decide +kernel
theorem itL_5 : Cond.instantiable RX5 28 ∈ wsL_law := by decide +kernel
theorem itL_0 : Cond.instantiable RX0 9 ∈ wsL_law := by decide +kernel
theorem itL_1 : Cond.instantiable RX1 12 ∈ wsL_law := by decide +kernel
theorem itL_2 : Cond.instantiable RX2 16 ∈ wsL_law := by decide +kernel
theorem itL_3 : Cond.instantiable RX3 7 ∈ wsL_law := by decide +kernel
theorem clL_7 : Cond.classLink RL 7 RX4 ∈ wsL_law := by decide +kernel
theorem clL_10 : Cond.classLink RL 10 RX5 ∈ wsL_law := by decide +kernel
theorem iiL_4 : Cond.initialized RX4 ∈ wsL_law := by decide +kernel
theorem iiL_5 : Cond.initialized RX5 ∈ wsL_law := by decide +kernel
theorem mlL_4 : Cond.methodLink RL 9 yX4_init ∈ wsL_law := by decide +kernel
theorem mlL_5 : Cond.methodLink RL 12 yX5_init ∈ wsL_law := by decide +kernel
theorem imL_4 : Cond.instanceMethod yX4_init ∈ wsL_law := by decide +kernel
theorem imL_5 : Cond.instanceMethod yX5_init ∈ wsL_law := by decide +kernel
theorem acL_I : Cond.arrayClass .int ∈ wsL_law := by decide +kernel
theorem acL_Z : Cond.arrayClass .boolean ∈ wsL_law := by decide +kernel
theorem hdI_4 : yX4_init.cls ≠ "java/lang/invoke/MethodHandle" ∧ yX4_init.cls ≠ "java/lang/invoke/VarHandle" ∧ (parseMethodDescriptor yX4_init.desc).map (fun d => d.parameters.length) = some 0 := by decide +kernel
theorem hdI_5 : yX5_init.cls ≠ "java/lang/invoke/MethodHandle" ∧ yX5_init.cls ≠ "java/lang/invoke/VarHandle" ∧ (parseMethodDescriptor yX5_init.desc).map (fun d => d.parameters.length) = some 0 := by decide +kernel
set_option maxHeartbeats 4000000 in
set_option maxRecDepth 100000 in
theorem whole_open {p : Program} {e : Env} {s : State} {m : MethodId} {below : List Frame} {meth : Method} {c : Code} (l : Launch) {b L : Nat} {xs : Nat → Int32} (hL : L ≤ 2560) (C0 : lw_At p s m meth c b L xs) {N : Nat} {Rl : ST → ST → Prop} (hR0 : Rl S0C S0M) (st_shop : ∀ (x0 : Int32) (x1 : Int32) (x2 : Int32) (x3 : Int32), StI Rl (fun S => f_X4_shop N S x0 x1 x2 x3) (fun S => f_X5_shop N S x0 x1 x2 x3)) (st_next : ∀ (x0 : Int32) (x1 : Int32) (x2 : Int32), (x2 = 0 ∨ x2 = 1) → StI Rl (fun S => f_X4_next N S x0 x1 x2) (fun S => f_X5_next N S x0 x1 x2)) (st_free : ∀ (x0 : Int32) (x1 : Int32), (x1 = 0 ∨ x1 = 1) → StI Rl (fun S => f_X4_free N S x0 x1) (fun S => f_X5_free N S x0 x1)) (st_put : ∀ (x0 : Int32) (x1 : Int32), StI Rl (fun S => f_X4_put N S x0 x1) (fun S => f_X5_put N S x0 x1)) (st_price : ∀ (x0 : Int32) (x1 : Int32), StI Rl (fun S => f_X4_price N S x0 x1) (fun S => f_X5_price N S x0 x1)) (st_type : ∀ (x0 : Int64) (x1 : Int32), StI Rl (fun S => f_X4_type N S x0 x1) (fun S => f_X5_type N S x0 x1)) (st_clear :  StI Rl (fun S => f_X4_clear N S) (fun S => f_X5_clear N S)) (st_read :  StI Rl (fun S => f_X4_read N S) (fun S => f_X5_read N S)) (st_errand : ∀ (x0 : Int32), StI Rl (fun S => f_X4_errand N S x0) (fun S => f_X5_errand N S x0)) (st_cheapest : ∀ (x0 : Int32) (x1 : Int32), StI Rl (fun S => f_X4_cheapest N S x0 x1) (fun S => f_X5_cheapest N S x0 x1)) (st_row : ∀ (x0 : Int32) (x1 : Int32), StI Rl (fun S => f_X4_row N S x0 x1) (fun S => f_X5_row N S x0 x1)) (st_soonest : ∀ (x0 : Int32), StI Rl (fun S => f_X4_soonest N S x0) (fun S => f_X5_soonest N S x0)) (st_worth : ∀ (x0 : Int32) (x1 : Int32), StI Rl (fun S => f_X4_worth N S x0 x1) (fun S => f_X5_worth N S x0 x1)) (st_shutOut : ∀ (x0 : Int32), StI Rl (fun S => f_X4_shutOut N S x0) (fun S => f_X5_shutOut N S x0)) (st_mends : ∀ (x0 : Int32), StI Rl (fun S => f_X4_mends N S x0) (fun S => f_X5_mends N S x0)) (st_buyer : ∀ (x0 : Int32) (x1 : Int32), StI Rl (fun S => f_X4_buyer N S x0 x1) (fun S => f_X5_buyer N S x0 x1)) (st_leave :  StI Rl (fun S => f_X4_leave N S) (fun S => f_X5_leave N S)) (st_takes : ∀ (x0 : Int32), StI Rl (fun S => f_X4_takes N S x0) (fun S => f_X5_takes N S x0)) (st_asks : ∀ (x0 : Int32), StI Rl (fun S => f_X4_asks N S x0) (fun S => f_X5_asks N S x0)) (st_changes : ∀ (x0 : Int32), StI Rl (fun S => f_X4_changes N S x0) (fun S => f_X5_changes N S x0)) (st_wanted : ∀ (x0 : Int32), StI Rl (fun S => f_X4_wanted N S x0) (fun S => f_X5_wanted N S x0)) (st_image : ∀ (x0 : Int32), StI Rl (fun S => f_X4_image N S x0) (fun S => f_X5_image N S x0)) (st_from : ∀ (x0 : Int32), StI Rl (fun S => f_X4_from N S x0) (fun S => f_X5_from N S x0)) (st_status : ∀ (x0 : Int32), StI Rl (fun S => f_X4_status N S x0) (fun S => f_X5_status N S x0)) (st_count : ∀ (x0 : Int32), StI Rl (fun S => f_X4_count N S x0) (fun S => f_X5_count N S x0)) (st_digest :  StL Rl (fun S => f_X4_digest N S) (fun S => f_X5_digest N S)) : W p l e room_1 s m #[Value.ref b] below meth c s.heap [] 0 0 (lw_Z below #[Value.ref b] s) (entryFrame m ([Value.ref b] : List Value).toArray 4) := by
  obtain ⟨hx, hb, hr, hml, hown, hts0, hXs, hbl, hlk, hgv⟩ := id C0
  have hts : ∀ w ∈ wsL_law, w.before #[Value.ref b] s = true := fun w h => hts0 w (wsL_law_in w h)
  have E : EN p s m #[Value.ref b] meth c cL_law RL wsL_law ret 4 := ⟨⟨hx, hb, hml, hown, hts⟩, hr, hlk⟩
  have hA : ∀ q : Nat, s.heap.size ≤ q → (fun q : Nat => s.heap.size ≤ q) q := fun _ h => h
  obtain ⟨c0, iS0, hKn0⟩ := u_known (C := RX0) (T := TX0) (N := 9) (n := 9) hts inlX0 (hts _ itL_0)
  obtain ⟨c1, iS1, hKn1⟩ := u_known (C := RX1) (T := TX1) (N := 12) (n := 12) hts inlX1 (hts _ itL_1)
  obtain ⟨c2, iS2, hKn2⟩ := u_known (C := RX2) (T := TX2) (N := 16) (n := 16) hts inlX2 (hts _ itL_2)
  obtain ⟨c3, iS3, hKn3⟩ := u_known (C := RX3) (T := TX3) (N := 7) (n := 7) hts inlX3 (hts _ itL_3)
  obtain ⟨c4, iS4, hKn4⟩ := u_known (C := RX4) (T := TX4) (N := 9) (n := 9) hts inlX4 (hts _ itL_4)
  obtain ⟨c5, iS5, hKn5⟩ := u_known (C := RX5) (T := TX5) (N := 28) (n := 28) hts inlX5 (hts _ itL_5)
  obtain ⟨D, hKc⟩ : ∃ D : va_G, ∀ (k : Nat) (q : vw_C), vwCl[k]? = some q → u_Kn s q.1 q.2.1 q.2.2 (D.1 k) (D.2 k) := by
    refine ⟨(fun k => if k = 0 then c0 else if k = 1 then c1 else if k = 2 then c2 else if k = 3 then c3 else if k = 4 then c4 else c5, fun k => if k = 0 then iS0 else if k = 1 then iS1 else if k = 2 then iS2 else if k = 3 then iS3 else if k = 4 then iS4 else iS5), ?_⟩
    intro k q hq
    match k, hq with
    | 0, hq => cases hq; exact hKn0
    | 1, hq => cases hq; exact hKn1
    | 2, hq => cases hq; exact hKn2
    | 3, hq => cases hq; exact hKn3
    | 4, hq => cases hq; exact hKn4
    | 5, hq => cases hq; exact hKn5
    | k + 6, hq => simp [vwCl] at hq
  obtain ⟨t, hK⟩ := arr_K hKc (hts _ acL_I) (hts _ acL_Z)
  obtain ⟨kd, vd, hxL⟩ := start_xL hts0 hgv
  have hxN : xN s := ⟨va_Nw.of rfl (hts0 _ (by decide +kernel)), va_Nw.of rfl (hts0 _ (by decide +kernel)), va_AO.of (hts0 (.arrayOver (.object "NextDoor$Street")) (by decide +kernel))⟩
  have hS : va_S (fun q : Nat => s.heap.size ≤ q) s.heap s.heap [] := va_S.rf
  have hP : va_P D vwCl [] s.heap := fun k q h => by simp at h
  have hD : va_D (fun q : Nat => s.heap.size ≤ q) [] := ⟨fun i j p q h => by simp at h, fun k q h => by simp at h⟩
  have w : Wk D (fun q : Nat => s.heap.size ≤ q) [(t 0, .int), (t 1, .boolean)] xN [] s s.heap [] := ⟨hP, hD, hK, hS, hxN⟩
  have hl := lv_entry ([.ref b]) (n := 4) (Nat.le_of_ble_eq_true rfl)
  rw [lg_entry_eq]
  generalize (lg_sl ([.ref b]) ++ List.replicate (4 - (lg_sl ([.ref b])).length) Slot.unset).toArray = ls at hl ⊢
  have hl : lv_has ls 4 [(0, .ref b)] := hl
  refine n_new E hA w inlX4 tyX4 tyX4_ok clL_7 itL_4 iiL_4 (ci := 4) rfl [.null, .null, .null, .null, .null, .null, .null, .null, .null] dv_X4 (k := 1) (k' := 9) rfl rfl ⟨(Nat.le_of_ble_eq_true rfl), (Nat.le_of_ble_eq_true rfl)⟩ dL_law_0 (fun q1 H wA => ?_)
  have wA : Wk D (fun q : Nat => s.heap.size ≤ q) [(t 0, .int), (t 1, .boolean)] xN [(q1, .inr (4, [.null, .null, .null, .null, .null, .null, .null, .null, .null]))] s H _ := wA
  refine lv_dup hx hb dL_law_3 rfl ?_
  refine n_callI xN_up (As := []) (rest := [.ref q1]) (wc := [(q1, .inr (4, [.null, .null, .null, .null, .null, .null, .null, .null, .null]))]) (wr := []) E hA wA [0] [] rfl rfl (by decide) (by decide) (by decide) [0, 1] rfl (fun sz => n_X4_init l xN_up (fun U h => h.1) (fun U h => h.2.1) (fun U h => h.2.2) q1 sz) (cwI 0 hts gL_law_X4_init rfl rfl rfl (hts _ iiL_4) (hts _ mlL_4) (hts _ imL_4) rfl hdI_4 ⟨(Nat.le_of_ble_eq_true rfl), (Nat.le_of_ble_eq_true rfl)⟩) rfl hl.1 rfl (Nat.le_of_ble_eq_true rfl) (k := 56) (k' := 1197) rfl rfl ⟨(Nat.le_of_ble_eq_true rfl), (Nat.le_of_ble_eq_true rfl)⟩ dL_law_4 (fun u1 H locs hu1 hKu1 w => ?_)
  obtain ⟨ac, t2⟩ := u1
  have w : Wk D (fun q : Nat => s.heap.size ≤ q) [(t 0, .int), (t 1, .boolean)] xN (cC (tt2 t t2) ac S0C) s H locs := w
  have hKu1 : va_K D vwCl (tyC (tt2 t t2)) s := hKu1
  have hu1 : ac 50 = q1 := hu1
  subst hu1
  refine lv_astore_n (lv' := [(1, .ref (ac 50)), (0, .ref b)]) hx hb dL_law_7 rfl hl (by decide) rfl (fun ls hl => ?_)
  refine n_new E hA w inlX5 tyX5 tyX5_ok clL_10 itL_5 iiL_5 (ci := 5) rfl [.null, .null, .null, .null, .int 0, .int 0, .int 0, .int 0, .int 0, .int 0, .int 0, .int 0, .int 0, .null, .int 0, .int 0, .null, .null, .null, .null, .null, .null, .null, .null, .null, .null, .int 0, .null] dv_X5 (k := 57) (k' := 1225) rfl rfl ⟨(Nat.le_of_ble_eq_true rfl), (Nat.le_of_ble_eq_true rfl)⟩ dL_law_8 (fun q2 H wB => ?_)
  refine lv_dup hx hb dL_law_11 rfl ?_
  refine n_callI xN_up (As := []) (rest := [.ref q2]) (wc := [(q2, .inr (5, [.null, .null, .null, .null, .int 0, .int 0, .int 0, .int 0, .int 0, .int 0, .int 0, .int 0, .int 0, .null, .int 0, .int 0, .null, .null, .null, .null, .null, .null, .null, .null, .null, .null, .int 0, .null]))]) (wr := cC (tt2 t t2) ac S0C) E hA wB [56] (List.range 56) rfl rfl (by decide) (by decide) (by decide) [0, 1] rfl (fun sz => n_X5_init l xN_up q2 sz) (cwI 0 hts gL_law_X5_init rfl rfl rfl (hts _ iiL_5) (hts _ mlL_5) (hts _ imL_5) rfl hdI_5 ⟨(Nat.le_of_ble_eq_true rfl), (Nat.le_of_ble_eq_true rfl)⟩) rfl hl.1 rfl (Nat.le_of_ble_eq_true rfl) (k := 73) (k' := 2420) rfl rfl ⟨(Nat.le_of_ble_eq_true rfl), (Nat.le_of_ble_eq_true rfl)⟩ dL_law_12 (fun am H locs hu2 _ w => ?_)
  have w : Wk D (fun q : Nat => s.heap.size ≤ q) [(t 0, .int), (t 1, .boolean)] xN (cC (tt2 t t2) ac S0C ++ cM t am S0M) s H locs := w
  have hu2 : am 0 = q2 := hu2
  subst hu2
  refine lv_astore_n (lv' := [(2, .ref (am 0)), (1, .ref (ac 50)), (0, .ref b)]) hx hb dL_law_15 rfl hl (by decide) rfl (fun ls hl => ?_)
  refine lv_iconst (v := 0) hx hb dL_law_16 (by decide) ?_
  refine lv_istore_n (lv' := [(3, .int 0), (2, .ref (am 0)), (1, .ref (ac 50)), (0, .ref b)]) hx hb dL_law_17 rfl hl (by decide) rfl (fun ls hl => ?_)
  obtain ⟨hP, hD, -, hS, -⟩ := w
  have w : LW D (tt2 t t2) t ac am (xL kd vd (fun q : Nat => s.heap.size ≤ q)) S0C S0M s H locs := ⟨fun k q hk => hP k q (by rw [List.getElem?_append_left (List.getElem?_eq_some_iff.mp hk).1]; exact hk), fun k q hk => hP ((cC (tt2 t t2) ac S0C).length + k) q (by rw [List.getElem?_append_right (by omega), Nat.add_sub_cancel_left]; exact hk), hD, hKu1, hK, hS, hxL⟩
  have hAc : ∀ q, aW 56 ac q → s.heap.size ≤ q := lw_A1 (cC_fst (tt2 t t2) ac) hD
  have hAm : ∀ q, aW 17 am q → s.heap.size ≤ q := lw_A1 (cM_fst t am) (va_D_swap hD)
  exact law_loop (xL_ok hAc) (xL_ok hAm) (fun U h => xL_R hAc h) E hXs hbl hL hlk st_shop st_next st_free st_put st_price st_type st_clear st_read st_errand st_cheapest st_row st_soonest st_worth st_shutOut st_mends st_buyer st_leave st_takes st_asks st_changes st_wanted st_image st_from st_status st_count st_digest (L + 1) (j := 0) (by omega) (by omega) w (lv_sub hl [3, 2, 1, 0] rfl) hR0
