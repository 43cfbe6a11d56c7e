-- worlds that grow: the constructors
def Wk (D : va_G) (A : Nat → Prop) (tys : List (ClassId × FieldType)) (X : State → Prop) (ws : va_W) (s : State) (H : Heap) (locs : List Loc) : Prop := va_P D vwCl ws H ∧ va_D A ws ∧ va_K D vwCl tys s ∧ va_S A s.heap H locs ∧ X s
def Cn (l : Launch) (y : MethodName) (wds : List Cond) (rm : Room) (D : va_G) (tys : List (ClassId × FieldType)) (X : State → Prop) (av : List Value) (wc : va_W) (sz : Nat) (T : Type) (ok : T → Prop) (mk : T → va_W) (tk : T → List (ClassId × FieldType)) (mc ms : Nat) : Prop :=
  Met l y wds rm (va_Pc av (fun U => U.heap.size = sz ∧ va_P D vwCl wc U.heap ∧ va_D (fun _ => True) wc ∧ va_K D vwCl tys U ∧ X U)) (va_Qv ok (fun (u : T) (t : State) => va_P D vwCl (mk u) t.heap ∧ va_D (va_A wc sz) (mk u) ∧ va_K D vwCl (tk u) t) (va_A wc sz)) mc ms (va_A wc sz)
-- what holds at every state that only grew from one
def XUp (X : State → Prop) : Prop := (∀ U U' : State, U'.vm = U.vm → X U → X U') ∧ ∀ u U : State, u.WarmedH U.vm → X u → X U
theorem ty_one {U : State} {D : va_G} {tys : List (ClassId × FieldType)} {ty : FieldType} {c1 c2 : ClassId} {k : Nat} (hK : va_K D vwCl (tys ++ [(c2, ty)]) U) (hk : tys[k]? = some (c1, ty)) (hp : ∀ C, ty ≠ .object C) : c2 = c1 := by
  have h1 := (hK.2 k (c1, ty) (by rw [List.getElem?_append_left]; exact hk; exact (List.getElem?_eq_some_iff.mp hk).1)).2
  have h2 := (hK.2 tys.length (c2, ty) (by rw [List.getElem?_append_right (Nat.le_refl _)]; simp)).2
  cases ty with
  | object C => exact absurd rfl (hp C)
  | _ => exact Option.some.inj (h2.symm.trans h1)
section CR
variable {p : Program} {l : Launch} {e : Env} {R : Room} {s : State} {m : MethodId} {args : Array Value} {below : List Frame} {meth : Method} {c : Code} {H : Heap} {locs : List Loc} {cells slots : Nat} {Q : State → Prop} {cc : ByteArray} {own : String} {Ts : List Cond} {ret : Option FieldType} {nL : Nat}
variable {pc : Nat} {ls : Array Slot} {rest : List Value} {D : va_G} {A : Nat → Prop} {tys : List (ClassId × FieldType)} {X : State → Prop} {ws : va_W} {b : Nat}
theorem n_newa (E : EN p s m args meth c cc own Ts ret nL) (hA : ∀ q, s.heap.size ≤ q → A q) (w : Wk D A tys X ws s H locs) {atype : ArrayType} (harr : Cond.arrayClass (newarray.typeOf atype) ∈ Ts) (t0 : Nat) {cA : ClassId} (ht : tys[t0]? = some (cA, newarray.typeOf atype)) (hp : ∀ C, newarray.typeOf atype ≠ .object C) (hz : defaultValue (newarray.typeOf atype) = .int 0) {n : Int32} (N' : Nat) (hN : n.toNatClampNeg = N') (hn : ¬ n < 0) (hbytes : N' * componentBytes (newarray.typeOf atype) ≤ 536870912) {k k' : Nat} (hk : cells + 1 = k) (hk' : slots + N' = k') (hR : k ≤ R.cells ∧ k' ≤ R.slots) (hdg : decode cc pc = .ok (.newarray atype, 2))
    (kk : ∀ (q : Nat) (H1 : Heap), Wk D A tys X (ws ++ [(q, .inl (cA, N', .inl (fun _ => 0)))]) s H1 locs → W p l e R s m args below meth c H1 locs k k' Q (F0 m (pc + 2) ls (.ref q :: rest))) : W p l e R s m args below meth c H locs cells slots Q (F0 m pc ls (.int n :: rest)) := by
  obtain ⟨⟨hx, hb, hml, hown, hts⟩, hr, hlk⟩ := E
  obtain ⟨hP, hD, hK, hS, hX⟩ := w
  subst hk; subst hk'
  refine va_newa hx hb (hts _ harr) rfl hK hP hD hS hA (a0 := (N', .inl (fun _ => 0))) (fun cA => by rw [vp_cell_i, hz]) hn hN hbytes hR.1 hR.2 hdg (fun q c2 H1 hK2 hP2 hD2 hS2 => ?_)
  have hc := ty_one hK2 ht hp
  subst hc
  exact kk q H1 ⟨hP2, hD2, hK, hS2, hX⟩
theorem n_newq (E : EN p s m args meth c cc own Ts ret nL) (hA : ∀ q, s.heap.size ≤ q → A q) (w : Wk D A tys X ws s H locs) {C : String} {index : Nat} (hcl : Cond.classLink own index C ∈ Ts) (hov : va_AO C s) {n : Int32} (N' : Nat) (hN : n.toNatClampNeg = N') (hn : ¬ n < 0) (hbytes : N' * 4 ≤ 536870912) {k k' : Nat} (hk : cells + 1 = k) (hk' : slots + N' = k') (hR : k ≤ R.cells ∧ k' ≤ R.slots) (hdg : decode cc pc = .ok (.anewarray index, 3))
    (kk : ∀ (q : Nat) (cA : ClassId) (H1 : Heap), Wk D A (tys ++ [(cA, .object C)]) X (ws ++ [(q, .inl (cA, N', .inr (.inr (.inr (.inr (fun _ => none))))))]) s H1 locs → W p l e R s m args below meth c H1 locs k k' Q (F0 m (pc + 3) ls (.ref q :: rest))) : W p l e R s m args below meth c H locs cells slots Q (F0 m pc ls (.int n :: rest)) := by
  obtain ⟨⟨hx, hb, hml, hown, hts⟩, hr, hlk⟩ := E
  obtain ⟨hP, hD, hK, hS, hX⟩ := w
  subst hk; subst hk'
  exact va_newq hx hb hown (hts _ hcl) hov hK hP hD hS hA hn hN hbytes hR.1 hR.2 hdg (fun q c2 H1 hK2 hP2 hD2 hS2 => kk q c2 H1 ⟨hP2, hD2, hK2, hS2, hX⟩)
theorem n_new (E : EN p s m args meth c cc own Ts ret nL) (hA : ∀ q, s.heap.size ≤ q → A q) (w : Wk D A tys X ws s H locs) {C : String} {T : u_T} {N ci index : Nat} (hin : ∀ w ∈ u_ws C T N, w ∈ Ts) (ty : Nat → FieldType) (hty : ∀ k, k < N → parseFieldDescriptor (T k).2.2.1 = some (ty k)) (hcl : Cond.classLink own index C ∈ Ts) (hinst : Cond.instantiable C N ∈ Ts) (hini : Cond.initialized C ∈ Ts) (hc : vwCl[ci]? = some (C, T, N)) (fs : List Value) (hfs : ∀ j, j < N → defaultValue (ty j) = vp_V fs j) {k k' : Nat} (hk : cells + 1 = k) (hk' : slots + N = k') (hR : k ≤ R.cells ∧ k' ≤ R.slots) (hdg : decode cc pc = .ok (.new index, 3))
    (kk : ∀ (q : Nat) (H1 : Heap), Wk D A tys X (ws ++ [(q, .inr (ci, fs))]) s H1 locs → W p l e R s m args below meth c H1 locs k k' Q (F0 m (pc + 3) ls (.ref q :: rest))) : W p l e R s m args below meth c H locs cells slots Q (F0 m pc ls rest) := by
  obtain ⟨⟨hx, hb, hml, hown, hts⟩, hr, hlk⟩ := E
  obtain ⟨hP, hD, hK, hS, hX⟩ := w
  subst hk; subst hk'
  exact va_new hx hb hts hin ty hty hown (hts _ hcl) (hts _ hinst) (hts _ hini) hK hP hD hS hA hc hfs hR.1 hR.2 hdg (fun q H1 hP2 hD2 hS2 => kk q H1 ⟨hP2, hD2, hK, hS2, hX⟩)
theorem n_get (E : EN p s m args meth c cc own Ts ret nL) (w : Wk D A tys X ws s H locs) {ref C : String} {T : u_T} {N ci index : Nat} (hin : ∀ w ∈ u_ws C T N, w ∈ Ts) (q0 : Nat) {fs : List Value} (he : ws[q0]? = some (b, .inr (ci, fs))) (hc : vwCl[ci]? = some (C, T, N)) (k : Nat) (hk : k < N) (hlink : Cond.fieldLink own index ref (T k).2.1 (T k).2.2.1 ∈ Ts) (hsame : (T k).1 = ref) {v : Value} (hv : fs[k]? = some v) (hdg : decode cc pc = .ok (.getfield index, 3))
    (kk : W p l e R s m args below meth c H locs cells slots Q (F0 m (pc + 3) ls (v :: rest))) : W p l e R s m args below meth c H locs cells slots Q (F0 m pc ls (.ref b :: rest)) := by
  obtain ⟨⟨hx, hb, hml, hown, hts⟩, hr, hlk⟩ := E
  exact va_get hx hb hts hin hown w.2.2.1 w.1 q0 he hc k hk (hts _ hlink) (fun _ h => by rw [← hsame]; exact h) hv hdg kk
theorem n_put (E : EN p s m args meth c cc own Ts ret nL) (w : Wk D A tys X ws s H locs) {ref C : String} {T : u_T} {N ci index : Nat} (hin : ∀ w ∈ u_ws C T N, w ∈ Ts) (ty0 : Nat → FieldType) (hty : ∀ k, k < N → parseFieldDescriptor (T k).2.2.1 = some (ty0 k)) (hnm : ∀ a, a < N → ∀ b, b < N → a ≠ b → (T a).2.1 ≠ (T b).2.1) (q0 : Nat) {fs : List Value} (he : ws[q0]? = some (b, .inr (ci, fs))) (hc : vwCl[ci]? = some (C, T, N)) (k : Nat) (hk : k < N) (hlink : Cond.fieldLink own index ref (T k).2.1 (T k).2.2.1 ∈ Ts) (hsame : (T k).1 = ref) (hfin : (T k).2.2.2 = false) {ty : FieldType} (hd : ty0 k = ty) {v : Value} (hn : narrow ty v = v) (hfit : fits ty v = true) (hl : k < fs.length) {ws' : va_W} (hset : ws.set q0 (b, .inr (ci, fs.set k v)) = ws') (hdg : decode cc pc = .ok (.putfield index, 3))
    (kk : ∀ (H1 : Heap) (locs1 : List Loc), Wk D A tys X ws' s H1 locs1 → W p l e R s m args below meth c H1 locs1 cells slots Q (F0 m (pc + 3) ls rest)) : W p l e R s m args below meth c H locs cells slots Q (F0 m pc ls (v :: .ref b :: rest)) := by
  obtain ⟨⟨hx, hb, hml, hown, hts⟩, hr, hlk⟩ := E
  obtain ⟨hP, hD, hK, hS, hX⟩ := w
  subst hset
  exact va_put hx hb hts hin ty0 hty hnm hown hK hP hD hS q0 he hc k hk (hts _ hlink) (fun _ h => by rw [← hsame]; exact h) hfin (by rw [hty k hk, hd]) hn hfit hl hdg (fun H1 locs1 hP hD hS => kk H1 locs1 ⟨hP, hD, hK, hS, hX⟩)
theorem n_putF (E : EN p s m args meth c cc own Ts ret nL) (hin2 : meth.name = "<init>") (w : Wk D A tys X ws s H locs) {ref C : String} {T : u_T} {N ci index : Nat} (hin : ∀ w ∈ u_ws C T N, w ∈ Ts) (ty0 : Nat → FieldType) (hty : ∀ k, k < N → parseFieldDescriptor (T k).2.2.1 = some (ty0 k)) (hnm : ∀ a, a < N → ∀ b, b < N → a ≠ b → (T a).2.1 ≠ (T b).2.1) (q0 : Nat) {fs : List Value} (he : ws[q0]? = some (b, .inr (ci, fs))) (hc : vwCl[ci]? = some (C, T, N)) (k : Nat) (hk : k < N) (hlink : Cond.fieldLink own index ref (T k).2.1 (T k).2.2.1 ∈ Ts) (hsame : (T k).1 = ref) (hfin : (T k).2.2.2 = true) (hdecl : (T k).1 = own) {ty : FieldType} (hd : ty0 k = ty) {v : Value} (hn : narrow ty v = v) (hfit : fits ty v = true) (hl : k < fs.length) {ws' : va_W} (hset : ws.set q0 (b, .inr (ci, fs.set k v)) = ws') (hdg : decode cc pc = .ok (.putfield index, 3))
    (kk : ∀ (H1 : Heap) (locs1 : List Loc), Wk D A tys X ws' s H1 locs1 → W p l e R s m args below meth c H1 locs1 cells slots Q (F0 m (pc + 3) ls rest)) : W p l e R s m args below meth c H locs cells slots Q (F0 m pc ls (v :: .ref b :: rest)) := by
  obtain ⟨⟨hx, hb, hml, hown, hts⟩, hr, hlk⟩ := E
  obtain ⟨hP, hD, hK, hS, hX⟩ := w
  subst hset
  exact va_putF hx hb hts hin ty0 hty hnm hown hK hP hD hS q0 he hc k hk (hts _ hlink) (fun _ h => by rw [← hsame]; exact h) hfin hin2 hdecl (by rw [hty k hk, hd]) hn hfit hl hdg (fun H1 locs1 hP hD hS => kk H1 locs1 ⟨hP, hD, hK, hS, hX⟩)
theorem n_ast (E : EN p s m args meth c cc own Ts ret nL) (w : Wk D A tys X ws s H locs) (q0 t0 : Nat) {cA : ClassId} {n : Nat} {f : Nat → Int32} (ha : ws[q0]? = some (b, .inl (cA, n, .inl f))) (ht : tys[t0]? = some (cA, .int)) {i v : Int32} (j : Nat) (hj : i.toNatClampNeg = j) (hin : ¬ (i < 0 ∨ n ≤ i.toNatClampNeg)) {ws' : va_W} (hset : ws.set q0 (b, .inl (cA, n, .inl (upd f j v))) = ws') (hdg : decode cc pc = .ok (.iastore, 1))
    (kk : ∀ (H1 : Heap) (locs1 : List Loc), Wk D A tys X ws' s H1 locs1 → W p l e R s m args below meth c H1 locs1 cells slots Q (F0 m (pc + 1) ls rest)) : W p l e R s m args below meth c H locs cells slots Q (F0 m pc ls (.int v :: .int i :: .ref b :: rest)) := by
  obtain ⟨⟨hx, hb, hml, hown, hts⟩, hr, hlk⟩ := E
  obtain ⟨hP, hD, hK, hS, hX⟩ := w
  subst hset; subst hj
  exact va_iast hx hb hK hP hD hS q0 t0 ha ht hin hdg (fun H1 locs1 hP hD hS => kk H1 locs1 ⟨hP, hD, hK, hS, hX⟩)
theorem n_astq (E : EN p s m args meth c cc own Ts ret nL) (w : Wk D A tys X ws s H locs) (q0 t0 qk ci : Nat) {cA : ClassId} {r : vw_C} {n v : Nat} {vs : List Value} {f : Nat → Option Nat} (ha : ws[q0]? = some (b, .inl (cA, n, .inr (.inr (.inr (.inr f)))))) (ht : tys[t0]? = some (cA, .object r.1)) (hv : ws[qk]? = some (v, .inr (ci, vs))) (hc : vwCl[ci]? = some r) {i : Int32} (j : Nat) (hj : i.toNatClampNeg = j) (hin : ¬ (i < 0 ∨ n ≤ i.toNatClampNeg)) {ws' : va_W} (hset : ws.set q0 (b, .inl (cA, n, .inr (.inr (.inr (.inr (va_up f j (some v))))))) = ws') (hdg : decode cc pc = .ok (.aastore, 1))
    (kk : ∀ (H1 : Heap) (locs1 : List Loc), Wk D A tys X ws' s H1 locs1 → W p l e R s m args below meth c H1 locs1 cells slots Q (F0 m (pc + 1) ls rest)) : W p l e R s m args below meth c H locs cells slots Q (F0 m pc ls (.ref v :: .int i :: .ref b :: rest)) := by
  obtain ⟨⟨hx, hb, hml, hown, hts⟩, hr, hlk⟩ := E
  obtain ⟨hP, hD, hK, hS, hX⟩ := w
  subst hset; subst hj
  exact va_astq hx hb hK hP hD hS q0 t0 qk ci ha ht hv hc hin hdg (fun H1 locs1 hP hD hS => kk H1 locs1 ⟨hP, hD, hK, hS, hX⟩)
theorem n_obj (E : EN p s m args meth c cc own Ts ret nL) {index : Nat} (h1 : Cond.methodLink own index Lib.objectInit ∈ Ts) (h2 : Cond.instanceMethod Lib.objectInit ∈ Ts) (h3 : Cond.code Lib.objectInit ⟨#[0xb1]⟩ 1 none ∈ Ts) (hsz : ls.size = nL) (hfr : 1 ≤ R.frames) (hlo : (rest.map fun v => v.category).sum + 12 ≤ R.locals) (hdg : decode cc pc = .ok (.invokespecial index, 3))
    (kk : W p l e R s m args below meth c H locs cells slots Q (F0 m (pc + 3) ls rest)) : W p l e R s m args below meth c H locs cells slots Q (F0 m pc ls (.ref b :: rest)) := by
  obtain ⟨⟨hx, hb, hml, hown, hts⟩, hr, hlk⟩ := E
  refine W.objInit hx hb hown (hts _ h1) (hts _ h2) (hts _ h3) rfl (by rw [hml]; exact hsz) rfl hdg hfr ?_ ?_
  · show 2 * 0 + _ + 12 ≤ _
    omega
  · exact W.eq rfl kk
section CI
variable {y : MethodName} {bytes : ByteArray} {maxL n index : Nat} {wds : List Cond} {rm : Room} {As : List Value} {T : Type} {ok : T → Prop} {mk : T → va_W} {tk : T → List (ClassId × FieldType)} {mc ms : Nat} {wc wr : va_W}
theorem n_callI (hXup : XUp X) (E : EN p s m args meth c cc own Ts ret nL) (hA : ∀ q, s.heap.size ≤ q → A q) (w : Wk D A tys X ws s H locs) (isC isR : List Nat) (hC : isC.map (fun i => ws[i]?) = wc.map some) (hR : isR.map (fun i => ws[i]?) = wr.map some) (hnC : va_nd isC = true) (hnR : va_nd isR = true) (hdis : ∀ i ∈ isR, i ∉ isC) {tysc : List (ClassId × FieldType)} (it : List Nat) (hty : it.filterMap (fun i => tys[i]?) = tysc) (hM : ∀ sz : Nat, Cn l y wds rm D tysc X (.ref b :: As) wc sz T ok mk tk mc ms) (cw : CallB R s args own index y bytes maxL none wds rm mc ms n ∧ y.name = "<init>" ∧ (Cond.instanceMethod y).before args s = true) (hn : As.length = n) (hsize : ls.size = nL) {st0 : List Value} (hst : st0 = As.reverse ++ .ref b :: rest) (hW : (rest.map fun v => v.category).sum ≤ 8) {k k' : Nat} (hk : cells + mc = k) (hk' : slots + ms = k') (hRm : k ≤ R.cells ∧ k' ≤ R.slots) (hdg : decode cc pc = .ok (.invokespecial index, 3))
    (kk : ∀ (u : T) (H1 : Heap) (locs1 : List Loc), ok u → va_K D vwCl (tk u) s → Wk D A tys X (wr ++ mk u) s H1 locs1 → W p l e R s m args below meth c H1 locs1 k k' Q (F0 m (pc + 3) ls rest)) : W p l e R s m args below meth c H locs cells slots Q (F0 m pc ls st0) := by
  obtain ⟨hP, hD, hK, hS, hX⟩ := w
  subst hk; subst hk'
  have hPc : va_P D vwCl wc H := by
    intro k q hq
    have h1 : (isC.map (fun i => ws[i]?))[k]? = some (some q) := by rw [hC, List.getElem?_map, hq]; rfl
    rw [List.getElem?_map] at h1
    cases hi : isC[k]? with
    | none => rw [hi] at h1; cases h1
    | some i => rw [hi] at h1; exact hP i q (Option.some.inj h1)
  have hDc := hD.sub isC hnC hC
  have hFc := va_free hD hS hA isC hC
  have hKc := hK.sub it hty
  refine va_callv (va_runI (As := As) (rest := rest) E.1 (hM H.size) cw ⟨fun a U g mk q => ?_, fun U hU hW => ⟨rfl, by rw [hU], by rw [hU]; exact hPc, hDc.weaken (fun _ _ _ _ => trivial), va_K.moved hW.alike hKc, hXup.2 _ _ hW hX⟩⟩ rfl hn hsize hst (lv_room hW) hdg hRm) hS (fun q _ h => hFc q h) hFc (fun u t H1 locs1 ht hvm hw hB hz1 hk1 hS => ?_)
  · obtain ⟨q0, q1, q2, q3, q4, q5⟩ := q
    exact ⟨q0, q1, q2, q3, va_K.moved (u := U) (U := U.calling g mk a) (Vm.Alike.refl U.vm) q4, hXup.1 U (U.calling g mk a) rfl q5⟩
  · obtain ⟨hP1, hD1, hK1⟩ := hB
    rw [ht] at hP1
    obtain ⟨hP2, hD2⟩ := va_join (wr := wr) (w1 := mk u) hP hD isC isR hC hR hnR hdis hk1 hFc hP1 hD1
    exact kk u H1 locs1 hw (va_K.moved hvm.symm hK1) ⟨hP2, hD2, hK, hS, hX⟩
theorem n_callIN (hXup : XUp X) {host : String} (E : EN p s m args meth c cc own Ts ret nL) (hA : ∀ q, s.heap.size ≤ q → A q) (w : Wk D A tys X ws s H locs) (isC isR : List Nat) (hC : isC.map (fun i => ws[i]?) = wc.map some) (hR : isR.map (fun i => ws[i]?) = wr.map some) (hnC : va_nd isC = true) (hnR : va_nd isR = true) (hdis : ∀ i ∈ isR, i ∉ isC) {tysc : List (ClassId × FieldType)} (it : List Nat) (hty : it.filterMap (fun i => tys[i]?) = tysc) (hM : ∀ sz : Nat, Cn l y wds rm D tysc X (.ref b :: As) wc sz T ok mk tk mc ms) (cw : va_CN R s args own index y host bytes maxL none wds rm mc ms n ∧ y.name = "<init>" ∧ (Cond.instanceMethod y).before args s = true) (hn : As.length = n) (hsize : ls.size = nL) {st0 : List Value} (hst : st0 = As.reverse ++ .ref b :: rest) (hW : (rest.map fun v => v.category).sum ≤ 8) {k k' : Nat} (hk : cells + mc = k) (hk' : slots + ms = k') (hRm : k ≤ R.cells ∧ k' ≤ R.slots) (hdg : decode cc pc = .ok (.invokespecial index, 3))
    (kk : ∀ (u : T) (H1 : Heap) (locs1 : List Loc), ok u → va_K D vwCl (tk u) s → Wk D A tys X (wr ++ mk u) s H1 locs1 → W p l e R s m args below meth c H1 locs1 k k' Q (F0 m (pc + 3) ls rest)) : W p l e R s m args below meth c H locs cells slots Q (F0 m pc ls st0) := by
  obtain ⟨hP, hD, hK, hS, hX⟩ := w
  subst hk; subst hk'
  have hPc : va_P D vwCl wc H := by
    intro k q hq
    have h1 : (isC.map (fun i => ws[i]?))[k]? = some (some q) := by rw [hC, List.getElem?_map, hq]; rfl
    rw [List.getElem?_map] at h1
    cases hi : isC[k]? with
    | none => rw [hi] at h1; cases h1
    | some i => rw [hi] at h1; exact hP i q (Option.some.inj h1)
  have hDc := hD.sub isC hnC hC
  have hFc := va_free hD hS hA isC hC
  have hKc := hK.sub it hty
  refine va_callv (va_runIN (As := As) (rest := rest) E.1 (hM H.size) cw ⟨fun a U g mk q => ?_, fun U hU hW => ⟨rfl, by rw [hU], by rw [hU]; exact hPc, hDc.weaken (fun _ _ _ _ => trivial), va_K.moved hW.alike hKc, hXup.2 _ _ hW hX⟩⟩ rfl hn hsize hst (lv_room hW) hdg hRm) hS (fun q _ h => hFc q h) hFc (fun u t H1 locs1 ht hvm hw hB hz1 hk1 hS => ?_)
  · obtain ⟨q0, q1, q2, q3, q4, q5⟩ := q
    exact ⟨q0, q1, q2, q3, va_K.moved (u := U) (U := U.calling g mk a) (Vm.Alike.refl U.vm) q4, hXup.1 U (U.calling g mk a) rfl q5⟩
  · obtain ⟨hP1, hD1, hK1⟩ := hB
    rw [ht] at hP1
    obtain ⟨hP2, hD2⟩ := va_join (wr := wr) (w1 := mk u) hP hD isC isR hC hR hnR hdis hk1 hFc hP1 hD1
    exact kk u H1 locs1 hw (va_K.moved hvm.symm hK1) ⟨hP2, hD2, hK, hS, hX⟩
end CI
theorem cn_of {y : MethodName} {wds wds' : List Cond} {rm : Room} {maxL : Nat} {av : List Value} {wc : va_W} {sz : Nat} {T : Type} {ok : T → Prop} {mk : T → va_W} {tk : T → List (ClassId × FieldType)} {mc ms : Nat} {lv : List (Nat × Value)} (hy : plainName y.cls = true) (hyn : y.name = "<init>") (hw : wds = Cond.code y cc maxL none :: wds') (hrc : rm = (headSpec wds rm).room) (hlen : (lg_sl av).length ≤ maxL) (hlv : lv_args 0 av = lv) (hcls : y.cls = own)
    (body : ∀ (p : Program) (e : Env) (s : State) (m : MethodId) (below : List Frame) (meth : Method) (c : Code) (ls : Array Slot), EN p s m av.toArray meth c cc own wds none maxL → meth.name = "<init>" → lv_has ls maxL lv → (∀ q, s.heap.size ≤ q → va_A wc s.heap.size q) → Wk D (va_A wc s.heap.size) tys X wc s s.heap [] →
      W p l e rm s m av.toArray below meth c s.heap [] 0 0 (MQ below (va_Qv ok (fun (u : T) (t : State) => va_P D vwCl (mk u) t.heap ∧ va_D (va_A wc s.heap.size) (mk u) ∧ va_K D vwCl (tk u) t) (va_A wc s.heap.size)) av.toArray s mc ms (va_A wc s.heap.size)) (F0 m 0 ls [])) : Cn l y wds rm D tys X av wc sz T ok mk tk mc ms := by
  refine Met.ofW (cc := cc) (maxL := maxL) (ret := none) hy hw ?_
  intro p e s m args below meth c s₁ B hml hv
  obtain ⟨rfl, hsz, hP, hD0, hK, hX⟩ := hv
  subst hsz
  have hl := lv_entry av hlen
  rw [lg_entry_eq]
  generalize (lg_sl av ++ List.replicate (maxL - (lg_sl av).length) Slot.unset).toArray = ls at hl ⊢
  rw [← hrc]
  exact body p e s m below meth c ls ⟨⟨B.exec, B.bytes, hml, by rw [← hcls]; exact findClass_of_methodNamed B.named, atoms_spec (ws := wds) B.pre⟩, B.returns, B.notSynchronized⟩ ((name_of_methodNamed B.named B.method).1.trans hyn) (by rw [← hlv]; exact hl) (fun q h => Or.inr h) ⟨hP, hD0.self, hK, va_S.rf, hX⟩
theorem n_ret {T : Type} {ok : T → Prop} {mk : T → va_W} {tk : T → List (ClassId × FieldType)} (E : EN p s m args meth c cc own Ts none nL) (w : Wk D A tys X ws s H locs) (u : T) (hok : ok u) (hku : va_K D vwCl (tk u) s) {is : List Nat} (hn : va_nd is = true) (hs : is.map (fun i => ws[i]?) = (mk u).map some) (hdg : decode cc pc = .ok (.return_, 1)) : W p l e R s m args below meth c H locs cells slots (MQ below (va_Qv ok (fun (u : T) (t : State) => va_P D vwCl (mk u) t.heap ∧ va_D A (mk u) ∧ va_K D vwCl (tk u) t) A) args s cells slots A) (F0 m pc ls []) := by
  obtain ⟨⟨hx, hb, hml, hown, hts⟩, hr, hlk⟩ := E
  obtain ⟨hP, hD, hK, hS, hX⟩ := w
  have hP1 : va_P D vwCl (mk u) H := by
    intro k q hq
    have h1 : (is.map (fun i => ws[i]?))[k]? = some (some q) := by rw [hs, List.getElem?_map, hq]; rfl
    rw [List.getElem?_map] at h1
    cases hi : is[k]? with
    | none => rw [hi] at h1; cases h1
    | some i => rw [hi] at h1; exact hP i q (Option.some.inj h1)
  exact W.vret hx hb hr (fun t ht hW => ⟨⟨u, rfl, hok, by rw [ht]; exact hP1, hD.sub is hn hs, va_K.moved hW.alike hku⟩, hS.F ht⟩) hS.2.2 hdg
end CR
