-- the words of the road, String constants: "shop", "next", "free", "buy"
def lenW : List Nat := [4, 4, 4, 3]
def bytW : List (List Int32) := [[115, 104, 111, 112], [110, 101, 120, 116], [102, 114, 101, 101], [98, 117, 121]]
-- the state of a world: cell number, slot or place, value
abbrev ST : Type := Nat → Nat → Int32
def us (S : ST) (n k : Nat) (v : Int32) : ST := fun i => if i = n then upd (S i) k v else S i
def cpS (S : ST) (q0 q1 sp dp n : Nat) : ST := fun i => if i = q1 then va_cpy (S q0) (S i) sp dp n else S i
def nm {α β : Type} (x : α) (f : α → β) : β := f x
def bd1 {α β : Type} (o : Option α) (f : α → Option β) : Option β := match o with
  | some a => f a
  | none => none
def bd2 {α β γ : Type} (o : Option (α × β)) (f : α → β → Option γ) : Option γ := match o with
  | some q => f q.1 q.2
  | none => none
theorem nm_o {α β : Type} {x : α} {f : α → β} {y : β} (h : nm x f = y) : ∃ z, z = x ∧ f z = y := ⟨x, rfl, h⟩
theorem bd1_o {α β : Type} {o : Option α} {f : α → Option β} {y : β} (h : bd1 o f = some y) : ∃ z, o = some z ∧ f z = some y := by
  cases o with
  | none => cases h
  | some z => exact ⟨z, rfl, h⟩
theorem bd2_o {α β γ : Type} {o : Option (α × β)} {f : α → β → Option γ} {y : γ} (h : bd2 o f = some y) : ∃ a b, o = some (a, b) ∧ f a b = some y := by
  cases o with
  | none => cases h
  | some z => exact ⟨z.1, z.2, rfl, h⟩
theorem it_t {α : Type} {c : Prop} [Decidable c] {x y z : α} (h : c) (hf : (if c then x else y) = z) : x = z := by rw [if_pos h] at hf; exact hf
theorem it_f {α : Type} {c : Prop} [Decidable c] {x y z : α} (h : ¬ c) (hf : (if c then x else y) = z) : y = z := by rw [if_neg h] at hf; exact hf
theorem it_n {α : Type} {c : Prop} [Decidable c] {y : Option α} {z : α} (hf : (if c then none else y) = some z) : ¬ c ∧ y = some z := by
  by_cases h : c
  · rw [if_pos h] at hf; cases hf
  · rw [if_neg h] at hf; exact ⟨h, hf⟩
theorem it_s {α : Type} {c : Prop} [Decidable c] {y : Option α} {z : α} (hf : (if c then y else none) = some z) : c ∧ y = some z := by
  by_cases h : c
  · rw [if_pos h] at hf; exact ⟨h, hf⟩
  · rw [if_neg h] at hf; cases hf
theorem nar_z {x : Int32} (h : x = 0 ∨ x = 1) : narrow .boolean (.int x) = .int x := by
  rcases h with rfl | rfl <;> decide
-- a world, at a state and at a heap behind it
def PW (D : va_G) (cs : ST → va_W) (A : Nat → Prop) (tys : List (ClassId × FieldType)) (S : ST) (U : State) : Prop := va_P D vwCl (cs S) U.heap ∧ va_D A (cs S) ∧ va_K D vwCl tys U
def Wd (D : va_G) (cs : ST → va_W) (A : Nat → Prop) (tys : List (ClassId × FieldType)) (X : State → Prop) (S : ST) (s : State) (H : Heap) (locs : List Loc) : Prop := va_P D vwCl (cs S) H ∧ va_D A (cs S) ∧ va_K D vwCl tys s ∧ va_S A s.heap H locs ∧ X s
def XOk (A : Nat → Prop) (X : State → Prop) : Prop := (∀ U U' : State, U'.vm = U.vm → U'.heap = U.heap → X U → X U') ∧ ∀ u U : State, u.WarmedH U.vm → u.heap.size ≤ U.heap.size → (∀ q : Nat, q < u.heap.size → ¬ A q → U.heap[q]? = u.heap[q]?) → X u → X U
def EN (p : Program) (s : State) (m : MethodId) (args : Array Value) (meth : Method) (c : Code) (cc : ByteArray) (own : String) (Ts : List Cond) (ret : Option FieldType) (nL : Nat) : Prop := CallFix p m c cc nL s args Ts own ∧ meth.sig.returnType = ret ∧ meth.locks = false
abbrev Qi (D : va_G) (cs : ST → va_W) (A : Nat → Prop) (tys : List (ClassId × FieldType)) (r : Int32) (S' : ST) : Array Value → State → Outcome → State → Prop := va_Qi (fun (r' : Int32) (u : ST) => r' = r ∧ u = S') (PW D cs A tys) A
abbrev Ql (D : va_G) (cs : ST → va_W) (A : Nat → Prop) (tys : List (ClassId × FieldType)) (r : Int64) (S' : ST) : Array Value → State → Outcome → State → Prop := va_Ql (fun (r' : Int64) (u : ST) => r' = r ∧ u = S') (PW D cs A tys) A
abbrev Qv (D : va_G) (cs : ST → va_W) (A : Nat → Prop) (tys : List (ClassId × FieldType)) (S' : ST) : Array Value → State → Outcome → State → Prop := va_Qv (fun (u : ST) => u = S') (PW D cs A tys) A
def Co (l : Launch) (y : MethodName) (ws : List Cond) (rm : Room) (D : va_G) (cs : ST → va_W) (A : Nat → Prop) (tys : List (ClassId × FieldType)) (X : State → Prop) (av : List Value) (S : ST) (Q : Array Value → State → Outcome → State → Prop) : Prop := Met l y ws rm (va_Pc av (fun U => PW D cs A tys S U ∧ X U)) Q 0 0 A
section WR
variable {p : Program} {l : Launch} {e : Env} {R : Room} {s : State} {m : MethodId} {args : Array Value} {below : List Frame} {meth : Method} {c : Code} {H : Heap} {locs : List Loc} {cells slots : Nat} {Q : State → Prop} {cc : ByteArray} {own : String} {Ts : List Cond} {ret : Option FieldType} {nL : Nat}
variable {pc : Nat} {ls : Array Slot} {rest : List Value} {D : va_G} {cs : ST → va_W} {A : Nat → Prop} {tys : List (ClassId × FieldType)} {X : State → Prop} {S S1 : ST} {b : Nat}
theorem co_of {y : MethodName} {ws ws' : List Cond} {rm : Room} {maxL : Nat} {av : List Value} {Qc : Array Value → State → Outcome → State → Prop} {lv : List (Nat × Value)} (hy : plainName y.cls = true) (hw : ws = Cond.code y cc maxL ret :: ws') (hrc : rm = (headSpec ws rm).room) (hlen : (lg_sl av).length ≤ maxL) (hlv : lv_args 0 av = lv) (hcls : y.cls = own)
    (body : ∀ (p : Program) (e : Env) (s : State) (m : MethodId) (below : List Frame) (meth : Method) (c : Code) (ls : Array Slot), EN p s m av.toArray meth c cc own ws ret maxL → lv_has ls maxL lv → Wd D cs A tys X S s s.heap [] →
      W p l e rm s m av.toArray below meth c s.heap [] 0 0 (MQ below Qc av.toArray s 0 0 A) (F0 m 0 ls [])) : Co l y ws rm D cs A tys X av S Qc := by
  refine Met.ofW (cc := cc) (maxL := maxL) (ret := ret) hy hw ?_
  intro p e s m args below meth c s₁ B hml hv
  obtain ⟨rfl, ⟨hP, hD, hK⟩, hX⟩ := hv
  have hl := lv_entry av hlen
  rw [lg_entry_eq]
  generalize (lg_sl av ++ List.replicate (maxL - (lg_sl av).length) Slot.unset).toArray = ls at hl ⊢
  rw [← hrc]
  exact body p e s m below meth c ls ⟨⟨B.exec, B.bytes, hml, by rw [← hcls]; exact findClass_of_methodNamed B.named, atoms_spec (ws := ws) B.pre⟩, B.returns, B.notSynchronized⟩ (by rw [← hlv]; exact hl) ⟨hP, hD, hK, va_S.rf, hX⟩
theorem w_get (E : EN p s m args meth c cc own Ts ret nL) (w : Wd D cs A tys X S s H locs) {ref C : String} {T : u_T} {N ci index : Nat} (hin : ∀ w ∈ u_ws C T N, w ∈ Ts) (q0 : Nat) {fs : List Value} (he : (cs S)[q0]? = some (b, .inr (ci, fs))) (hc : vwCl[ci]? = some (C, T, N)) (k : Nat) (hk : k < N) (hlink : Cond.fieldLink own index ref (T k).2.1 (T k).2.2.1 ∈ Ts) (hsame : (T k).1 = ref) {v : Value} (hv : fs[k]? = some v) (hdg : decode cc pc = .ok (.getfield index, 3))
    (kk : W p l e R s m args below meth c H locs cells slots Q (F0 m (pc + 3) ls (v :: rest))) : W p l e R s m args below meth c H locs cells slots Q (F0 m pc ls (.ref b :: rest)) := by
  obtain ⟨⟨hx, hb, hml, hown, hts⟩, hr, hlk⟩ := E
  exact va_get hx hb hts hin hown w.2.2.1 w.1 q0 he hc k hk (hts _ hlink) (fun _ h => by rw [← hsame]; exact h) hv hdg kk
theorem w_put (E : EN p s m args meth c cc own Ts ret nL) (w : Wd D cs A tys X S s H locs) {ref C : String} {T : u_T} {N ci index : Nat} (hin : ∀ w ∈ u_ws C T N, w ∈ Ts) (ty0 : Nat → FieldType) (hty : ∀ k, k < N → parseFieldDescriptor (T k).2.2.1 = some (ty0 k)) (hnm : ∀ a, a < N → ∀ b, b < N → a ≠ b → (T a).2.1 ≠ (T b).2.1) (q0 : Nat) {fs : List Value} (he : (cs S)[q0]? = some (b, .inr (ci, fs))) (hc : vwCl[ci]? = some (C, T, N)) (k : Nat) (hk : k < N) (hlink : Cond.fieldLink own index ref (T k).2.1 (T k).2.2.1 ∈ Ts) (hsame : (T k).1 = ref) (hfin : (T k).2.2.2 = false) {ty : FieldType} (hd : ty0 k = ty) {v : Value} (hn : narrow ty v = v) (hfit : fits ty v = true) (hl : k < fs.length) (hset : (cs S).set q0 (b, .inr (ci, fs.set k v)) = cs S1) (hdg : decode cc pc = .ok (.putfield index, 3))
    (kk : ∀ (H1 : Heap) (locs1 : List Loc), Wd D cs A tys X S1 s H1 locs1 → W p l e R s m args below meth c H1 locs1 cells slots Q (F0 m (pc + 3) ls rest)) : W p l e R s m args below meth c H locs cells slots Q (F0 m pc ls (v :: .ref b :: rest)) := by
  obtain ⟨⟨hx, hb, hml, hown, hts⟩, hr, hlk⟩ := E
  obtain ⟨hP, hD, hK, hS, hX⟩ := w
  refine va_put hx hb hts hin ty0 hty hnm hown hK hP hD hS q0 he hc k hk (hts _ hlink) (fun _ h => by rw [← hsame]; exact h) hfin (by rw [hty k hk, hd]) hn hfit hl hdg (fun H1 locs1 hP hD hS => ?_)
  rw [hset] at hP hD
  exact kk H1 locs1 ⟨hP, hD, hK, hS, hX⟩
theorem w_ald (E : EN p s m args meth c cc own Ts ret nL) (w : Wd D cs A tys X S s H locs) (q0 t0 : Nat) {cA : ClassId} {n : Nat} {f : Nat → Int32} (ha : (cs S)[q0]? = some (b, .inl (cA, n, .inl f))) (ht : tys[t0]? = some (cA, .int)) {i v : Int32} (hin : ¬ (i < 0 ∨ n ≤ i.toNatClampNeg)) (hv : f i.toNatClampNeg = v) (hdg : decode cc pc = .ok (.iaload, 1))
    (kk : W p l e R s m args below meth c H locs cells slots Q (F0 m (pc + 1) ls (.int v :: rest))) : W p l e R s m args below meth c H locs cells slots Q (F0 m pc ls (.int i :: .ref b :: rest)) := by
  obtain ⟨⟨hx, hb, hml, hown, hts⟩, hr, hlk⟩ := E
  subst hv
  exact va_iald hx hb w.2.2.1 w.1 q0 t0 ha ht hin hdg kk
theorem w_zald (E : EN p s m args meth c cc own Ts ret nL) (w : Wd D cs A tys X S s H locs) (q0 t0 : Nat) {cA : ClassId} {n : Nat} {f : Nat → Int32} (ha : (cs S)[q0]? = some (b, .inl (cA, n, .inl f))) (ht : tys[t0]? = some (cA, .boolean)) {i v : Int32} (hin : ¬ (i < 0 ∨ n ≤ i.toNatClampNeg)) (hv : f i.toNatClampNeg = v) (hdg : decode cc pc = .ok (.baload, 1))
    (kk : W p l e R s m args below meth c H locs cells slots Q (F0 m (pc + 1) ls (.int v :: rest))) : W p l e R s m args below meth c H locs cells slots Q (F0 m pc ls (.int i :: .ref b :: rest)) := by
  obtain ⟨⟨hx, hb, hml, hown, hts⟩, hr, hlk⟩ := E
  subst hv
  exact va_zald hx hb w.2.2.1 w.1 q0 t0 ha ht hin hdg kk
theorem w_ast (E : EN p s m args meth c cc own Ts ret nL) (w : Wd D cs A tys X S s H locs) (q0 t0 : Nat) {cA : ClassId} {n j : Nat} {f : Nat → Int32} (ha : (cs S)[q0]? = some (b, .inl (cA, n, .inl f))) (ht : tys[t0]? = some (cA, .int)) {i v : Int32} (hin : ¬ (i < 0 ∨ n ≤ i.toNatClampNeg)) (hj : i.toNatClampNeg = j) (hset : (cs S).set q0 (b, .inl (cA, n, .inl (upd f j v))) = cs S1) (hdg : decode cc pc = .ok (.iastore, 1))
    (kk : ∀ (H1 : Heap) (locs1 : List Loc), Wd D cs A tys X S1 s H1 locs1 → W p l e R s m args below meth c H1 locs1 cells slots Q (F0 m (pc + 1) ls rest)) : W p l e R s m args below meth c H locs cells slots Q (F0 m pc ls (.int v :: .int i :: .ref b :: rest)) := by
  obtain ⟨⟨hx, hb, hml, hown, hts⟩, hr, hlk⟩ := E
  obtain ⟨hP, hD, hK, hS, hX⟩ := w
  refine va_iast hx hb hK hP hD hS q0 t0 ha ht hin hdg (fun H1 locs1 hP hD hS => ?_)
  rw [hj, hset] at hP hD
  exact kk H1 locs1 ⟨hP, hD, hK, hS, hX⟩
theorem w_zast (E : EN p s m args meth c cc own Ts ret nL) (w : Wd D cs A tys X S s H locs) (q0 t0 : Nat) {cA : ClassId} {n j : Nat} {f : Nat → Int32} (ha : (cs S)[q0]? = some (b, .inl (cA, n, .inl f))) (ht : tys[t0]? = some (cA, .boolean)) {i v v' : Int32} (hin : ¬ (i < 0 ∨ n ≤ i.toNatClampNeg)) (hj : i.toNatClampNeg = j) (hv : vp_nar .boolean v = v') (hset : (cs S).set q0 (b, .inl (cA, n, .inl (upd f j v'))) = cs S1) (hdg : decode cc pc = .ok (.bastore, 1))
    (kk : ∀ (H1 : Heap) (locs1 : List Loc), Wd D cs A tys X S1 s H1 locs1 → W p l e R s m args below meth c H1 locs1 cells slots Q (F0 m (pc + 1) ls rest)) : W p l e R s m args below meth c H locs cells slots Q (F0 m pc ls (.int v :: .int i :: .ref b :: rest)) := by
  obtain ⟨⟨hx, hb, hml, hown, hts⟩, hr, hlk⟩ := E
  obtain ⟨hP, hD, hK, hS, hX⟩ := w
  refine va_zast hx hb hK hP hD hS q0 t0 ha ht hin hdg (fun H1 locs1 hP hD hS => ?_)
  rw [hj, hv, hset] at hP hD
  exact kk H1 locs1 ⟨hP, hD, hK, hS, hX⟩
theorem pw_blind (hXok : XOk A X) {av : List Value} : FrameBlind (va_Pc av (fun U => PW D cs A tys S U ∧ X U)) := by
  intro a U g mk q
  obtain ⟨h0, ⟨h1, h2, h3⟩, h4⟩ := q
  exact ⟨h0, ⟨h1, h2, va_K.moved (u := U) (U := U.calling g mk a) (Vm.Alike.refl U.vm) h3⟩, hXok.1 U (U.calling g mk a) rfl rfl h4⟩
theorem pw_pre (hXok : XOk A X) (w : Wd D cs A tys X S s H locs) {av : List Value} : ∀ U : State, U.heap = H → s.WarmedH U.vm → va_Pc av (fun U => PW D cs A tys S U ∧ X U) av.toArray U := by
  intro U hU hW
  obtain ⟨hP, hD, hK, hS, hX⟩ := w
  exact ⟨rfl, ⟨by rw [hU]; exact hP, hD, va_K.moved hW.alike hK⟩, hXok.2 s U hW (by rw [hU]; exact hS.1) (fun q h1 h2 => by rw [hU]; exact hS.2.1 q h1 h2) hX⟩
theorem pw_back (w : Wd D cs A tys X S s H locs) {H1 : Heap} {locs1 : List Loc} {t : State} (ht : t.heap = H1) (hvm : s.vm.Alike t.vm) (hB : PW D cs A tys S1 t) (hS : va_S A s.heap H1 locs1) : Wd D cs A tys X S1 s H1 locs1 :=
  ⟨by rw [← ht]; exact hB.1, hB.2.1, w.2.2.1, hS, w.2.2.2.2⟩
section WC
variable {y : MethodName} {bytes : ByteArray} {maxL n index ci q0 : Nat} {ret' : Option FieldType} {ws : List Cond} {rm : Room} {C : String} {q : vw_C} {fs : List Value} {As : List Value}
theorem w_callVi {r : Int32} (hXok : XOk A X) (E : EN p s m args meth c cc own Ts ret nL) (w : Wd D cs A tys X S s H locs) (hM : Co l y ws rm D cs A tys X (.ref b :: As) S (Qi D cs A tys r S1)) (cw : CallW R s args own q.1 index y bytes maxL ret' ws rm 0 0 n) (hc : vwCl[ci]? = some q) (he : (cs S)[q0]? = some (b, .inr (ci, fs))) (hn : As.length = n) (hsize : ls.size = nL) {st0 : List Value} (hst : st0 = As.reverse ++ .ref b :: rest) (hW : (rest.map fun v => v.category).sum ≤ 8) (hdg : decode cc pc = .ok (.invokevirtual index, 3)) (hR : cells + 0 ≤ R.cells ∧ slots + 0 ≤ R.slots)
    (kk : ∀ (H1 : Heap) (locs1 : List Loc), Wd D cs A tys X S1 s H1 locs1 → W p l e R s m args below meth c H1 locs1 cells slots Q (F0 m (pc + 3) ls (.int r :: rest))) : W p l e R s m args below meth c H locs cells slots Q (F0 m pc ls st0) := by
  refine va_calli (va_runV (As := As) (rest := rest) E.1 hM cw ⟨pw_blind hXok, va_recv w.2.2.1 w.1 hc he, pw_pre hXok w⟩ rfl hn hsize hst (lv_room hW) hdg hR) w.2.2.2.1 (fun _ _ h => h) (fun _ h => h) (fun r' u t H1 locs1 ht hvm hw hB hz1 hk1 hS => ?_)
  obtain ⟨rfl, rfl⟩ := hw
  exact kk H1 locs1 (pw_back w ht hvm hB hS)
theorem w_callVl {r : Int64} (hXok : XOk A X) (E : EN p s m args meth c cc own Ts ret nL) (w : Wd D cs A tys X S s H locs) (hM : Co l y ws rm D cs A tys X (.ref b :: As) S (Ql D cs A tys r S1)) (cw : CallW R s args own q.1 index y bytes maxL ret' ws rm 0 0 n) (hc : vwCl[ci]? = some q) (he : (cs S)[q0]? = some (b, .inr (ci, fs))) (hn : As.length = n) (hsize : ls.size = nL) {st0 : List Value} (hst : st0 = As.reverse ++ .ref b :: rest) (hW : (rest.map fun v => v.category).sum ≤ 8) (hdg : decode cc pc = .ok (.invokevirtual index, 3)) (hR : cells + 0 ≤ R.cells ∧ slots + 0 ≤ R.slots)
    (kk : ∀ (H1 : Heap) (locs1 : List Loc), Wd D cs A tys X S1 s H1 locs1 → W p l e R s m args below meth c H1 locs1 cells slots Q (F0 m (pc + 3) ls (.long r :: rest))) : W p l e R s m args below meth c H locs cells slots Q (F0 m pc ls st0) := by
  refine va_calll (va_runV (As := As) (rest := rest) E.1 hM cw ⟨pw_blind hXok, va_recv w.2.2.1 w.1 hc he, pw_pre hXok w⟩ rfl hn hsize hst (lv_room hW) hdg hR) w.2.2.2.1 (fun _ _ h => h) (fun _ h => h) (fun r' u t H1 locs1 ht hvm hw hB hz1 hk1 hS => ?_)
  obtain ⟨rfl, rfl⟩ := hw
  exact kk H1 locs1 (pw_back w ht hvm hB hS)
theorem w_callVv (hXok : XOk A X) (E : EN p s m args meth c cc own Ts ret nL) (w : Wd D cs A tys X S s H locs) (hM : Co l y ws rm D cs A tys X (.ref b :: As) S (Qv D cs A tys S1)) (cw : CallW R s args own q.1 index y bytes maxL ret' ws rm 0 0 n) (hc : vwCl[ci]? = some q) (he : (cs S)[q0]? = some (b, .inr (ci, fs))) (hn : As.length = n) (hsize : ls.size = nL) {st0 : List Value} (hst : st0 = As.reverse ++ .ref b :: rest) (hW : (rest.map fun v => v.category).sum ≤ 8) (hdg : decode cc pc = .ok (.invokevirtual index, 3)) (hR : cells + 0 ≤ R.cells ∧ slots + 0 ≤ R.slots)
    (kk : ∀ (H1 : Heap) (locs1 : List Loc), Wd D cs A tys X S1 s H1 locs1 → W p l e R s m args below meth c H1 locs1 cells slots Q (F0 m (pc + 3) ls rest)) : W p l e R s m args below meth c H locs cells slots Q (F0 m pc ls st0) := by
  refine va_callv (va_runV (As := As) (rest := rest) E.1 hM cw ⟨pw_blind hXok, va_recv w.2.2.1 w.1 hc he, pw_pre hXok w⟩ rfl hn hsize hst (lv_room hW) hdg hR) w.2.2.2.1 (fun _ _ h => h) (fun _ h => h) (fun u t H1 locs1 ht hvm hw hB hz1 hk1 hS => ?_)
  obtain rfl := hw
  exact kk H1 locs1 (pw_back w ht hvm hB hS)
theorem w_callSi {r : Int32} (hXok : XOk A X) (E : EN p s m args meth c cc own Ts ret nL) (w : Wd D cs A tys X S s H locs) (hM : Co l y ws rm D cs A tys X As S (Qi D cs A tys r S1)) (cw : CallB R s args own index y bytes maxL ret' ws rm 0 0 n ∧ (Cond.static y).before args s = true) (hn : As.length = n) (hsize : ls.size = nL) {st0 : List Value} (hst : st0 = As.reverse ++ rest) (hW : (rest.map fun v => v.category).sum ≤ 8) (hdg : decode cc pc = .ok (.invokestatic index, 3)) (hR : cells + 0 ≤ R.cells ∧ slots + 0 ≤ R.slots)
    (kk : ∀ (H1 : Heap) (locs1 : List Loc), Wd D cs A tys X S1 s H1 locs1 → W p l e R s m args below meth c H1 locs1 cells slots Q (F0 m (pc + 3) ls (.int r :: rest))) : W p l e R s m args below meth c H locs cells slots Q (F0 m pc ls st0) := by
  refine va_calli (va_runS (As := As) (rest := rest) E.1 hM cw ⟨pw_blind hXok, pw_pre hXok w⟩ rfl hn hsize hst (lv_room hW) hdg hR) w.2.2.2.1 (fun _ _ h => h) (fun _ h => h) (fun r' u t H1 locs1 ht hvm hw hB hz1 hk1 hS => ?_)
  obtain ⟨rfl, rfl⟩ := hw
  exact kk H1 locs1 (pw_back w ht hvm hB hS)
theorem w_callSNi {r : Int32} {host : String} (hXok : XOk A X) (E : EN p s m args meth c cc own Ts ret nL) (w : Wd D cs A tys X S s H locs) (hM : Co l y ws rm D cs A tys X As S (Qi D cs A tys r S1)) (cw : va_CN R s args own index y host bytes maxL ret' ws rm 0 0 n ∧ (Cond.static y).before args s = true ∧ True) (hn : As.length = n) (hsize : ls.size = nL) {st0 : List Value} (hst : st0 = As.reverse ++ rest) (hW : (rest.map fun v => v.category).sum ≤ 8) (hdg : decode cc pc = .ok (.invokestatic index, 3)) (hR : cells + 0 ≤ R.cells ∧ slots + 0 ≤ R.slots)
    (kk : ∀ (H1 : Heap) (locs1 : List Loc), Wd D cs A tys X S1 s H1 locs1 → W p l e R s m args below meth c H1 locs1 cells slots Q (F0 m (pc + 3) ls (.int r :: rest))) : W p l e R s m args below meth c H locs cells slots Q (F0 m pc ls st0) := by
  refine va_calli (va_runSN (As := As) (rest := rest) E.1 hM cw ⟨pw_blind hXok, pw_pre hXok w⟩ rfl hn hsize hst (lv_room hW) hdg hR) w.2.2.2.1 (fun _ _ h => h) (fun _ h => h) (fun r' u t H1 locs1 ht hvm hw hB hz1 hk1 hS => ?_)
  obtain ⟨rfl, rfl⟩ := hw
  exact kk H1 locs1 (pw_back w ht hvm hB hS)
end WC
theorem w_reti (E : EN p s m args meth c cc own Ts (some .int) nL) (w : Wd D cs A tys X S s H locs) {v r : Int32} (hf : (some (v, S) : Option (Int32 × ST)) = some (r, S1)) (hdg : decode cc pc = .ok (.ireturn, 1)) : W p l e R s m args below meth c H locs 0 0 (MQ below (Qi D cs A tys r S1) args s 0 0 A) (F0 m pc ls [.int v]) := by
  obtain ⟨⟨hx, hb, hml, hown, hts⟩, hr, hlk⟩ := E
  obtain ⟨hP, hD, hK, hS, hX⟩ := w
  have h1 := (Prod.mk.inj (Option.some.inj hf)).1
  have h2 := (Prod.mk.inj (Option.some.inj hf)).2
  subst h1; subst h2
  exact W.iret hx hb hr (fun t ht hW => ⟨⟨v, S, rfl, ⟨rfl, rfl⟩, by rw [ht]; exact hP, hD, va_K.moved hW.alike hK⟩, hS.F ht⟩) hS.2.2 hdg
theorem w_retz (E : EN p s m args meth c cc own Ts (some .boolean) nL) (w : Wd D cs A tys X S s H locs) {v r : Int32} (hz : v = 0 ∨ v = 1) (hf : (some (v, S) : Option (Int32 × ST)) = some (r, S1)) (hdg : decode cc pc = .ok (.ireturn, 1)) : W p l e R s m args below meth c H locs 0 0 (MQ below (Qi D cs A tys r S1) args s 0 0 A) (F0 m pc ls [.int v]) := by
  obtain ⟨⟨hx, hb, hml, hown, hts⟩, hr, hlk⟩ := E
  obtain ⟨hP, hD, hK, hS, hX⟩ := w
  have h1 := (Prod.mk.inj (Option.some.inj hf)).1
  have h2 := (Prod.mk.inj (Option.some.inj hf)).2
  subst h1; subst h2
  exact W.zret hx hb hr (nar_z hz) (fun t ht hW => ⟨⟨v, S, rfl, ⟨rfl, rfl⟩, by rw [ht]; exact hP, hD, va_K.moved hW.alike hK⟩, hS.F ht⟩) hS.2.2 hdg
theorem w_retl (E : EN p s m args meth c cc own Ts (some .long) nL) (w : Wd D cs A tys X S s H locs) {v r : Int64} (hf : (some (v, S) : Option (Int64 × ST)) = some (r, S1)) (hdg : decode cc pc = .ok (.lreturn, 1)) : W p l e R s m args below meth c H locs 0 0 (MQ below (Ql D cs A tys r S1) args s 0 0 A) (F0 m pc ls [.long v]) := by
  obtain ⟨⟨hx, hb, hml, hown, hts⟩, hr, hlk⟩ := E
  obtain ⟨hP, hD, hK, hS, hX⟩ := w
  have h1 := (Prod.mk.inj (Option.some.inj hf)).1
  have h2 := (Prod.mk.inj (Option.some.inj hf)).2
  subst h1; subst h2
  exact W.lret hx hb hr (fun t ht hW => ⟨⟨v, S, rfl, ⟨rfl, rfl⟩, by rw [ht]; exact hP, hD, va_K.moved hW.alike hK⟩, hS.F ht⟩) hS.2.2 hdg
theorem w_retv (E : EN p s m args meth c cc own Ts none nL) (w : Wd D cs A tys X S s H locs) (hf : some S = some S1) (hdg : decode cc pc = .ok (.return_, 1)) : W p l e R s m args below meth c H locs 0 0 (MQ below (Qv D cs A tys S1) args s 0 0 A) (F0 m pc ls []) := by
  obtain ⟨⟨hx, hb, hml, hown, hts⟩, hr, hlk⟩ := E
  obtain ⟨hP, hD, hK, hS, hX⟩ := w
  have h2 := Option.some.inj hf
  subst h2
  exact W.vret hx hb hr (fun t ht hW => ⟨⟨S, rfl, rfl, by rw [ht]; exact hP, hD, va_K.moved hW.alike hK⟩, hS.F ht⟩) hS.2.2 hdg
end WR
def aW (n : Nat) (a : Nat → Nat) : Nat → Prop := fun q => ∃ k, k < n ∧ q = a k
section WR2
variable {p : Program} {l : Launch} {e : Env} {R : Room} {s : State} {m : MethodId} {args : Array Value} {below : List Frame} {meth : Method} {c : Code} {H : Heap} {locs : List Loc} {cells slots : Nat} {Q : State → Prop} {cc : ByteArray} {own : String} {Ts : List Cond} {ret : Option FieldType} {nL : Nat}
variable {pc : Nat} {ls : Array Slot} {rest : List Value} {D : va_G} {cs : ST → va_W} {A : Nat → Prop} {tys : List (ClassId × FieldType)} {X : State → Prop} {S S1 : ST} {b : Nat}
theorem w_copy (E : EN p s m args meth c cc own Ts ret nL) (w : Wd D cs A tys X S s H locs) {index : Nat} (hlink : Cond.methodLink own index arraycopyName ∈ Ts) (hnat : Cond.native arraycopyName ∈ Ts) (hstat : Cond.static arraycopyName ∈ Ts) (hini : Cond.initialized "java/lang/System" ∈ Ts) (hsz : ls.size = nL) (q0 q1 t0 : Nat) {a0 n0 n1 : Nat} {cA : ClassId} {f g : Nat → Int32} (ha0 : (cs S)[q0]? = some (a0, .inl (cA, n0, .inl f))) (ha1 : (cs S)[q1]? = some (b, .inl (cA, n1, .inl g))) (ht0 : tys[t0]? = some (cA, .int)) {n : Int32} (j : Nat) (hj : n.toNatClampNeg = j) (hn : ¬ n < 0) (h4 : j ≤ n0) (h5 : j ≤ n1) (hset : (cs S).set q1 (b, .inl (cA, n1, .inl (va_cpy f g 0 0 j))) = cs S1) (hframes : 1 ≤ R.frames) (hlocals : (rest.map fun v => v.category).sum + (nativeFrameWords "java/lang/System" "arraycopy" 5 + 11) ≤ R.locals) (hdg : decode cc pc = .ok (.invokestatic index, 3))
    (kk : ∀ (H1 : Heap) (locs1 : List Loc), Wd D cs A tys X S1 s H1 locs1 → W p l e R s m args below meth c H1 locs1 cells slots Q (F0 m (pc + 3) ls rest)) : W p l e R s m args below meth c H locs cells slots Q (F0 m pc ls (.int n :: .int 0 :: .ref b :: .int 0 :: .ref a0 :: rest)) := by
  obtain ⟨⟨hx, hb, hml, hown, hts⟩, hr, hlk⟩ := E
  obtain ⟨hP, hD, hK, hS, hX⟩ := w
  have z0 : Int32.toNatClampNeg 0 = 0 := by decide
  refine va_copyi hx hb (by rw [hml, hsz]) hown (hts _ hlink) (hts _ hnat) (hts _ hstat) (hts _ hini) hK hP hD hS q0 q1 t0 t0 ha0 ha1 ht0 ht0 rfl (by decide) (by decide) hn (by rw [z0, hj]; omega) (by rw [z0, hj]; omega) (fun _ _ => rfl) hframes hlocals hdg (fun H1 locs1 hP hD hS => ?_)
  rw [z0, hj, hset] at hP hD
  exact kk H1 locs1 ⟨hP, hD, hK, hS, hX⟩
theorem w_aldq (E : EN p s m args meth c cc own Ts ret nL) (w : Wd D cs A tys X S s H locs) (q0 t0 : Nat) {cA : ClassId} {C : String} {n v : Nat} {f : Nat → Option Nat} (ha : (cs S)[q0]? = some (b, .inl (cA, n, .inr (.inr (.inr (.inr f)))))) (ht : tys[t0]? = some (cA, .object C)) {i : Int32} (hin : ¬ (i < 0 ∨ n ≤ i.toNatClampNeg)) (hv : f i.toNatClampNeg = some v) (hdg : decode cc pc = .ok (.aaload, 1))
    (kk : W p l e R s m args below meth c H locs cells slots Q (F0 m (pc + 1) ls (.ref v :: rest))) : W p l e R s m args below meth c H locs cells slots Q (F0 m pc ls (.int i :: .ref b :: rest)) := by
  obtain ⟨⟨hx, hb, hml, hown, hts⟩, hr, hlk⟩ := E
  refine va_aldq hx hb w.2.2.1 w.1 q0 t0 ha ht hin hdg ?_
  rw [hv]
  exact kk
theorem w_min (E : EN p s m args meth c cc own Ts ret nL) {index : Nat} (hlink : Cond.methodLink own index Lib.Math.min.name ∈ Ts) (hstat : Cond.static Lib.Math.min.name ∈ Ts) (hini : Cond.initialized "java/lang/Math" ∈ Ts) (hcode : Cond.code Lib.Math.min.name Lib.Math.min.code 2 (some .int) ∈ Ts) (hsz : ls.size = nL) (hframes : 1 ≤ R.frames) (hlocals : (rest.map fun v => v.category).sum + 13 ≤ R.locals) (hc : cells ≤ R.cells) (hs : slots ≤ R.slots) {x y : Int32} (hdg : decode cc pc = .ok (.invokestatic index, 3))
    (kk : W p l e R s m args below meth c H locs cells slots Q (F0 m (pc + 3) ls (.int (if y < x then y else x) :: rest))) : W p l e R s m args below meth c H locs cells slots Q (F0 m pc ls (.int y :: .int x :: rest)) := by
  obtain ⟨⟨hx, hb, hml, hown, hts⟩, hr, hlk⟩ := E
  exact va_mmin hx hb (by rw [hml, hsz]) hown (hts _ hlink) (hts _ hstat) (hts _ hini) (hts _ hcode) hframes hlocals hc hs hdg kk
end WR2
theorem tb_out3 {x : Int32} (h0 : ¬ x = 0) (h1 : ¬ x = 1) (h2 : ¬ x = 2) : x.toInt < 0 ∨ 2 < x.toInt := by
  have e : ∀ k : Int32, x.toInt = k.toInt → x = k := fun k h => Int32.toInt_inj.mp h
  have a0 : x.toInt ≠ 0 := fun h => h0 (e 0 (by rw [h]; decide))
  have a1 : x.toInt ≠ 1 := fun h => h1 (e 1 (by rw [h]; decide))
  have a2 : x.toInt ≠ 2 := fun h => h2 (e 2 (by rw [h]; decide))
  omega
theorem ix_0 : Int32.toNatClampNeg 0 = 0 := by decide
theorem ix_1 : Int32.toNatClampNeg 1 = 1 := by decide
theorem ix_2 : Int32.toNatClampNeg 2 = 2 := by decide
theorem ix_3 : Int32.toNatClampNeg 3 = 3 := by decide
theorem ix_4 : Int32.toNatClampNeg 4 = 4 := by decide
theorem ix_5 : Int32.toNatClampNeg 5 = 5 := by decide
theorem ix_6 : Int32.toNatClampNeg 6 = 6 := by decide
theorem ix_7 : Int32.toNatClampNeg 7 = 7 := by decide
theorem ix_8 : Int32.toNatClampNeg 8 = 8 := by decide
theorem ix_9 : Int32.toNatClampNeg 9 = 9 := by decide
theorem ix_10 : Int32.toNatClampNeg 10 = 10 := by decide
theorem ix_11 : Int32.toNatClampNeg 11 = 11 := by decide
theorem ix_12 : Int32.toNatClampNeg 12 = 12 := by decide
theorem ix_13 : Int32.toNatClampNeg 13 = 13 := by decide
theorem ix_14 : Int32.toNatClampNeg 14 = 14 := by decide
theorem ix_15 : Int32.toNatClampNeg 15 = 15 := by decide
theorem ix_16 : Int32.toNatClampNeg 16 = 16 := by decide
theorem ix_17 : Int32.toNatClampNeg 17 = 17 := by decide
theorem ix_18 : Int32.toNatClampNeg 18 = 18 := by decide
theorem ix_19 : Int32.toNatClampNeg 19 = 19 := by decide
theorem ix_20 : Int32.toNatClampNeg 20 = 20 := by decide
theorem ix_21 : Int32.toNatClampNeg 21 = 21 := by decide
theorem ix_22 : Int32.toNatClampNeg 22 = 22 := by decide
theorem ix_23 : Int32.toNatClampNeg 23 = 23 := by decide
theorem ix_24 : Int32.toNatClampNeg 24 = 24 := by decide
theorem ix_25 : Int32.toNatClampNeg 25 = 25 := by decide
theorem ix_26 : Int32.toNatClampNeg 26 = 26 := by decide
theorem ix_27 : Int32.toNatClampNeg 27 = 27 := by decide
theorem ix_28 : Int32.toNatClampNeg 28 = 28 := by decide
theorem ix_29 : Int32.toNatClampNeg 29 = 29 := by decide
theorem ix_30 : Int32.toNatClampNeg 30 = 30 := by decide
theorem ix_31 : Int32.toNatClampNeg 31 = 31 := by decide
theorem ix_32 : Int32.toNatClampNeg 32 = 32 := by decide
theorem ix_33 : Int32.toNatClampNeg 33 = 33 := by decide
theorem ix_34 : Int32.toNatClampNeg 34 = 34 := by decide
theorem ix_46 : Int32.toNatClampNeg 46 = 46 := by decide
theorem ix_64 : Int32.toNatClampNeg 64 = 64 := by decide
theorem ix_200 : Int32.toNatClampNeg 200 = 200 := by decide
theorem ix_259 : Int32.toNatClampNeg 259 = 259 := by decide
theorem ix_260 : Int32.toNatClampNeg 260 = 260 := by decide
theorem ix_261 : Int32.toNatClampNeg 261 = 261 := by decide
theorem ix_522 : Int32.toNatClampNeg 522 = 522 := by decide
def cM (t : Nat → ClassId) (a : Nat → Nat) (S : ST) : va_W := [(a 0, .inr (5, [.ref (a 1), .ref (a 2), .ref (a 3), .ref (a 4), .int (S 0 4), .int (S 0 5), .int (S 0 6), .int (S 0 7), .int (S 0 8), .int (S 0 9), .int (S 0 10), .int (S 0 11), .int (S 0 12), .ref (a 5), .int (S 0 14), .int (S 0 15), .ref (a 6), .ref (a 7), .ref (a 8), .ref (a 9), .ref (a 10), .ref (a 11), .ref (a 12), .ref (a 13), .ref (a 14), .ref (a 15), .int (S 0 26), .ref (a 16)])), (a 1, .inl (t 0, 261, .inl (S 1))), (a 2, .inl (t 0, 522, .inl (S 2))), (a 3, .inl (t 1, 2, .inl (S 3))), (a 4, .inl (t 0, 3, .inl (S 4))), (a 5, .inl (t 0, 46, .inl (S 5))), (a 6, .inl (t 0, 64, .inl (S 6))), (a 7, .inl (t 0, 64, .inl (S 7))), (a 8, .inl (t 0, 64, .inl (S 8))), (a 9, .inl (t 0, 64, .inl (S 9))), (a 10, .inl (t 0, 64, .inl (S 10))), (a 11, .inl (t 0, 7, .inl (S 11))), (a 12, .inl (t 0, 7, .inl (S 12))), (a 13, .inl (t 0, 7, .inl (S 13))), (a 14, .inl (t 0, 7, .inl (S 14))), (a 15, .inl (t 0, 7, .inl (S 15))), (a 16, .inl (t 0, 6, .inl (S 16)))]
def tyM (t : Nat → ClassId) : List (ClassId × FieldType) := [(t 0, .int), (t 1, .boolean)]
theorem cM_at_0 (t : Nat → ClassId) (a : Nat → Nat) (S : ST) : (cM t a S)[0]? = some (a 0, .inr (5, [.ref (a 1), .ref (a 2), .ref (a 3), .ref (a 4), .int (S 0 4), .int (S 0 5), .int (S 0 6), .int (S 0 7), .int (S 0 8), .int (S 0 9), .int (S 0 10), .int (S 0 11), .int (S 0 12), .ref (a 5), .int (S 0 14), .int (S 0 15), .ref (a 6), .ref (a 7), .ref (a 8), .ref (a 9), .ref (a 10), .ref (a 11), .ref (a 12), .ref (a 13), .ref (a 14), .ref (a 15), .int (S 0 26), .ref (a 16)])) := rfl
theorem cM_at_1 (t : Nat → ClassId) (a : Nat → Nat) (S : ST) : (cM t a S)[1]? = some (a 1, .inl (t 0, 261, .inl (S 1))) := rfl
theorem cM_at_2 (t : Nat → ClassId) (a : Nat → Nat) (S : ST) : (cM t a S)[2]? = some (a 2, .inl (t 0, 522, .inl (S 2))) := rfl
theorem cM_at_3 (t : Nat → ClassId) (a : Nat → Nat) (S : ST) : (cM t a S)[3]? = some (a 3, .inl (t 1, 2, .inl (S 3))) := rfl
theorem cM_at_4 (t : Nat → ClassId) (a : Nat → Nat) (S : ST) : (cM t a S)[4]? = some (a 4, .inl (t 0, 3, .inl (S 4))) := rfl
theorem cM_at_5 (t : Nat → ClassId) (a : Nat → Nat) (S : ST) : (cM t a S)[5]? = some (a 5, .inl (t 0, 46, .inl (S 5))) := rfl
theorem cM_at_6 (t : Nat → ClassId) (a : Nat → Nat) (S : ST) : (cM t a S)[6]? = some (a 6, .inl (t 0, 64, .inl (S 6))) := rfl
theorem cM_at_7 (t : Nat → ClassId) (a : Nat → Nat) (S : ST) : (cM t a S)[7]? = some (a 7, .inl (t 0, 64, .inl (S 7))) := rfl
theorem cM_at_8 (t : Nat → ClassId) (a : Nat → Nat) (S : ST) : (cM t a S)[8]? = some (a 8, .inl (t 0, 64, .inl (S 8))) := rfl
theorem cM_at_9 (t : Nat → ClassId) (a : Nat → Nat) (S : ST) : (cM t a S)[9]? = some (a 9, .inl (t 0, 64, .inl (S 9))) := rfl
theorem cM_at_10 (t : Nat → ClassId) (a : Nat → Nat) (S : ST) : (cM t a S)[10]? = some (a 10, .inl (t 0, 64, .inl (S 10))) := rfl
theorem cM_at_11 (t : Nat → ClassId) (a : Nat → Nat) (S : ST) : (cM t a S)[11]? = some (a 11, .inl (t 0, 7, .inl (S 11))) := rfl
theorem cM_at_12 (t : Nat → ClassId) (a : Nat → Nat) (S : ST) : (cM t a S)[12]? = some (a 12, .inl (t 0, 7, .inl (S 12))) := rfl
theorem cM_at_13 (t : Nat → ClassId) (a : Nat → Nat) (S : ST) : (cM t a S)[13]? = some (a 13, .inl (t 0, 7, .inl (S 13))) := rfl
theorem cM_at_14 (t : Nat → ClassId) (a : Nat → Nat) (S : ST) : (cM t a S)[14]? = some (a 14, .inl (t 0, 7, .inl (S 14))) := rfl
theorem cM_at_15 (t : Nat → ClassId) (a : Nat → Nat) (S : ST) : (cM t a S)[15]? = some (a 15, .inl (t 0, 7, .inl (S 15))) := rfl
theorem cM_at_16 (t : Nat → ClassId) (a : Nat → Nat) (S : ST) : (cM t a S)[16]? = some (a 16, .inl (t 0, 6, .inl (S 16))) := rfl
theorem cM_set_0_4 (t : Nat → ClassId) (a : Nat → Nat) (S : ST) (v : Int32) : (cM t a S).set 0 (a 0, .inr (5, List.set [.ref (a 1), .ref (a 2), .ref (a 3), .ref (a 4), .int (S 0 4), .int (S 0 5), .int (S 0 6), .int (S 0 7), .int (S 0 8), .int (S 0 9), .int (S 0 10), .int (S 0 11), .int (S 0 12), .ref (a 5), .int (S 0 14), .int (S 0 15), .ref (a 6), .ref (a 7), .ref (a 8), .ref (a 9), .ref (a 10), .ref (a 11), .ref (a 12), .ref (a 13), .ref (a 14), .ref (a 15), .int (S 0 26), .ref (a 16)] 4 (.int v))) = cM t a (us S 0 4 v) := rfl
theorem cM_set_0_5 (t : Nat → ClassId) (a : Nat → Nat) (S : ST) (v : Int32) : (cM t a S).set 0 (a 0, .inr (5, List.set [.ref (a 1), .ref (a 2), .ref (a 3), .ref (a 4), .int (S 0 4), .int (S 0 5), .int (S 0 6), .int (S 0 7), .int (S 0 8), .int (S 0 9), .int (S 0 10), .int (S 0 11), .int (S 0 12), .ref (a 5), .int (S 0 14), .int (S 0 15), .ref (a 6), .ref (a 7), .ref (a 8), .ref (a 9), .ref (a 10), .ref (a 11), .ref (a 12), .ref (a 13), .ref (a 14), .ref (a 15), .int (S 0 26), .ref (a 16)] 5 (.int v))) = cM t a (us S 0 5 v) := rfl
theorem cM_set_0_6 (t : Nat → ClassId) (a : Nat → Nat) (S : ST) (v : Int32) : (cM t a S).set 0 (a 0, .inr (5, List.set [.ref (a 1), .ref (a 2), .ref (a 3), .ref (a 4), .int (S 0 4), .int (S 0 5), .int (S 0 6), .int (S 0 7), .int (S 0 8), .int (S 0 9), .int (S 0 10), .int (S 0 11), .int (S 0 12), .ref (a 5), .int (S 0 14), .int (S 0 15), .ref (a 6), .ref (a 7), .ref (a 8), .ref (a 9), .ref (a 10), .ref (a 11), .ref (a 12), .ref (a 13), .ref (a 14), .ref (a 15), .int (S 0 26), .ref (a 16)] 6 (.int v))) = cM t a (us S 0 6 v) := rfl
theorem cM_set_0_7 (t : Nat → ClassId) (a : Nat → Nat) (S : ST) (v : Int32) : (cM t a S).set 0 (a 0, .inr (5, List.set [.ref (a 1), .ref (a 2), .ref (a 3), .ref (a 4), .int (S 0 4), .int (S 0 5), .int (S 0 6), .int (S 0 7), .int (S 0 8), .int (S 0 9), .int (S 0 10), .int (S 0 11), .int (S 0 12), .ref (a 5), .int (S 0 14), .int (S 0 15), .ref (a 6), .ref (a 7), .ref (a 8), .ref (a 9), .ref (a 10), .ref (a 11), .ref (a 12), .ref (a 13), .ref (a 14), .ref (a 15), .int (S 0 26), .ref (a 16)] 7 (.int v))) = cM t a (us S 0 7 v) := rfl
theorem cM_set_0_8 (t : Nat → ClassId) (a : Nat → Nat) (S : ST) (v : Int32) : (cM t a S).set 0 (a 0, .inr (5, List.set [.ref (a 1), .ref (a 2), .ref (a 3), .ref (a 4), .int (S 0 4), .int (S 0 5), .int (S 0 6), .int (S 0 7), .int (S 0 8), .int (S 0 9), .int (S 0 10), .int (S 0 11), .int (S 0 12), .ref (a 5), .int (S 0 14), .int (S 0 15), .ref (a 6), .ref (a 7), .ref (a 8), .ref (a 9), .ref (a 10), .ref (a 11), .ref (a 12), .ref (a 13), .ref (a 14), .ref (a 15), .int (S 0 26), .ref (a 16)] 8 (.int v))) = cM t a (us S 0 8 v) := rfl
theorem cM_set_0_9 (t : Nat → ClassId) (a : Nat → Nat) (S : ST) (v : Int32) : (cM t a S).set 0 (a 0, .inr (5, List.set [.ref (a 1), .ref (a 2), .ref (a 3), .ref (a 4), .int (S 0 4), .int (S 0 5), .int (S 0 6), .int (S 0 7), .int (S 0 8), .int (S 0 9), .int (S 0 10), .int (S 0 11), .int (S 0 12), .ref (a 5), .int (S 0 14), .int (S 0 15), .ref (a 6), .ref (a 7), .ref (a 8), .ref (a 9), .ref (a 10), .ref (a 11), .ref (a 12), .ref (a 13), .ref (a 14), .ref (a 15), .int (S 0 26), .ref (a 16)] 9 (.int v))) = cM t a (us S 0 9 v) := rfl
theorem cM_set_0_10 (t : Nat → ClassId) (a : Nat → Nat) (S : ST) (v : Int32) : (cM t a S).set 0 (a 0, .inr (5, List.set [.ref (a 1), .ref (a 2), .ref (a 3), .ref (a 4), .int (S 0 4), .int (S 0 5), .int (S 0 6), .int (S 0 7), .int (S 0 8), .int (S 0 9), .int (S 0 10), .int (S 0 11), .int (S 0 12), .ref (a 5), .int (S 0 14), .int (S 0 15), .ref (a 6), .ref (a 7), .ref (a 8), .ref (a 9), .ref (a 10), .ref (a 11), .ref (a 12), .ref (a 13), .ref (a 14), .ref (a 15), .int (S 0 26), .ref (a 16)] 10 (.int v))) = cM t a (us S 0 10 v) := rfl
theorem cM_set_0_11 (t : Nat → ClassId) (a : Nat → Nat) (S : ST) (v : Int32) : (cM t a S).set 0 (a 0, .inr (5, List.set [.ref (a 1), .ref (a 2), .ref (a 3), .ref (a 4), .int (S 0 4), .int (S 0 5), .int (S 0 6), .int (S 0 7), .int (S 0 8), .int (S 0 9), .int (S 0 10), .int (S 0 11), .int (S 0 12), .ref (a 5), .int (S 0 14), .int (S 0 15), .ref (a 6), .ref (a 7), .ref (a 8), .ref (a 9), .ref (a 10), .ref (a 11), .ref (a 12), .ref (a 13), .ref (a 14), .ref (a 15), .int (S 0 26), .ref (a 16)] 11 (.int v))) = cM t a (us S 0 11 v) := rfl
theorem cM_set_0_12 (t : Nat → ClassId) (a : Nat → Nat) (S : ST) (v : Int32) : (cM t a S).set 0 (a 0, .inr (5, List.set [.ref (a 1), .ref (a 2), .ref (a 3), .ref (a 4), .int (S 0 4), .int (S 0 5), .int (S 0 6), .int (S 0 7), .int (S 0 8), .int (S 0 9), .int (S 0 10), .int (S 0 11), .int (S 0 12), .ref (a 5), .int (S 0 14), .int (S 0 15), .ref (a 6), .ref (a 7), .ref (a 8), .ref (a 9), .ref (a 10), .ref (a 11), .ref (a 12), .ref (a 13), .ref (a 14), .ref (a 15), .int (S 0 26), .ref (a 16)] 12 (.int v))) = cM t a (us S 0 12 v) := rfl
theorem cM_set_0_14 (t : Nat → ClassId) (a : Nat → Nat) (S : ST) (v : Int32) : (cM t a S).set 0 (a 0, .inr (5, List.set [.ref (a 1), .ref (a 2), .ref (a 3), .ref (a 4), .int (S 0 4), .int (S 0 5), .int (S 0 6), .int (S 0 7), .int (S 0 8), .int (S 0 9), .int (S 0 10), .int (S 0 11), .int (S 0 12), .ref (a 5), .int (S 0 14), .int (S 0 15), .ref (a 6), .ref (a 7), .ref (a 8), .ref (a 9), .ref (a 10), .ref (a 11), .ref (a 12), .ref (a 13), .ref (a 14), .ref (a 15), .int (S 0 26), .ref (a 16)] 14 (.int v))) = cM t a (us S 0 14 v) := rfl
theorem cM_set_0_15 (t : Nat → ClassId) (a : Nat → Nat) (S : ST) (v : Int32) : (cM t a S).set 0 (a 0, .inr (5, List.set [.ref (a 1), .ref (a 2), .ref (a 3), .ref (a 4), .int (S 0 4), .int (S 0 5), .int (S 0 6), .int (S 0 7), .int (S 0 8), .int (S 0 9), .int (S 0 10), .int (S 0 11), .int (S 0 12), .ref (a 5), .int (S 0 14), .int (S 0 15), .ref (a 6), .ref (a 7), .ref (a 8), .ref (a 9), .ref (a 10), .ref (a 11), .ref (a 12), .ref (a 13), .ref (a 14), .ref (a 15), .int (S 0 26), .ref (a 16)] 15 (.int v))) = cM t a (us S 0 15 v) := rfl
theorem cM_set_0_26 (t : Nat → ClassId) (a : Nat → Nat) (S : ST) (v : Int32) : (cM t a S).set 0 (a 0, .inr (5, List.set [.ref (a 1), .ref (a 2), .ref (a 3), .ref (a 4), .int (S 0 4), .int (S 0 5), .int (S 0 6), .int (S 0 7), .int (S 0 8), .int (S 0 9), .int (S 0 10), .int (S 0 11), .int (S 0 12), .ref (a 5), .int (S 0 14), .int (S 0 15), .ref (a 6), .ref (a 7), .ref (a 8), .ref (a 9), .ref (a 10), .ref (a 11), .ref (a 12), .ref (a 13), .ref (a 14), .ref (a 15), .int (S 0 26), .ref (a 16)] 26 (.int v))) = cM t a (us S 0 26 v) := rfl
theorem cM_st_1 (t : Nat → ClassId) (a : Nat → Nat) (S : ST) (j : Nat) (v : Int32) : (cM t a S).set 1 (a 1, .inl (t 0, 261, .inl (upd (S 1) j v))) = cM t a (us S 1 j v) := rfl
theorem cM_st_2 (t : Nat → ClassId) (a : Nat → Nat) (S : ST) (j : Nat) (v : Int32) : (cM t a S).set 2 (a 2, .inl (t 0, 522, .inl (upd (S 2) j v))) = cM t a (us S 2 j v) := rfl
theorem cM_st_3 (t : Nat → ClassId) (a : Nat → Nat) (S : ST) (j : Nat) (v : Int32) : (cM t a S).set 3 (a 3, .inl (t 1, 2, .inl (upd (S 3) j v))) = cM t a (us S 3 j v) := rfl
theorem cM_st_4 (t : Nat → ClassId) (a : Nat → Nat) (S : ST) (j : Nat) (v : Int32) : (cM t a S).set 4 (a 4, .inl (t 0, 3, .inl (upd (S 4) j v))) = cM t a (us S 4 j v) := rfl
theorem cM_st_5 (t : Nat → ClassId) (a : Nat → Nat) (S : ST) (j : Nat) (v : Int32) : (cM t a S).set 5 (a 5, .inl (t 0, 46, .inl (upd (S 5) j v))) = cM t a (us S 5 j v) := rfl
theorem cM_st_6 (t : Nat → ClassId) (a : Nat → Nat) (S : ST) (j : Nat) (v : Int32) : (cM t a S).set 6 (a 6, .inl (t 0, 64, .inl (upd (S 6) j v))) = cM t a (us S 6 j v) := rfl
theorem cM_st_7 (t : Nat → ClassId) (a : Nat → Nat) (S : ST) (j : Nat) (v : Int32) : (cM t a S).set 7 (a 7, .inl (t 0, 64, .inl (upd (S 7) j v))) = cM t a (us S 7 j v) := rfl
theorem cM_st_8 (t : Nat → ClassId) (a : Nat → Nat) (S : ST) (j : Nat) (v : Int32) : (cM t a S).set 8 (a 8, .inl (t 0, 64, .inl (upd (S 8) j v))) = cM t a (us S 8 j v) := rfl
theorem cM_st_9 (t : Nat → ClassId) (a : Nat → Nat) (S : ST) (j : Nat) (v : Int32) : (cM t a S).set 9 (a 9, .inl (t 0, 64, .inl (upd (S 9) j v))) = cM t a (us S 9 j v) := rfl
theorem cM_st_10 (t : Nat → ClassId) (a : Nat → Nat) (S : ST) (j : Nat) (v : Int32) : (cM t a S).set 10 (a 10, .inl (t 0, 64, .inl (upd (S 10) j v))) = cM t a (us S 10 j v) := rfl
theorem cM_st_11 (t : Nat → ClassId) (a : Nat → Nat) (S : ST) (j : Nat) (v : Int32) : (cM t a S).set 11 (a 11, .inl (t 0, 7, .inl (upd (S 11) j v))) = cM t a (us S 11 j v) := rfl
theorem cM_st_12 (t : Nat → ClassId) (a : Nat → Nat) (S : ST) (j : Nat) (v : Int32) : (cM t a S).set 12 (a 12, .inl (t 0, 7, .inl (upd (S 12) j v))) = cM t a (us S 12 j v) := rfl
theorem cM_st_13 (t : Nat → ClassId) (a : Nat → Nat) (S : ST) (j : Nat) (v : Int32) : (cM t a S).set 13 (a 13, .inl (t 0, 7, .inl (upd (S 13) j v))) = cM t a (us S 13 j v) := rfl
theorem cM_st_14 (t : Nat → ClassId) (a : Nat → Nat) (S : ST) (j : Nat) (v : Int32) : (cM t a S).set 14 (a 14, .inl (t 0, 7, .inl (upd (S 14) j v))) = cM t a (us S 14 j v) := rfl
theorem cM_st_15 (t : Nat → ClassId) (a : Nat → Nat) (S : ST) (j : Nat) (v : Int32) : (cM t a S).set 15 (a 15, .inl (t 0, 7, .inl (upd (S 15) j v))) = cM t a (us S 15 j v) := rfl
theorem cM_st_16 (t : Nat → ClassId) (a : Nat → Nat) (S : ST) (j : Nat) (v : Int32) : (cM t a S).set 16 (a 16, .inl (t 0, 6, .inl (upd (S 16) j v))) = cM t a (us S 16 j v) := rfl
def cC (t : Nat → ClassId) (a : Nat → Nat) (S : ST) : va_W := [(a 0, .inr (2, [.int (S 0 0), .ref (a 1), .ref (a 2), .ref (a 3), .ref (a 4), .ref (a 5), .int (S 0 6), .int (S 0 7), .int (S 0 8), .int (S 0 9), .ref (a 6), .int (S 0 11), .ref (a 7), .int (S 0 13), .ref (a 8), .ref (a 9)])), (a 1, .inl (t 0, 6, .inl (S 1))), (a 2, .inl (t 0, 6, .inl (S 2))), (a 3, .inl (t 0, 6, .inl (S 3))), (a 4, .inl (t 0, 6, .inl (S 4))), (a 5, .inl (t 0, 6, .inl (S 5))), (a 6, .inl (t 0, 12, .inl (S 6))), (a 7, .inl (t 0, 200, .inl (S 7))), (a 8, .inl (t 0, 6, .inl (S 8))), (a 9, .inl (t 0, 6, .inl (S 9))), (a 10, .inr (2, [.int (S 10 0), .ref (a 11), .ref (a 12), .ref (a 13), .ref (a 14), .ref (a 15), .int (S 10 6), .int (S 10 7), .int (S 10 8), .int (S 10 9), .ref (a 16), .int (S 10 11), .ref (a 17), .int (S 10 13), .ref (a 18), .ref (a 19)])), (a 11, .inl (t 0, 6, .inl (S 11))), (a 12, .inl (t 0, 6, .inl (S 12))), (a 13, .inl (t 0, 6, .inl (S 13))), (a 14, .inl (t 0, 6, .inl (S 14))), (a 15, .inl (t 0, 6, .inl (S 15))), (a 16, .inl (t 0, 12, .inl (S 16))), (a 17, .inl (t 0, 200, .inl (S 17))), (a 18, .inl (t 0, 6, .inl (S 18))), (a 19, .inl (t 0, 6, .inl (S 19))), (a 20, .inr (2, [.int (S 20 0), .ref (a 21), .ref (a 22), .ref (a 23), .ref (a 24), .ref (a 25), .int (S 20 6), .int (S 20 7), .int (S 20 8), .int (S 20 9), .ref (a 26), .int (S 20 11), .ref (a 27), .int (S 20 13), .ref (a 28), .ref (a 29)])), (a 21, .inl (t 0, 6, .inl (S 21))), (a 22, .inl (t 0, 6, .inl (S 22))), (a 23, .inl (t 0, 6, .inl (S 23))), (a 24, .inl (t 0, 6, .inl (S 24))), (a 25, .inl (t 0, 6, .inl (S 25))), (a 26, .inl (t 0, 12, .inl (S 26))), (a 27, .inl (t 0, 200, .inl (S 27))), (a 28, .inl (t 0, 6, .inl (S 28))), (a 29, .inl (t 0, 6, .inl (S 29))), (a 30, .inr (2, [.int (S 30 0), .ref (a 31), .ref (a 32), .ref (a 33), .ref (a 34), .ref (a 35), .int (S 30 6), .int (S 30 7), .int (S 30 8), .int (S 30 9), .ref (a 36), .int (S 30 11), .ref (a 37), .int (S 30 13), .ref (a 38), .ref (a 39)])), (a 31, .inl (t 0, 6, .inl (S 31))), (a 32, .inl (t 0, 6, .inl (S 32))), (a 33, .inl (t 0, 6, .inl (S 33))), (a 34, .inl (t 0, 6, .inl (S 34))), (a 35, .inl (t 0, 6, .inl (S 35))), (a 36, .inl (t 0, 12, .inl (S 36))), (a 37, .inl (t 0, 200, .inl (S 37))), (a 38, .inl (t 0, 6, .inl (S 38))), (a 39, .inl (t 0, 6, .inl (S 39))), (a 40, .inr (3, [.ref (a 0), .ref (a 41), .ref (a 42), .ref (a 43), .ref (a 44), .ref (a 45), .int (S 40 6)])), (a 41, .inl (t 0, 6, .inl (S 41))), (a 42, .inl (t 0, 7, .inl (S 42))), (a 43, .inl (t 0, 7, .inl (S 43))), (a 44, .inl (t 0, 7, .inl (S 44))), (a 45, .inl (t 0, 7, .inl (S 45))), (a 46, .inr (1, [.ref (a 0), .ref (a 40), .int (S 46 2), .int (S 46 3), .int (S 46 4), .int (S 46 5), .int (S 46 6), .int (S 46 7), .int (S 46 8), .int (S 46 9), .ref (a 47), .ref (a 48)])), (a 47, .inl (t 0, 6, .inl (S 47))), (a 48, .inl (t 0, 6, .inl (S 48))), (a 49, .inr (0, [.ref (a 10), .int (S 49 1), .ref (a 0), .ref (a 7), .int (S 49 4), .int (S 49 5), .int (S 49 6), .int (S 49 7), .int (S 49 8)])), (a 50, .inr (4, [.ref (a 0), .ref (a 51), .ref (a 52), .ref (a 40), .ref (a 46), .ref (a 49), .ref (a 53), .ref (a 54), .ref (a 55)])), (a 51, .inl (t 2, 2, .inr (.inr (.inr (.inr (va_up (va_up (fun _ => none) 0 (some (a 20))) 1 (some (a 30)))))))), (a 52, .inl (t 1, 2, .inl (S 52))), (a 53, .inl (t 0, 3, .inl (S 53))), (a 54, .inl (t 0, 21, .inl (S 54))), (a 55, .inl (t 0, 6, .inl (S 55)))]
def tyC (t : Nat → ClassId) : List (ClassId × FieldType) := [(t 0, .int), (t 1, .boolean), (t 2, .object "NextDoor$Street")]
theorem cC_at_0 (t : Nat → ClassId) (a : Nat → Nat) (S : ST) : (cC t a S)[0]? = some (a 0, .inr (2, [.int (S 0 0), .ref (a 1), .ref (a 2), .ref (a 3), .ref (a 4), .ref (a 5), .int (S 0 6), .int (S 0 7), .int (S 0 8), .int (S 0 9), .ref (a 6), .int (S 0 11), .ref (a 7), .int (S 0 13), .ref (a 8), .ref (a 9)])) := rfl
theorem cC_at_1 (t : Nat → ClassId) (a : Nat → Nat) (S : ST) : (cC t a S)[1]? = some (a 1, .inl (t 0, 6, .inl (S 1))) := rfl
theorem cC_at_2 (t : Nat → ClassId) (a : Nat → Nat) (S : ST) : (cC t a S)[2]? = some (a 2, .inl (t 0, 6, .inl (S 2))) := rfl
theorem cC_at_3 (t : Nat → ClassId) (a : Nat → Nat) (S : ST) : (cC t a S)[3]? = some (a 3, .inl (t 0, 6, .inl (S 3))) := rfl
theorem cC_at_4 (t : Nat → ClassId) (a : Nat → Nat) (S : ST) : (cC t a S)[4]? = some (a 4, .inl (t 0, 6, .inl (S 4))) := rfl
theorem cC_at_5 (t : Nat → ClassId) (a : Nat → Nat) (S : ST) : (cC t a S)[5]? = some (a 5, .inl (t 0, 6, .inl (S 5))) := rfl
theorem cC_at_6 (t : Nat → ClassId) (a : Nat → Nat) (S : ST) : (cC t a S)[6]? = some (a 6, .inl (t 0, 12, .inl (S 6))) := rfl
theorem cC_at_7 (t : Nat → ClassId) (a : Nat → Nat) (S : ST) : (cC t a S)[7]? = some (a 7, .inl (t 0, 200, .inl (S 7))) := rfl
theorem cC_at_8 (t : Nat → ClassId) (a : Nat → Nat) (S : ST) : (cC t a S)[8]? = some (a 8, .inl (t 0, 6, .inl (S 8))) := rfl
theorem cC_at_9 (t : Nat → ClassId) (a : Nat → Nat) (S : ST) : (cC t a S)[9]? = some (a 9, .inl (t 0, 6, .inl (S 9))) := rfl
theorem cC_at_10 (t : Nat → ClassId) (a : Nat → Nat) (S : ST) : (cC t a S)[10]? = some (a 10, .inr (2, [.int (S 10 0), .ref (a 11), .ref (a 12), .ref (a 13), .ref (a 14), .ref (a 15), .int (S 10 6), .int (S 10 7), .int (S 10 8), .int (S 10 9), .ref (a 16), .int (S 10 11), .ref (a 17), .int (S 10 13), .ref (a 18), .ref (a 19)])) := rfl
theorem cC_at_11 (t : Nat → ClassId) (a : Nat → Nat) (S : ST) : (cC t a S)[11]? = some (a 11, .inl (t 0, 6, .inl (S 11))) := rfl
theorem cC_at_12 (t : Nat → ClassId) (a : Nat → Nat) (S : ST) : (cC t a S)[12]? = some (a 12, .inl (t 0, 6, .inl (S 12))) := rfl
theorem cC_at_13 (t : Nat → ClassId) (a : Nat → Nat) (S : ST) : (cC t a S)[13]? = some (a 13, .inl (t 0, 6, .inl (S 13))) := rfl
theorem cC_at_14 (t : Nat → ClassId) (a : Nat → Nat) (S : ST) : (cC t a S)[14]? = some (a 14, .inl (t 0, 6, .inl (S 14))) := rfl
theorem cC_at_15 (t : Nat → ClassId) (a : Nat → Nat) (S : ST) : (cC t a S)[15]? = some (a 15, .inl (t 0, 6, .inl (S 15))) := rfl
theorem cC_at_16 (t : Nat → ClassId) (a : Nat → Nat) (S : ST) : (cC t a S)[16]? = some (a 16, .inl (t 0, 12, .inl (S 16))) := rfl
theorem cC_at_17 (t : Nat → ClassId) (a : Nat → Nat) (S : ST) : (cC t a S)[17]? = some (a 17, .inl (t 0, 200, .inl (S 17))) := rfl
theorem cC_at_18 (t : Nat → ClassId) (a : Nat → Nat) (S : ST) : (cC t a S)[18]? = some (a 18, .inl (t 0, 6, .inl (S 18))) := rfl
theorem cC_at_19 (t : Nat → ClassId) (a : Nat → Nat) (S : ST) : (cC t a S)[19]? = some (a 19, .inl (t 0, 6, .inl (S 19))) := rfl
theorem cC_at_20 (t : Nat → ClassId) (a : Nat → Nat) (S : ST) : (cC t a S)[20]? = some (a 20, .inr (2, [.int (S 20 0), .ref (a 21), .ref (a 22), .ref (a 23), .ref (a 24), .ref (a 25), .int (S 20 6), .int (S 20 7), .int (S 20 8), .int (S 20 9), .ref (a 26), .int (S 20 11), .ref (a 27), .int (S 20 13), .ref (a 28), .ref (a 29)])) := rfl
theorem cC_at_21 (t : Nat → ClassId) (a : Nat → Nat) (S : ST) : (cC t a S)[21]? = some (a 21, .inl (t 0, 6, .inl (S 21))) := rfl
theorem cC_at_22 (t : Nat → ClassId) (a : Nat → Nat) (S : ST) : (cC t a S)[22]? = some (a 22, .inl (t 0, 6, .inl (S 22))) := rfl
theorem cC_at_23 (t : Nat → ClassId) (a : Nat → Nat) (S : ST) : (cC t a S)[23]? = some (a 23, .inl (t 0, 6, .inl (S 23))) := rfl
theorem cC_at_24 (t : Nat → ClassId) (a : Nat → Nat) (S : ST) : (cC t a S)[24]? = some (a 24, .inl (t 0, 6, .inl (S 24))) := rfl
theorem cC_at_25 (t : Nat → ClassId) (a : Nat → Nat) (S : ST) : (cC t a S)[25]? = some (a 25, .inl (t 0, 6, .inl (S 25))) := rfl
theorem cC_at_26 (t : Nat → ClassId) (a : Nat → Nat) (S : ST) : (cC t a S)[26]? = some (a 26, .inl (t 0, 12, .inl (S 26))) := rfl
theorem cC_at_27 (t : Nat → ClassId) (a : Nat → Nat) (S : ST) : (cC t a S)[27]? = some (a 27, .inl (t 0, 200, .inl (S 27))) := rfl
theorem cC_at_28 (t : Nat → ClassId) (a : Nat → Nat) (S : ST) : (cC t a S)[28]? = some (a 28, .inl (t 0, 6, .inl (S 28))) := rfl
theorem cC_at_29 (t : Nat → ClassId) (a : Nat → Nat) (S : ST) : (cC t a S)[29]? = some (a 29, .inl (t 0, 6, .inl (S 29))) := rfl
theorem cC_at_30 (t : Nat → ClassId) (a : Nat → Nat) (S : ST) : (cC t a S)[30]? = some (a 30, .inr (2, [.int (S 30 0), .ref (a 31), .ref (a 32), .ref (a 33), .ref (a 34), .ref (a 35), .int (S 30 6), .int (S 30 7), .int (S 30 8), .int (S 30 9), .ref (a 36), .int (S 30 11), .ref (a 37), .int (S 30 13), .ref (a 38), .ref (a 39)])) := rfl
theorem cC_at_31 (t : Nat → ClassId) (a : Nat → Nat) (S : ST) : (cC t a S)[31]? = some (a 31, .inl (t 0, 6, .inl (S 31))) := rfl
theorem cC_at_32 (t : Nat → ClassId) (a : Nat → Nat) (S : ST) : (cC t a S)[32]? = some (a 32, .inl (t 0, 6, .inl (S 32))) := rfl
theorem cC_at_33 (t : Nat → ClassId) (a : Nat → Nat) (S : ST) : (cC t a S)[33]? = some (a 33, .inl (t 0, 6, .inl (S 33))) := rfl
theorem cC_at_34 (t : Nat → ClassId) (a : Nat → Nat) (S : ST) : (cC t a S)[34]? = some (a 34, .inl (t 0, 6, .inl (S 34))) := rfl
theorem cC_at_35 (t : Nat → ClassId) (a : Nat → Nat) (S : ST) : (cC t a S)[35]? = some (a 35, .inl (t 0, 6, .inl (S 35))) := rfl
theorem cC_at_36 (t : Nat → ClassId) (a : Nat → Nat) (S : ST) : (cC t a S)[36]? = some (a 36, .inl (t 0, 12, .inl (S 36))) := rfl
theorem cC_at_37 (t : Nat → ClassId) (a : Nat → Nat) (S : ST) : (cC t a S)[37]? = some (a 37, .inl (t 0, 200, .inl (S 37))) := rfl
theorem cC_at_38 (t : Nat → ClassId) (a : Nat → Nat) (S : ST) : (cC t a S)[38]? = some (a 38, .inl (t 0, 6, .inl (S 38))) := rfl
theorem cC_at_39 (t : Nat → ClassId) (a : Nat → Nat) (S : ST) : (cC t a S)[39]? = some (a 39, .inl (t 0, 6, .inl (S 39))) := rfl
theorem cC_at_40 (t : Nat → ClassId) (a : Nat → Nat) (S : ST) : (cC t a S)[40]? = some (a 40, .inr (3, [.ref (a 0), .ref (a 41), .ref (a 42), .ref (a 43), .ref (a 44), .ref (a 45), .int (S 40 6)])) := rfl
theorem cC_at_41 (t : Nat → ClassId) (a : Nat → Nat) (S : ST) : (cC t a S)[41]? = some (a 41, .inl (t 0, 6, .inl (S 41))) := rfl
theorem cC_at_42 (t : Nat → ClassId) (a : Nat → Nat) (S : ST) : (cC t a S)[42]? = some (a 42, .inl (t 0, 7, .inl (S 42))) := rfl
theorem cC_at_43 (t : Nat → ClassId) (a : Nat → Nat) (S : ST) : (cC t a S)[43]? = some (a 43, .inl (t 0, 7, .inl (S 43))) := rfl
theorem cC_at_44 (t : Nat → ClassId) (a : Nat → Nat) (S : ST) : (cC t a S)[44]? = some (a 44, .inl (t 0, 7, .inl (S 44))) := rfl
theorem cC_at_45 (t : Nat → ClassId) (a : Nat → Nat) (S : ST) : (cC t a S)[45]? = some (a 45, .inl (t 0, 7, .inl (S 45))) := rfl
theorem cC_at_46 (t : Nat → ClassId) (a : Nat → Nat) (S : ST) : (cC t a S)[46]? = some (a 46, .inr (1, [.ref (a 0), .ref (a 40), .int (S 46 2), .int (S 46 3), .int (S 46 4), .int (S 46 5), .int (S 46 6), .int (S 46 7), .int (S 46 8), .int (S 46 9), .ref (a 47), .ref (a 48)])) := rfl
theorem cC_at_47 (t : Nat → ClassId) (a : Nat → Nat) (S : ST) : (cC t a S)[47]? = some (a 47, .inl (t 0, 6, .inl (S 47))) := rfl
theorem cC_at_48 (t : Nat → ClassId) (a : Nat → Nat) (S : ST) : (cC t a S)[48]? = some (a 48, .inl (t 0, 6, .inl (S 48))) := rfl
theorem cC_at_49 (t : Nat → ClassId) (a : Nat → Nat) (S : ST) : (cC t a S)[49]? = some (a 49, .inr (0, [.ref (a 10), .int (S 49 1), .ref (a 0), .ref (a 7), .int (S 49 4), .int (S 49 5), .int (S 49 6), .int (S 49 7), .int (S 49 8)])) := rfl
theorem cC_at_50 (t : Nat → ClassId) (a : Nat → Nat) (S : ST) : (cC t a S)[50]? = some (a 50, .inr (4, [.ref (a 0), .ref (a 51), .ref (a 52), .ref (a 40), .ref (a 46), .ref (a 49), .ref (a 53), .ref (a 54), .ref (a 55)])) := rfl
theorem cC_at_51 (t : Nat → ClassId) (a : Nat → Nat) (S : ST) : (cC t a S)[51]? = some (a 51, .inl (t 2, 2, .inr (.inr (.inr (.inr (va_up (va_up (fun _ => none) 0 (some (a 20))) 1 (some (a 30)))))))) := rfl
theorem cC_at_52 (t : Nat → ClassId) (a : Nat → Nat) (S : ST) : (cC t a S)[52]? = some (a 52, .inl (t 1, 2, .inl (S 52))) := rfl
theorem cC_at_53 (t : Nat → ClassId) (a : Nat → Nat) (S : ST) : (cC t a S)[53]? = some (a 53, .inl (t 0, 3, .inl (S 53))) := rfl
theorem cC_at_54 (t : Nat → ClassId) (a : Nat → Nat) (S : ST) : (cC t a S)[54]? = some (a 54, .inl (t 0, 21, .inl (S 54))) := rfl
theorem cC_at_55 (t : Nat → ClassId) (a : Nat → Nat) (S : ST) : (cC t a S)[55]? = some (a 55, .inl (t 0, 6, .inl (S 55))) := rfl
theorem cC_set_0_0 (t : Nat → ClassId) (a : Nat → Nat) (S : ST) (v : Int32) : (cC t a S).set 0 (a 0, .inr (2, List.set [.int (S 0 0), .ref (a 1), .ref (a 2), .ref (a 3), .ref (a 4), .ref (a 5), .int (S 0 6), .int (S 0 7), .int (S 0 8), .int (S 0 9), .ref (a 6), .int (S 0 11), .ref (a 7), .int (S 0 13), .ref (a 8), .ref (a 9)] 0 (.int v))) = cC t a (us S 0 0 v) := rfl
theorem cC_set_0_6 (t : Nat → ClassId) (a : Nat → Nat) (S : ST) (v : Int32) : (cC t a S).set 0 (a 0, .inr (2, List.set [.int (S 0 0), .ref (a 1), .ref (a 2), .ref (a 3), .ref (a 4), .ref (a 5), .int (S 0 6), .int (S 0 7), .int (S 0 8), .int (S 0 9), .ref (a 6), .int (S 0 11), .ref (a 7), .int (S 0 13), .ref (a 8), .ref (a 9)] 6 (.int v))) = cC t a (us S 0 6 v) := rfl
theorem cC_set_0_7 (t : Nat → ClassId) (a : Nat → Nat) (S : ST) (v : Int32) : (cC t a S).set 0 (a 0, .inr (2, List.set [.int (S 0 0), .ref (a 1), .ref (a 2), .ref (a 3), .ref (a 4), .ref (a 5), .int (S 0 6), .int (S 0 7), .int (S 0 8), .int (S 0 9), .ref (a 6), .int (S 0 11), .ref (a 7), .int (S 0 13), .ref (a 8), .ref (a 9)] 7 (.int v))) = cC t a (us S 0 7 v) := rfl
theorem cC_set_0_8 (t : Nat → ClassId) (a : Nat → Nat) (S : ST) (v : Int32) : (cC t a S).set 0 (a 0, .inr (2, List.set [.int (S 0 0), .ref (a 1), .ref (a 2), .ref (a 3), .ref (a 4), .ref (a 5), .int (S 0 6), .int (S 0 7), .int (S 0 8), .int (S 0 9), .ref (a 6), .int (S 0 11), .ref (a 7), .int (S 0 13), .ref (a 8), .ref (a 9)] 8 (.int v))) = cC t a (us S 0 8 v) := rfl
theorem cC_set_0_9 (t : Nat → ClassId) (a : Nat → Nat) (S : ST) (v : Int32) : (cC t a S).set 0 (a 0, .inr (2, List.set [.int (S 0 0), .ref (a 1), .ref (a 2), .ref (a 3), .ref (a 4), .ref (a 5), .int (S 0 6), .int (S 0 7), .int (S 0 8), .int (S 0 9), .ref (a 6), .int (S 0 11), .ref (a 7), .int (S 0 13), .ref (a 8), .ref (a 9)] 9 (.int v))) = cC t a (us S 0 9 v) := rfl
theorem cC_set_0_11 (t : Nat → ClassId) (a : Nat → Nat) (S : ST) (v : Int32) : (cC t a S).set 0 (a 0, .inr (2, List.set [.int (S 0 0), .ref (a 1), .ref (a 2), .ref (a 3), .ref (a 4), .ref (a 5), .int (S 0 6), .int (S 0 7), .int (S 0 8), .int (S 0 9), .ref (a 6), .int (S 0 11), .ref (a 7), .int (S 0 13), .ref (a 8), .ref (a 9)] 11 (.int v))) = cC t a (us S 0 11 v) := rfl
theorem cC_set_0_13 (t : Nat → ClassId) (a : Nat → Nat) (S : ST) (v : Int32) : (cC t a S).set 0 (a 0, .inr (2, List.set [.int (S 0 0), .ref (a 1), .ref (a 2), .ref (a 3), .ref (a 4), .ref (a 5), .int (S 0 6), .int (S 0 7), .int (S 0 8), .int (S 0 9), .ref (a 6), .int (S 0 11), .ref (a 7), .int (S 0 13), .ref (a 8), .ref (a 9)] 13 (.int v))) = cC t a (us S 0 13 v) := rfl
theorem cC_st_1 (t : Nat → ClassId) (a : Nat → Nat) (S : ST) (j : Nat) (v : Int32) : (cC t a S).set 1 (a 1, .inl (t 0, 6, .inl (upd (S 1) j v))) = cC t a (us S 1 j v) := rfl
theorem cC_st_2 (t : Nat → ClassId) (a : Nat → Nat) (S : ST) (j : Nat) (v : Int32) : (cC t a S).set 2 (a 2, .inl (t 0, 6, .inl (upd (S 2) j v))) = cC t a (us S 2 j v) := rfl
theorem cC_st_3 (t : Nat → ClassId) (a : Nat → Nat) (S : ST) (j : Nat) (v : Int32) : (cC t a S).set 3 (a 3, .inl (t 0, 6, .inl (upd (S 3) j v))) = cC t a (us S 3 j v) := rfl
theorem cC_st_4 (t : Nat → ClassId) (a : Nat → Nat) (S : ST) (j : Nat) (v : Int32) : (cC t a S).set 4 (a 4, .inl (t 0, 6, .inl (upd (S 4) j v))) = cC t a (us S 4 j v) := rfl
theorem cC_st_5 (t : Nat → ClassId) (a : Nat → Nat) (S : ST) (j : Nat) (v : Int32) : (cC t a S).set 5 (a 5, .inl (t 0, 6, .inl (upd (S 5) j v))) = cC t a (us S 5 j v) := rfl
theorem cC_st_6 (t : Nat → ClassId) (a : Nat → Nat) (S : ST) (j : Nat) (v : Int32) : (cC t a S).set 6 (a 6, .inl (t 0, 12, .inl (upd (S 6) j v))) = cC t a (us S 6 j v) := rfl
theorem cC_st_7 (t : Nat → ClassId) (a : Nat → Nat) (S : ST) (j : Nat) (v : Int32) : (cC t a S).set 7 (a 7, .inl (t 0, 200, .inl (upd (S 7) j v))) = cC t a (us S 7 j v) := rfl
theorem cC_st_8 (t : Nat → ClassId) (a : Nat → Nat) (S : ST) (j : Nat) (v : Int32) : (cC t a S).set 8 (a 8, .inl (t 0, 6, .inl (upd (S 8) j v))) = cC t a (us S 8 j v) := rfl
theorem cC_st_9 (t : Nat → ClassId) (a : Nat → Nat) (S : ST) (j : Nat) (v : Int32) : (cC t a S).set 9 (a 9, .inl (t 0, 6, .inl (upd (S 9) j v))) = cC t a (us S 9 j v) := rfl
theorem cC_set_10_0 (t : Nat → ClassId) (a : Nat → Nat) (S : ST) (v : Int32) : (cC t a S).set 10 (a 10, .inr (2, List.set [.int (S 10 0), .ref (a 11), .ref (a 12), .ref (a 13), .ref (a 14), .ref (a 15), .int (S 10 6), .int (S 10 7), .int (S 10 8), .int (S 10 9), .ref (a 16), .int (S 10 11), .ref (a 17), .int (S 10 13), .ref (a 18), .ref (a 19)] 0 (.int v))) = cC t a (us S 10 0 v) := rfl
theorem cC_set_10_6 (t : Nat → ClassId) (a : Nat → Nat) (S : ST) (v : Int32) : (cC t a S).set 10 (a 10, .inr (2, List.set [.int (S 10 0), .ref (a 11), .ref (a 12), .ref (a 13), .ref (a 14), .ref (a 15), .int (S 10 6), .int (S 10 7), .int (S 10 8), .int (S 10 9), .ref (a 16), .int (S 10 11), .ref (a 17), .int (S 10 13), .ref (a 18), .ref (a 19)] 6 (.int v))) = cC t a (us S 10 6 v) := rfl
theorem cC_set_10_7 (t : Nat → ClassId) (a : Nat → Nat) (S : ST) (v : Int32) : (cC t a S).set 10 (a 10, .inr (2, List.set [.int (S 10 0), .ref (a 11), .ref (a 12), .ref (a 13), .ref (a 14), .ref (a 15), .int (S 10 6), .int (S 10 7), .int (S 10 8), .int (S 10 9), .ref (a 16), .int (S 10 11), .ref (a 17), .int (S 10 13), .ref (a 18), .ref (a 19)] 7 (.int v))) = cC t a (us S 10 7 v) := rfl
theorem cC_set_10_8 (t : Nat → ClassId) (a : Nat → Nat) (S : ST) (v : Int32) : (cC t a S).set 10 (a 10, .inr (2, List.set [.int (S 10 0), .ref (a 11), .ref (a 12), .ref (a 13), .ref (a 14), .ref (a 15), .int (S 10 6), .int (S 10 7), .int (S 10 8), .int (S 10 9), .ref (a 16), .int (S 10 11), .ref (a 17), .int (S 10 13), .ref (a 18), .ref (a 19)] 8 (.int v))) = cC t a (us S 10 8 v) := rfl
theorem cC_set_10_9 (t : Nat → ClassId) (a : Nat → Nat) (S : ST) (v : Int32) : (cC t a S).set 10 (a 10, .inr (2, List.set [.int (S 10 0), .ref (a 11), .ref (a 12), .ref (a 13), .ref (a 14), .ref (a 15), .int (S 10 6), .int (S 10 7), .int (S 10 8), .int (S 10 9), .ref (a 16), .int (S 10 11), .ref (a 17), .int (S 10 13), .ref (a 18), .ref (a 19)] 9 (.int v))) = cC t a (us S 10 9 v) := rfl
theorem cC_set_10_11 (t : Nat → ClassId) (a : Nat → Nat) (S : ST) (v : Int32) : (cC t a S).set 10 (a 10, .inr (2, List.set [.int (S 10 0), .ref (a 11), .ref (a 12), .ref (a 13), .ref (a 14), .ref (a 15), .int (S 10 6), .int (S 10 7), .int (S 10 8), .int (S 10 9), .ref (a 16), .int (S 10 11), .ref (a 17), .int (S 10 13), .ref (a 18), .ref (a 19)] 11 (.int v))) = cC t a (us S 10 11 v) := rfl
theorem cC_set_10_13 (t : Nat → ClassId) (a : Nat → Nat) (S : ST) (v : Int32) : (cC t a S).set 10 (a 10, .inr (2, List.set [.int (S 10 0), .ref (a 11), .ref (a 12), .ref (a 13), .ref (a 14), .ref (a 15), .int (S 10 6), .int (S 10 7), .int (S 10 8), .int (S 10 9), .ref (a 16), .int (S 10 11), .ref (a 17), .int (S 10 13), .ref (a 18), .ref (a 19)] 13 (.int v))) = cC t a (us S 10 13 v) := rfl
theorem cC_st_11 (t : Nat → ClassId) (a : Nat → Nat) (S : ST) (j : Nat) (v : Int32) : (cC t a S).set 11 (a 11, .inl (t 0, 6, .inl (upd (S 11) j v))) = cC t a (us S 11 j v) := rfl
theorem cC_st_12 (t : Nat → ClassId) (a : Nat → Nat) (S : ST) (j : Nat) (v : Int32) : (cC t a S).set 12 (a 12, .inl (t 0, 6, .inl (upd (S 12) j v))) = cC t a (us S 12 j v) := rfl
theorem cC_st_13 (t : Nat → ClassId) (a : Nat → Nat) (S : ST) (j : Nat) (v : Int32) : (cC t a S).set 13 (a 13, .inl (t 0, 6, .inl (upd (S 13) j v))) = cC t a (us S 13 j v) := rfl
theorem cC_st_14 (t : Nat → ClassId) (a : Nat → Nat) (S : ST) (j : Nat) (v : Int32) : (cC t a S).set 14 (a 14, .inl (t 0, 6, .inl (upd (S 14) j v))) = cC t a (us S 14 j v) := rfl
theorem cC_st_15 (t : Nat → ClassId) (a : Nat → Nat) (S : ST) (j : Nat) (v : Int32) : (cC t a S).set 15 (a 15, .inl (t 0, 6, .inl (upd (S 15) j v))) = cC t a (us S 15 j v) := rfl
theorem cC_st_16 (t : Nat → ClassId) (a : Nat → Nat) (S : ST) (j : Nat) (v : Int32) : (cC t a S).set 16 (a 16, .inl (t 0, 12, .inl (upd (S 16) j v))) = cC t a (us S 16 j v) := rfl
theorem cC_st_17 (t : Nat → ClassId) (a : Nat → Nat) (S : ST) (j : Nat) (v : Int32) : (cC t a S).set 17 (a 17, .inl (t 0, 200, .inl (upd (S 17) j v))) = cC t a (us S 17 j v) := rfl
theorem cC_st_18 (t : Nat → ClassId) (a : Nat → Nat) (S : ST) (j : Nat) (v : Int32) : (cC t a S).set 18 (a 18, .inl (t 0, 6, .inl (upd (S 18) j v))) = cC t a (us S 18 j v) := rfl
theorem cC_st_19 (t : Nat → ClassId) (a : Nat → Nat) (S : ST) (j : Nat) (v : Int32) : (cC t a S).set 19 (a 19, .inl (t 0, 6, .inl (upd (S 19) j v))) = cC t a (us S 19 j v) := rfl
theorem cC_set_20_0 (t : Nat → ClassId) (a : Nat → Nat) (S : ST) (v : Int32) : (cC t a S).set 20 (a 20, .inr (2, List.set [.int (S 20 0), .ref (a 21), .ref (a 22), .ref (a 23), .ref (a 24), .ref (a 25), .int (S 20 6), .int (S 20 7), .int (S 20 8), .int (S 20 9), .ref (a 26), .int (S 20 11), .ref (a 27), .int (S 20 13), .ref (a 28), .ref (a 29)] 0 (.int v))) = cC t a (us S 20 0 v) := rfl
theorem cC_set_20_6 (t : Nat → ClassId) (a : Nat → Nat) (S : ST) (v : Int32) : (cC t a S).set 20 (a 20, .inr (2, List.set [.int (S 20 0), .ref (a 21), .ref (a 22), .ref (a 23), .ref (a 24), .ref (a 25), .int (S 20 6), .int (S 20 7), .int (S 20 8), .int (S 20 9), .ref (a 26), .int (S 20 11), .ref (a 27), .int (S 20 13), .ref (a 28), .ref (a 29)] 6 (.int v))) = cC t a (us S 20 6 v) := rfl
theorem cC_set_20_7 (t : Nat → ClassId) (a : Nat → Nat) (S : ST) (v : Int32) : (cC t a S).set 20 (a 20, .inr (2, List.set [.int (S 20 0), .ref (a 21), .ref (a 22), .ref (a 23), .ref (a 24), .ref (a 25), .int (S 20 6), .int (S 20 7), .int (S 20 8), .int (S 20 9), .ref (a 26), .int (S 20 11), .ref (a 27), .int (S 20 13), .ref (a 28), .ref (a 29)] 7 (.int v))) = cC t a (us S 20 7 v) := rfl
theorem cC_set_20_8 (t : Nat → ClassId) (a : Nat → Nat) (S : ST) (v : Int32) : (cC t a S).set 20 (a 20, .inr (2, List.set [.int (S 20 0), .ref (a 21), .ref (a 22), .ref (a 23), .ref (a 24), .ref (a 25), .int (S 20 6), .int (S 20 7), .int (S 20 8), .int (S 20 9), .ref (a 26), .int (S 20 11), .ref (a 27), .int (S 20 13), .ref (a 28), .ref (a 29)] 8 (.int v))) = cC t a (us S 20 8 v) := rfl
theorem cC_set_20_9 (t : Nat → ClassId) (a : Nat → Nat) (S : ST) (v : Int32) : (cC t a S).set 20 (a 20, .inr (2, List.set [.int (S 20 0), .ref (a 21), .ref (a 22), .ref (a 23), .ref (a 24), .ref (a 25), .int (S 20 6), .int (S 20 7), .int (S 20 8), .int (S 20 9), .ref (a 26), .int (S 20 11), .ref (a 27), .int (S 20 13), .ref (a 28), .ref (a 29)] 9 (.int v))) = cC t a (us S 20 9 v) := rfl
theorem cC_set_20_11 (t : Nat → ClassId) (a : Nat → Nat) (S : ST) (v : Int32) : (cC t a S).set 20 (a 20, .inr (2, List.set [.int (S 20 0), .ref (a 21), .ref (a 22), .ref (a 23), .ref (a 24), .ref (a 25), .int (S 20 6), .int (S 20 7), .int (S 20 8), .int (S 20 9), .ref (a 26), .int (S 20 11), .ref (a 27), .int (S 20 13), .ref (a 28), .ref (a 29)] 11 (.int v))) = cC t a (us S 20 11 v) := rfl
theorem cC_set_20_13 (t : Nat → ClassId) (a : Nat → Nat) (S : ST) (v : Int32) : (cC t a S).set 20 (a 20, .inr (2, List.set [.int (S 20 0), .ref (a 21), .ref (a 22), .ref (a 23), .ref (a 24), .ref (a 25), .int (S 20 6), .int (S 20 7), .int (S 20 8), .int (S 20 9), .ref (a 26), .int (S 20 11), .ref (a 27), .int (S 20 13), .ref (a 28), .ref (a 29)] 13 (.int v))) = cC t a (us S 20 13 v) := rfl
theorem cC_st_21 (t : Nat → ClassId) (a : Nat → Nat) (S : ST) (j : Nat) (v : Int32) : (cC t a S).set 21 (a 21, .inl (t 0, 6, .inl (upd (S 21) j v))) = cC t a (us S 21 j v) := rfl
theorem cC_st_22 (t : Nat → ClassId) (a : Nat → Nat) (S : ST) (j : Nat) (v : Int32) : (cC t a S).set 22 (a 22, .inl (t 0, 6, .inl (upd (S 22) j v))) = cC t a (us S 22 j v) := rfl
theorem cC_st_23 (t : Nat → ClassId) (a : Nat → Nat) (S : ST) (j : Nat) (v : Int32) : (cC t a S).set 23 (a 23, .inl (t 0, 6, .inl (upd (S 23) j v))) = cC t a (us S 23 j v) := rfl
theorem cC_st_24 (t : Nat → ClassId) (a : Nat → Nat) (S : ST) (j : Nat) (v : Int32) : (cC t a S).set 24 (a 24, .inl (t 0, 6, .inl (upd (S 24) j v))) = cC t a (us S 24 j v) := rfl
theorem cC_st_25 (t : Nat → ClassId) (a : Nat → Nat) (S : ST) (j : Nat) (v : Int32) : (cC t a S).set 25 (a 25, .inl (t 0, 6, .inl (upd (S 25) j v))) = cC t a (us S 25 j v) := rfl
theorem cC_st_26 (t : Nat → ClassId) (a : Nat → Nat) (S : ST) (j : Nat) (v : Int32) : (cC t a S).set 26 (a 26, .inl (t 0, 12, .inl (upd (S 26) j v))) = cC t a (us S 26 j v) := rfl
theorem cC_st_27 (t : Nat → ClassId) (a : Nat → Nat) (S : ST) (j : Nat) (v : Int32) : (cC t a S).set 27 (a 27, .inl (t 0, 200, .inl (upd (S 27) j v))) = cC t a (us S 27 j v) := rfl
theorem cC_st_28 (t : Nat → ClassId) (a : Nat → Nat) (S : ST) (j : Nat) (v : Int32) : (cC t a S).set 28 (a 28, .inl (t 0, 6, .inl (upd (S 28) j v))) = cC t a (us S 28 j v) := rfl
theorem cC_st_29 (t : Nat → ClassId) (a : Nat → Nat) (S : ST) (j : Nat) (v : Int32) : (cC t a S).set 29 (a 29, .inl (t 0, 6, .inl (upd (S 29) j v))) = cC t a (us S 29 j v) := rfl
theorem cC_set_30_0 (t : Nat → ClassId) (a : Nat → Nat) (S : ST) (v : Int32) : (cC t a S).set 30 (a 30, .inr (2, List.set [.int (S 30 0), .ref (a 31), .ref (a 32), .ref (a 33), .ref (a 34), .ref (a 35), .int (S 30 6), .int (S 30 7), .int (S 30 8), .int (S 30 9), .ref (a 36), .int (S 30 11), .ref (a 37), .int (S 30 13), .ref (a 38), .ref (a 39)] 0 (.int v))) = cC t a (us S 30 0 v) := rfl
theorem cC_set_30_6 (t : Nat → ClassId) (a : Nat → Nat) (S : ST) (v : Int32) : (cC t a S).set 30 (a 30, .inr (2, List.set [.int (S 30 0), .ref (a 31), .ref (a 32), .ref (a 33), .ref (a 34), .ref (a 35), .int (S 30 6), .int (S 30 7), .int (S 30 8), .int (S 30 9), .ref (a 36), .int (S 30 11), .ref (a 37), .int (S 30 13), .ref (a 38), .ref (a 39)] 6 (.int v))) = cC t a (us S 30 6 v) := rfl
theorem cC_set_30_7 (t : Nat → ClassId) (a : Nat → Nat) (S : ST) (v : Int32) : (cC t a S).set 30 (a 30, .inr (2, List.set [.int (S 30 0), .ref (a 31), .ref (a 32), .ref (a 33), .ref (a 34), .ref (a 35), .int (S 30 6), .int (S 30 7), .int (S 30 8), .int (S 30 9), .ref (a 36), .int (S 30 11), .ref (a 37), .int (S 30 13), .ref (a 38), .ref (a 39)] 7 (.int v))) = cC t a (us S 30 7 v) := rfl
theorem cC_set_30_8 (t : Nat → ClassId) (a : Nat → Nat) (S : ST) (v : Int32) : (cC t a S).set 30 (a 30, .inr (2, List.set [.int (S 30 0), .ref (a 31), .ref (a 32), .ref (a 33), .ref (a 34), .ref (a 35), .int (S 30 6), .int (S 30 7), .int (S 30 8), .int (S 30 9), .ref (a 36), .int (S 30 11), .ref (a 37), .int (S 30 13), .ref (a 38), .ref (a 39)] 8 (.int v))) = cC t a (us S 30 8 v) := rfl
theorem cC_set_30_9 (t : Nat → ClassId) (a : Nat → Nat) (S : ST) (v : Int32) : (cC t a S).set 30 (a 30, .inr (2, List.set [.int (S 30 0), .ref (a 31), .ref (a 32), .ref (a 33), .ref (a 34), .ref (a 35), .int (S 30 6), .int (S 30 7), .int (S 30 8), .int (S 30 9), .ref (a 36), .int (S 30 11), .ref (a 37), .int (S 30 13), .ref (a 38), .ref (a 39)] 9 (.int v))) = cC t a (us S 30 9 v) := rfl
theorem cC_set_30_11 (t : Nat → ClassId) (a : Nat → Nat) (S : ST) (v : Int32) : (cC t a S).set 30 (a 30, .inr (2, List.set [.int (S 30 0), .ref (a 31), .ref (a 32), .ref (a 33), .ref (a 34), .ref (a 35), .int (S 30 6), .int (S 30 7), .int (S 30 8), .int (S 30 9), .ref (a 36), .int (S 30 11), .ref (a 37), .int (S 30 13), .ref (a 38), .ref (a 39)] 11 (.int v))) = cC t a (us S 30 11 v) := rfl
theorem cC_set_30_13 (t : Nat → ClassId) (a : Nat → Nat) (S : ST) (v : Int32) : (cC t a S).set 30 (a 30, .inr (2, List.set [.int (S 30 0), .ref (a 31), .ref (a 32), .ref (a 33), .ref (a 34), .ref (a 35), .int (S 30 6), .int (S 30 7), .int (S 30 8), .int (S 30 9), .ref (a 36), .int (S 30 11), .ref (a 37), .int (S 30 13), .ref (a 38), .ref (a 39)] 13 (.int v))) = cC t a (us S 30 13 v) := rfl
theorem cC_st_31 (t : Nat → ClassId) (a : Nat → Nat) (S : ST) (j : Nat) (v : Int32) : (cC t a S).set 31 (a 31, .inl (t 0, 6, .inl (upd (S 31) j v))) = cC t a (us S 31 j v) := rfl
theorem cC_st_32 (t : Nat → ClassId) (a : Nat → Nat) (S : ST) (j : Nat) (v : Int32) : (cC t a S).set 32 (a 32, .inl (t 0, 6, .inl (upd (S 32) j v))) = cC t a (us S 32 j v) := rfl
theorem cC_st_33 (t : Nat → ClassId) (a : Nat → Nat) (S : ST) (j : Nat) (v : Int32) : (cC t a S).set 33 (a 33, .inl (t 0, 6, .inl (upd (S 33) j v))) = cC t a (us S 33 j v) := rfl
theorem cC_st_34 (t : Nat → ClassId) (a : Nat → Nat) (S : ST) (j : Nat) (v : Int32) : (cC t a S).set 34 (a 34, .inl (t 0, 6, .inl (upd (S 34) j v))) = cC t a (us S 34 j v) := rfl
theorem cC_st_35 (t : Nat → ClassId) (a : Nat → Nat) (S : ST) (j : Nat) (v : Int32) : (cC t a S).set 35 (a 35, .inl (t 0, 6, .inl (upd (S 35) j v))) = cC t a (us S 35 j v) := rfl
theorem cC_st_36 (t : Nat → ClassId) (a : Nat → Nat) (S : ST) (j : Nat) (v : Int32) : (cC t a S).set 36 (a 36, .inl (t 0, 12, .inl (upd (S 36) j v))) = cC t a (us S 36 j v) := rfl
theorem cC_st_37 (t : Nat → ClassId) (a : Nat → Nat) (S : ST) (j : Nat) (v : Int32) : (cC t a S).set 37 (a 37, .inl (t 0, 200, .inl (upd (S 37) j v))) = cC t a (us S 37 j v) := rfl
theorem cC_st_38 (t : Nat → ClassId) (a : Nat → Nat) (S : ST) (j : Nat) (v : Int32) : (cC t a S).set 38 (a 38, .inl (t 0, 6, .inl (upd (S 38) j v))) = cC t a (us S 38 j v) := rfl
theorem cC_st_39 (t : Nat → ClassId) (a : Nat → Nat) (S : ST) (j : Nat) (v : Int32) : (cC t a S).set 39 (a 39, .inl (t 0, 6, .inl (upd (S 39) j v))) = cC t a (us S 39 j v) := rfl
theorem cC_set_40_6 (t : Nat → ClassId) (a : Nat → Nat) (S : ST) (v : Int32) : (cC t a S).set 40 (a 40, .inr (3, List.set [.ref (a 0), .ref (a 41), .ref (a 42), .ref (a 43), .ref (a 44), .ref (a 45), .int (S 40 6)] 6 (.int v))) = cC t a (us S 40 6 v) := rfl
theorem cC_st_41 (t : Nat → ClassId) (a : Nat → Nat) (S : ST) (j : Nat) (v : Int32) : (cC t a S).set 41 (a 41, .inl (t 0, 6, .inl (upd (S 41) j v))) = cC t a (us S 41 j v) := rfl
theorem cC_st_42 (t : Nat → ClassId) (a : Nat → Nat) (S : ST) (j : Nat) (v : Int32) : (cC t a S).set 42 (a 42, .inl (t 0, 7, .inl (upd (S 42) j v))) = cC t a (us S 42 j v) := rfl
theorem cC_st_43 (t : Nat → ClassId) (a : Nat → Nat) (S : ST) (j : Nat) (v : Int32) : (cC t a S).set 43 (a 43, .inl (t 0, 7, .inl (upd (S 43) j v))) = cC t a (us S 43 j v) := rfl
theorem cC_st_44 (t : Nat → ClassId) (a : Nat → Nat) (S : ST) (j : Nat) (v : Int32) : (cC t a S).set 44 (a 44, .inl (t 0, 7, .inl (upd (S 44) j v))) = cC t a (us S 44 j v) := rfl
theorem cC_st_45 (t : Nat → ClassId) (a : Nat → Nat) (S : ST) (j : Nat) (v : Int32) : (cC t a S).set 45 (a 45, .inl (t 0, 7, .inl (upd (S 45) j v))) = cC t a (us S 45 j v) := rfl
theorem cC_set_46_2 (t : Nat → ClassId) (a : Nat → Nat) (S : ST) (v : Int32) : (cC t a S).set 46 (a 46, .inr (1, List.set [.ref (a 0), .ref (a 40), .int (S 46 2), .int (S 46 3), .int (S 46 4), .int (S 46 5), .int (S 46 6), .int (S 46 7), .int (S 46 8), .int (S 46 9), .ref (a 47), .ref (a 48)] 2 (.int v))) = cC t a (us S 46 2 v) := rfl
theorem cC_set_46_3 (t : Nat → ClassId) (a : Nat → Nat) (S : ST) (v : Int32) : (cC t a S).set 46 (a 46, .inr (1, List.set [.ref (a 0), .ref (a 40), .int (S 46 2), .int (S 46 3), .int (S 46 4), .int (S 46 5), .int (S 46 6), .int (S 46 7), .int (S 46 8), .int (S 46 9), .ref (a 47), .ref (a 48)] 3 (.int v))) = cC t a (us S 46 3 v) := rfl
theorem cC_set_46_4 (t : Nat → ClassId) (a : Nat → Nat) (S : ST) (v : Int32) : (cC t a S).set 46 (a 46, .inr (1, List.set [.ref (a 0), .ref (a 40), .int (S 46 2), .int (S 46 3), .int (S 46 4), .int (S 46 5), .int (S 46 6), .int (S 46 7), .int (S 46 8), .int (S 46 9), .ref (a 47), .ref (a 48)] 4 (.int v))) = cC t a (us S 46 4 v) := rfl
theorem cC_set_46_5 (t : Nat → ClassId) (a : Nat → Nat) (S : ST) (v : Int32) : (cC t a S).set 46 (a 46, .inr (1, List.set [.ref (a 0), .ref (a 40), .int (S 46 2), .int (S 46 3), .int (S 46 4), .int (S 46 5), .int (S 46 6), .int (S 46 7), .int (S 46 8), .int (S 46 9), .ref (a 47), .ref (a 48)] 5 (.int v))) = cC t a (us S 46 5 v) := rfl
theorem cC_set_46_6 (t : Nat → ClassId) (a : Nat → Nat) (S : ST) (v : Int32) : (cC t a S).set 46 (a 46, .inr (1, List.set [.ref (a 0), .ref (a 40), .int (S 46 2), .int (S 46 3), .int (S 46 4), .int (S 46 5), .int (S 46 6), .int (S 46 7), .int (S 46 8), .int (S 46 9), .ref (a 47), .ref (a 48)] 6 (.int v))) = cC t a (us S 46 6 v) := rfl
theorem cC_set_46_7 (t : Nat → ClassId) (a : Nat → Nat) (S : ST) (v : Int32) : (cC t a S).set 46 (a 46, .inr (1, List.set [.ref (a 0), .ref (a 40), .int (S 46 2), .int (S 46 3), .int (S 46 4), .int (S 46 5), .int (S 46 6), .int (S 46 7), .int (S 46 8), .int (S 46 9), .ref (a 47), .ref (a 48)] 7 (.int v))) = cC t a (us S 46 7 v) := rfl
theorem cC_set_46_8 (t : Nat → ClassId) (a : Nat → Nat) (S : ST) (v : Int32) : (cC t a S).set 46 (a 46, .inr (1, List.set [.ref (a 0), .ref (a 40), .int (S 46 2), .int (S 46 3), .int (S 46 4), .int (S 46 5), .int (S 46 6), .int (S 46 7), .int (S 46 8), .int (S 46 9), .ref (a 47), .ref (a 48)] 8 (.int v))) = cC t a (us S 46 8 v) := rfl
theorem cC_set_46_9 (t : Nat → ClassId) (a : Nat → Nat) (S : ST) (v : Int32) : (cC t a S).set 46 (a 46, .inr (1, List.set [.ref (a 0), .ref (a 40), .int (S 46 2), .int (S 46 3), .int (S 46 4), .int (S 46 5), .int (S 46 6), .int (S 46 7), .int (S 46 8), .int (S 46 9), .ref (a 47), .ref (a 48)] 9 (.int v))) = cC t a (us S 46 9 v) := rfl
theorem cC_st_47 (t : Nat → ClassId) (a : Nat → Nat) (S : ST) (j : Nat) (v : Int32) : (cC t a S).set 47 (a 47, .inl (t 0, 6, .inl (upd (S 47) j v))) = cC t a (us S 47 j v) := rfl
theorem cC_st_48 (t : Nat → ClassId) (a : Nat → Nat) (S : ST) (j : Nat) (v : Int32) : (cC t a S).set 48 (a 48, .inl (t 0, 6, .inl (upd (S 48) j v))) = cC t a (us S 48 j v) := rfl
theorem cC_set_49_1 (t : Nat → ClassId) (a : Nat → Nat) (S : ST) (v : Int32) : (cC t a S).set 49 (a 49, .inr (0, List.set [.ref (a 10), .int (S 49 1), .ref (a 0), .ref (a 7), .int (S 49 4), .int (S 49 5), .int (S 49 6), .int (S 49 7), .int (S 49 8)] 1 (.int v))) = cC t a (us S 49 1 v) := rfl
theorem cC_set_49_4 (t : Nat → ClassId) (a : Nat → Nat) (S : ST) (v : Int32) : (cC t a S).set 49 (a 49, .inr (0, List.set [.ref (a 10), .int (S 49 1), .ref (a 0), .ref (a 7), .int (S 49 4), .int (S 49 5), .int (S 49 6), .int (S 49 7), .int (S 49 8)] 4 (.int v))) = cC t a (us S 49 4 v) := rfl
theorem cC_set_49_5 (t : Nat → ClassId) (a : Nat → Nat) (S : ST) (v : Int32) : (cC t a S).set 49 (a 49, .inr (0, List.set [.ref (a 10), .int (S 49 1), .ref (a 0), .ref (a 7), .int (S 49 4), .int (S 49 5), .int (S 49 6), .int (S 49 7), .int (S 49 8)] 5 (.int v))) = cC t a (us S 49 5 v) := rfl
theorem cC_set_49_6 (t : Nat → ClassId) (a : Nat → Nat) (S : ST) (v : Int32) : (cC t a S).set 49 (a 49, .inr (0, List.set [.ref (a 10), .int (S 49 1), .ref (a 0), .ref (a 7), .int (S 49 4), .int (S 49 5), .int (S 49 6), .int (S 49 7), .int (S 49 8)] 6 (.int v))) = cC t a (us S 49 6 v) := rfl
theorem cC_set_49_7 (t : Nat → ClassId) (a : Nat → Nat) (S : ST) (v : Int32) : (cC t a S).set 49 (a 49, .inr (0, List.set [.ref (a 10), .int (S 49 1), .ref (a 0), .ref (a 7), .int (S 49 4), .int (S 49 5), .int (S 49 6), .int (S 49 7), .int (S 49 8)] 7 (.int v))) = cC t a (us S 49 7 v) := rfl
theorem cC_set_49_8 (t : Nat → ClassId) (a : Nat → Nat) (S : ST) (v : Int32) : (cC t a S).set 49 (a 49, .inr (0, List.set [.ref (a 10), .int (S 49 1), .ref (a 0), .ref (a 7), .int (S 49 4), .int (S 49 5), .int (S 49 6), .int (S 49 7), .int (S 49 8)] 8 (.int v))) = cC t a (us S 49 8 v) := rfl
theorem cC_st_52 (t : Nat → ClassId) (a : Nat → Nat) (S : ST) (j : Nat) (v : Int32) : (cC t a S).set 52 (a 52, .inl (t 1, 2, .inl (upd (S 52) j v))) = cC t a (us S 52 j v) := rfl
theorem cC_st_53 (t : Nat → ClassId) (a : Nat → Nat) (S : ST) (j : Nat) (v : Int32) : (cC t a S).set 53 (a 53, .inl (t 0, 3, .inl (upd (S 53) j v))) = cC t a (us S 53 j v) := rfl
theorem cC_st_54 (t : Nat → ClassId) (a : Nat → Nat) (S : ST) (j : Nat) (v : Int32) : (cC t a S).set 54 (a 54, .inl (t 0, 21, .inl (upd (S 54) j v))) = cC t a (us S 54 j v) := rfl
theorem cC_st_55 (t : Nat → ClassId) (a : Nat → Nat) (S : ST) (j : Nat) (v : Int32) : (cC t a S).set 55 (a 55, .inl (t 0, 6, .inl (upd (S 55) j v))) = cC t a (us S 55 j v) := rfl
