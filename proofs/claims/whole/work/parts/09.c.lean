/-! THE CLAIM OUT OF ONE WALK OF THE LAW'S BODY. Your part is whole_start (and what it stands on); all else here is the same for every law, but numbers. -/
def R_law : String := "NextDoorLaw"
def lw_P (b : Addr) (xs : List Int32) (args : Array Value) (s : State) : Prop := args = #[.ref b] ∧ s.IntsAt b xs ∧ xs.length ≤ 2560 ∧ (Jvm.Cond.and given_1 narrow_1).before args s = true
def lw_Q (_ : Array Value) (s : State) (o : Outcome) (t : State) : Prop := o = .returned (some (.int 1)) ∧ Framed s o t [] 600000 7302249
def lw_Z (below : List Frame) (a : Array Value) (s : State) : State → Prop := fun t => ∃ o, t.status = .running ∧ Ended t below o ∧ lw_Q a s o t
/-- the law's own end, with 1 on the stack, nothing written that was there before, its room as the claim has it -/
theorem lw_ret {p : Program} {l : Launch} {e : Env} {s : State} {m : MethodId} {below : List Frame} {meth : Method} {c : Code} {b : Nat} (hx : p.tables.exec = Jvm.exec) (hb : c.code = code) (hr : meth.sig.returnType = ret) (hlocks : meth.locks = false) {pc : Nat} {H : Heap} {ls : Array Slot} (hdg : decode code pc = .ok (.ireturn, 1)) : W p l e room_1 s m #[Value.ref b] below meth c H [] 600000 7302249 (lw_Z below #[Value.ref b] s) (F0 m pc ls [.int 1]) := by
  intro T hT X
  obtain ⟨fs, hret, hrun, hended, hW, hframe⟩ := X.leave (v := some (.int 1)) (hlocks := hlocks) (fun h => by rw [hr] at h; cases h)
  have hmeth' : T.vm.method? m = some meth := X.method'
  refine ⟨T.setFrames fs, ?_, .returned (some (.int 1)), hrun, hended, rfl, ⟨_, rfl⟩, hW, hframe⟩
  jvm_step X.here [X.here.top, hx, hb, hdg, hmeth', hr, ret, narrow_b1]
  (try refine ⟨rfl, ?_⟩); (try refine ⟨rfl, ?_⟩)
  first | (intro acts; rw [hret _ acts rfl rfl rfl]) | rw [hret _ _ rfl rfl rfl]
  exact Steps.refl _
/-- what holds at the law's entry: the machine, the code, the tables' words (any of lw_tbl by 'hts w (by decide +kernel)'), the script of L ints xs at the cell b, what the Statement gives of the start (any of its parts by flat_of_before) -/
def lw_At (p : Program) (s : State) (m : MethodId) (meth : Method) (c : Code) (b L : Nat) (xs : Nat → Int32) : Prop :=
  p.tables.exec = Jvm.exec ∧ c.code = code ∧ meth.sig.returnType = ret ∧ c.maxLocals = 4 ∧ s.vm.findClass R_law = some m.cls ∧ (∀ w ∈ lw_tbl, w.before #[Value.ref b] s = true) ∧ va_X b L xs s s.heap ∧ b < s.heap.size ∧ meth.locks = false ∧ (Jvm.Cond.and given_1 narrow_1).before #[Value.ref b] s = true
-- the law: both worlds side by side
theorem va_D_fst {A : Nat → Prop} {ws ws' : va_W} (h : ws.map Prod.fst = ws'.map Prod.fst) (hD : va_D A ws) : va_D A ws' := by
  have key : ∀ (k : Nat) (q : Nat × va_E), ws'[k]? = some q → ∃ p : Nat × va_E, ws[k]? = some p ∧ p.1 = q.1 := by
    intro k q hq
    have h1 : (ws.map Prod.fst)[k]? = some q.1 := by rw [h, List.getElem?_map, hq]; rfl
    rw [List.getElem?_map] at h1
    cases hp : ws[k]? with
    | none => rw [hp] at h1; cases h1
    | some p => rw [hp] at h1; exact ⟨p, rfl, Option.some.inj h1⟩
  refine ⟨fun i j p q hi hj e => ?_, fun k q hk => ?_⟩
  · obtain ⟨p', h1, h2⟩ := key i p hi
    obtain ⟨q', h3, h4⟩ := key j q hj
    exact hD.1 i j p' q' h1 h3 (by rw [h2, h4, e])
  · obtain ⟨q', h3, h4⟩ := key k q hk
    rw [← h4]
    exact hD.2 k q' h3
theorem va_D_swap {A : Nat → Prop} {w1 w2 : va_W} (h : va_D A (w1 ++ w2)) : va_D A (w2 ++ w1) := by
  have l1 : ∀ (k : Nat) (q : Nat × va_E), w1[k]? = some q → (w1 ++ w2)[k]? = some q := fun k q hk => by rw [List.getElem?_append_left (List.getElem?_eq_some_iff.mp hk).1]; exact hk
  have l2 : ∀ (k : Nat) (q : Nat × va_E), w2[k]? = some q → (w1 ++ w2)[w1.length + k]? = some q := fun k q hk => by rw [List.getElem?_append_right (by omega), Nat.add_sub_cancel_left]; exact hk
  refine va_D.app ⟨fun i j p q hi hj e => ?_, fun k q hk => h.2 _ q (l2 k q hk)⟩ ⟨fun i j p q hi hj e => h.1 i j p q (l1 i p hi) (l1 j q hj) e, fun k q hk => h.2 _ q (l1 k q hk)⟩ (fun i j p q hi hj e => ?_)
  · have := h.1 _ _ p q (l2 i p hi) (l2 j q hj) e
    omega
  · have h1 := h.1 _ _ p q (l2 i p hi) (l1 j q hj) e
    have h2 := (List.getElem?_eq_some_iff.mp hj).1
    omega
theorem cC_fst (t : Nat → ClassId) (a : Nat → Nat) (S : ST) : (cC t a S).map Prod.fst = (List.range 56).map a := rfl
theorem cM_fst (t : Nat → ClassId) (a : Nat → Nat) (S : ST) : (cM t a S).map Prod.fst = (List.range 17).map a := rfl
theorem fst_at {ws : va_W} {n : Nat} {a : Nat → Nat} (h : ws.map Prod.fst = (List.range n).map a) {k : Nat} {q : Nat × va_E} (hk : ws[k]? = some q) : k < n ∧ q.1 = a k := by
  have h1 : (ws.map Prod.fst)[k]? = some q.1 := by rw [List.getElem?_map, hk]; rfl
  rw [h, List.getElem?_map] at h1
  by_cases hn : k < n
  · rw [List.getElem?_range hn] at h1
    exact ⟨hn, (Option.some.inj h1).symm⟩
  · rw [List.getElem?_eq_none (by rw [List.length_range]; omega)] at h1
    cases h1
theorem at_fst {ws : va_W} {n : Nat} {a : Nat → Nat} (h : ws.map Prod.fst = (List.range n).map a) {k : Nat} (hk : k < n) : ∃ q : Nat × va_E, ws[k]? = some q ∧ q.1 = a k := by
  have h1 : (ws.map Prod.fst)[k]? = some (a k) := by rw [h, List.getElem?_map, List.getElem?_range hk]; rfl
  rw [List.getElem?_map] at h1
  cases hp : ws[k]? with
  | none => rw [hp] at h1; cases h1
  | some q => rw [hp] at h1; exact ⟨q, rfl, Option.some.inj h1⟩
def LW2 (D : va_G) (cs : ST → va_W) (tys : List (ClassId × FieldType)) (wo : va_W) (X : State → Prop) (S : ST) (s : State) (H : Heap) (locs : List Loc) : Prop := va_P D vwCl (cs S) H ∧ va_P D vwCl wo H ∧ va_D (fun q : Nat => s.heap.size ≤ q) (cs S ++ wo) ∧ va_K D vwCl tys s ∧ va_S (fun q : Nat => s.heap.size ≤ q) s.heap H locs ∧ X s
section LC
variable {p : Program} {l : Launch} {e : Env} {R : Room} {s : State} {m : MethodId} {args : Array Value} {below : List Frame} {meth : Method} {c : Code} {H : Heap} {locs : List Loc} {cells slots : Nat} {Q : State → Prop} {cc : ByteArray} {own : String} {Ts : List Cond} {ret : Option FieldType} {nL : Nat}
variable {pc : Nat} {ls : Array Slot} {rest : List Value} {D : va_G} {cs : ST → va_W} {tys : List (ClassId × FieldType)} {X : State → Prop} {S S1 : ST} {b : Nat} {wo : va_W} {n0 : Nat} {aa : Nat → Nat}
variable {y : MethodName} {bytes : ByteArray} {maxL n index ci q0 : Nat} {ret' : Option FieldType} {ws : List Cond} {rm : Room} {q : vw_C} {fs : List Value} {As : List Value}
theorem lw_D1 (hfst : ∀ S, (cs S).map Prod.fst = (List.range n0).map aa) (hD : va_D (fun q : Nat => s.heap.size ≤ q) (cs S ++ wo)) : va_D (aW n0 aa) (cs S) := by
  have l1 : ∀ (k : Nat) (q : Nat × va_E), (cs S)[k]? = some q → (cs S ++ wo)[k]? = some q := fun k q hk => by rw [List.getElem?_append_left (List.getElem?_eq_some_iff.mp hk).1]; exact hk
  exact ⟨fun i j p q hi hj e => hD.1 i j p q (l1 i p hi) (l1 j q hj) e, fun k q hk => ⟨k, fst_at (hfst S) hk⟩⟩
theorem lw_A1 (hfst : ∀ S, (cs S).map Prod.fst = (List.range n0).map aa) (hD : va_D (fun q : Nat => s.heap.size ≤ q) (cs S ++ wo)) : ∀ q, aW n0 aa q → s.heap.size ≤ q := by
  rintro q ⟨k, hk, rfl⟩
  obtain ⟨x, h1, h2⟩ := at_fst (hfst S) hk
  rw [← h2]
  exact hD.2 k x (by rw [List.getElem?_append_left (List.getElem?_eq_some_iff.mp h1).1]; exact h1)
theorem lw_pre (hfst : ∀ S, (cs S).map Prod.fst = (List.range n0).map aa) (hXok : XOk (aW n0 aa) X) (w : LW2 D cs tys wo X S s H locs) {av : List Value} : ∀ U : State, U.heap = H → s.WarmedH U.vm → va_Pc av (fun U => PW D cs (aW n0 aa) tys S U ∧ X U) av.toArray U := by
  intro U hU hW
  obtain ⟨hP, hO, hD, hK, hS, hX⟩ := w
  exact ⟨rfl, ⟨by rw [hU]; exact hP, lw_D1 hfst hD, va_K.moved hW.alike hK⟩, hXok.2 s U hW (by rw [hU]; exact hS.1) (fun q h1 h2 => by rw [hU]; exact hS.2.1 q h1 (Nat.not_le.mpr h1)) hX⟩
theorem lw_back (hfst : ∀ S, (cs S).map Prod.fst = (List.range n0).map aa) (w : LW2 D cs tys wo X S s H locs) {H1 : Heap} {locs1 : List Loc} {t : State} (ht : t.heap = H1) (hB : PW D cs (aW n0 aa) tys S1 t) (hk1 : ∀ q : Nat, q < H.size → ¬ aW n0 aa q → H1[q]? = H[q]?) (hS1 : va_S (fun q : Nat => s.heap.size ≤ q) s.heap H1 locs1) : LW2 D cs tys wo X S1 s H1 locs1 := by
  obtain ⟨hP, hO, hD, hK, hS, hX⟩ := w
  refine ⟨by rw [← ht]; exact hB.1, fun k x hx => (hO k x hx).kept (hk1 x.1 (hO k x hx).lt ?_), va_D_fst ?_ hD, hK, hS1, hX⟩
  · rintro ⟨j, hj, e⟩
    obtain ⟨z, h1, h2⟩ := at_fst (hfst S) hj
    have hl := (List.getElem?_eq_some_iff.mp h1).1
    have := hD.1 j ((cs S).length + k) z x (by rw [List.getElem?_append_left hl]; exact h1) (by rw [List.getElem?_append_right (by omega), Nat.add_sub_cancel_left]; exact hx) (by rw [h2, e])
    omega
  · rw [List.map_append, List.map_append, hfst, hfst]
theorem l_calli {r : Int32} (hfst : ∀ S, (cs S).map Prod.fst = (List.range n0).map aa) (hXok : XOk (aW n0 aa) X) (E : EN p s m args meth c cc own Ts ret nL) (w : LW2 D cs tys wo X S s H locs) (hM : Co l y ws rm D cs (aW n0 aa) tys X (.ref b :: As) S (Qi D cs (aW n0 aa) tys r S1)) (cw : CallW R s args own q.1 index y bytes maxL ret' ws rm 0 0 n) (hc : vwCl[ci]? = some q) (he : (cs S)[q0]? = some (b, .inr (ci, fs))) (hn : As.length = n) (hsize : ls.size = nL) {st0 : List Value} (hst : st0 = As.reverse ++ .ref b :: rest) (hW : (rest.map fun v => v.category).sum ≤ 8) (hdg : decode cc pc = .ok (.invokevirtual index, 3)) (hR : cells + 0 ≤ R.cells ∧ slots + 0 ≤ R.slots)
    (kk : ∀ (H1 : Heap) (locs1 : List Loc), LW2 D cs tys wo X S1 s H1 locs1 → W p l e R s m args below meth c H1 locs1 cells slots Q (F0 m (pc + 3) ls (.int r :: rest))) : W p l e R s m args below meth c H locs cells slots Q (F0 m pc ls st0) := by
  have hA1 := lw_A1 hfst w.2.2.1
  refine va_calli (va_runV (As := As) (rest := rest) E.1 hM cw ⟨pw_blind hXok, va_recv w.2.2.2.1 w.1 hc he, lw_pre hfst hXok w⟩ rfl hn hsize hst (lv_room hW) hdg hR) w.2.2.2.2.1 (fun q _ h => hA1 q h) hA1 (fun r' u t H1 locs1 ht hvm hw hB hz1 hk1 hS => ?_)
  obtain ⟨rfl, rfl⟩ := hw
  exact kk H1 locs1 (lw_back hfst w ht hB hk1 hS)
theorem l_calll {r : Int64} (hfst : ∀ S, (cs S).map Prod.fst = (List.range n0).map aa) (hXok : XOk (aW n0 aa) X) (E : EN p s m args meth c cc own Ts ret nL) (w : LW2 D cs tys wo X S s H locs) (hM : Co l y ws rm D cs (aW n0 aa) tys X (.ref b :: As) S (Ql D cs (aW n0 aa) tys r S1)) (cw : CallW R s args own q.1 index y bytes maxL ret' ws rm 0 0 n) (hc : vwCl[ci]? = some q) (he : (cs S)[q0]? = some (b, .inr (ci, fs))) (hn : As.length = n) (hsize : ls.size = nL) {st0 : List Value} (hst : st0 = As.reverse ++ .ref b :: rest) (hW : (rest.map fun v => v.category).sum ≤ 8) (hdg : decode cc pc = .ok (.invokevirtual index, 3)) (hR : cells + 0 ≤ R.cells ∧ slots + 0 ≤ R.slots)
    (kk : ∀ (H1 : Heap) (locs1 : List Loc), LW2 D cs tys wo X S1 s H1 locs1 → W p l e R s m args below meth c H1 locs1 cells slots Q (F0 m (pc + 3) ls (.long r :: rest))) : W p l e R s m args below meth c H locs cells slots Q (F0 m pc ls st0) := by
  have hA1 := lw_A1 hfst w.2.2.1
  refine va_calll (va_runV (As := As) (rest := rest) E.1 hM cw ⟨pw_blind hXok, va_recv w.2.2.2.1 w.1 hc he, lw_pre hfst hXok w⟩ rfl hn hsize hst (lv_room hW) hdg hR) w.2.2.2.2.1 (fun q _ h => hA1 q h) hA1 (fun r' u t H1 locs1 ht hvm hw hB hz1 hk1 hS => ?_)
  obtain ⟨rfl, rfl⟩ := hw
  exact kk H1 locs1 (lw_back hfst w ht hB hk1 hS)
end LC
def LW (D : va_G) (tc tm : Nat → ClassId) (ac am : Nat → Nat) (X : State → Prop) (SC SM : ST) (s : State) (H : Heap) (locs : List Loc) : Prop := va_P D vwCl (cC tc ac SC) H ∧ va_P D vwCl (cM tm am SM) H ∧ va_D (fun q : Nat => s.heap.size ≤ q) (cC tc ac SC ++ cM tm am SM) ∧ va_K D vwCl (tyC tc) s ∧ va_K D vwCl (tyM tm) s ∧ va_S (fun q : Nat => s.heap.size ≤ q) s.heap H locs ∧ X s
theorem LW.c {D : va_G} {tc tm : Nat → ClassId} {ac am : Nat → Nat} {X : State → Prop} {SC SM : ST} {s : State} {H : Heap} {locs : List Loc} (w : LW D tc tm ac am X SC SM s H locs) : LW2 D (cC tc ac) (tyC tc) (cM tm am SM) X SC s H locs := ⟨w.1, w.2.1, w.2.2.1, w.2.2.2.1, w.2.2.2.2.2.1, w.2.2.2.2.2.2⟩
theorem LW.m {D : va_G} {tc tm : Nat → ClassId} {ac am : Nat → Nat} {X : State → Prop} {SC SM : ST} {s : State} {H : Heap} {locs : List Loc} (w : LW D tc tm ac am X SC SM s H locs) : LW2 D (cM tm am) (tyM tm) (cC tc ac SC) X SM s H locs := ⟨w.2.1, w.1, va_D_swap w.2.2.1, w.2.2.2.2.1, w.2.2.2.2.2.1, w.2.2.2.2.2.2⟩
theorem LW.ofc {D : va_G} {tc tm : Nat → ClassId} {ac am : Nat → Nat} {X : State → Prop} {SC SM : ST} {s : State} {H : Heap} {locs : List Loc} (hK : va_K D vwCl (tyM tm) s) (w : LW2 D (cC tc ac) (tyC tc) (cM tm am SM) X SC s H locs) : LW D tc tm ac am X SC SM s H locs := ⟨w.1, w.2.1, w.2.2.1, w.2.2.2.1, hK, w.2.2.2.2.1, w.2.2.2.2.2⟩
theorem LW.ofm {D : va_G} {tc tm : Nat → ClassId} {ac am : Nat → Nat} {X : State → Prop} {SC SM : ST} {s : State} {H : Heap} {locs : List Loc} (hK : va_K D vwCl (tyC tc) s) (w : LW2 D (cM tm am) (tyM tm) (cC tc ac SC) X SM s H locs) : LW D tc tm ac am X SC SM s H locs := ⟨w.2.1, w.1, va_D_swap w.2.2.1, hK, w.2.2.2.1, w.2.2.2.2.1, w.2.2.2.2.2⟩
theorem lw_cmp {L j : Nat} (hL : L ≤ 2560) (hj : 5 * j ≤ 2600) : (nI L - 5 < nI (5 * j)) ↔ L < 5 * j + 5 := by
  rw [Int32.lt_iff_toInt_lt, show (5 : Int32) = nI 5 from rfl, pk_sub_toInt (by omega) (by decide), nI_toInt (by omega)]
  omega
theorem lw_in {L j k : Nat} (hL : L ≤ 2560) (h : 5 * j + 5 ≤ L) (hk : k < 5) : vp_in (nI (5 * j) + nI k) L := by
  rw [nI_add]
  exact vp_in_nI (by omega) (by omega)
theorem lg_same (r : Int64) : lg_cmp r r = 0 := by
  unfold lg_cmp
  rw [if_neg (Int64.lt_irrefl), if_pos rfl]
-- what the law's start gives of the words of the road
def xL (kd vd : Nat → Nat) (A : Nat → Prop) (U : State) : Prop := va_Nw (.methodLinkNest RX0 121 yX4_isIn "NextDoor") U ∧ vk_S 4 lenW bytW kd vd A U U.heap ∧ va_Z "java/lang/String" "COMPACT_STRINGS" "Z" (.int 1) A U U.heap ∧ va_Zq "jdk/internal/util/Preconditions" "SIOOBE_FORMATTER" "Ljava/util/function/BiFunction;" A U U.heap ∧ vk_R RX0 55 "shop" (kd 0) U ∧ vk_R RX0 67 "next" (kd 1) U ∧ vk_R RX0 72 "free" (kd 2) U ∧ vk_R RX0 77 "buy" (kd 3) U
theorem xL_R {kd vd : Nat → Nat} {A : Nat → Prop} {a : Nat → Nat} (hA : ∀ q, aW 56 a q → A q) {U : State} (h : xL kd vd A U) : xR kd vd a U := ⟨h.1, h.2.1.narrow hA, h.2.2.1.narrow hA, h.2.2.2.1.narrow hA, h.2.2.2.2⟩
theorem xL_ok {kd vd : Nat → Nat} {A0 A : Nat → Prop} (hA : ∀ q, A q → A0 q) : XOk A (xL kd vd A0) := by
  refine ⟨fun U U' hv hh h => ?_, fun u U hW hz hk h => ?_⟩
  · have hal : U.vm.Alike U'.vm := by rw [hv]; exact Vm.Alike.refl _
    obtain ⟨h1, h2, h3, h4, h5, h6, h7, h8⟩ := h
    refine ⟨va_Nw.same rfl hv.symm h1, ?_, ?_, ?_, vk_R.same hv h5, vk_R.same hv h6, vk_R.same hv h7, vk_R.same hv h8⟩
    · rw [hh]; exact h2.moved hal
    · rw [hh]; exact h3.moved hal
    · rw [hh]; exact h4.moved hal
  · obtain ⟨h1, h2, h3, h4, h5, h6, h7, h8⟩ := h
    have hk2 : ∀ a : Nat, a < u.heap.size → ¬ A0 a → U.heap[a]? = u.heap[a]? := fun a l1 l2 => hk a l1 (fun z => l2 (hA a z))
    exact ⟨va_Nw.warmM hW h1, (h2.moved hW.alike).kept hk2, (h3.moved hW.alike).kept hk2, (h4.moved hW.alike).kept hk2, vk_R.warm hW h5, vk_R.warm hW h6, vk_R.warm hW h7, vk_R.warm hW h8⟩
-- what the constructors take of the tables
def xN (U : State) : Prop := va_Nw (.methodLinkNest RX0 11 yX2_init "NextDoor") U ∧ va_Nw (.methodLinkNest RX4 9 yX2_init "NextDoor") U ∧ va_AO "NextDoor$Street" U
theorem xN_up : XUp xN := by
  refine ⟨fun U U' hv h => ?_, fun u U hW h => ?_⟩
  · have hal : U.vm.Alike U'.vm := by rw [hv]; exact Vm.Alike.refl _
    exact ⟨va_Nw.same rfl hv.symm h.1, va_Nw.same rfl hv.symm h.2.1, h.2.2.moved hal⟩
  · exact ⟨va_Nw.warmM hW h.1, va_Nw.warmM hW h.2.1, h.2.2.moved hW.alike⟩
theorem arr_K {args : Array Value} {s : State} {D : va_G} (hC : ∀ (k : Nat) (q : vw_C), vwCl[k]? = some q → u_Kn s q.1 q.2.1 q.2.2 (D.1 k) (D.2 k)) (h1 : (Cond.arrayClass .int).before args s = true) (h2 : (Cond.arrayClass .boolean).before args s = true) : ∃ t : Nat → ClassId, va_K D vwCl [(t 0, .int), (t 1, .boolean)] s := by
  obtain ⟨cI, kI, pI, a1, a2, a3⟩ := Cond.arrayClass_spec h1
  obtain ⟨cZ, kZ, pZ, b1, b2, b3⟩ := Cond.arrayClass_spec h2
  refine ⟨fun k => if k = 0 then cI else cZ, hC, fun k q hq => ?_⟩
  match k, hq with
  | 0, hq => cases hq; exact ⟨fun n z => ⟨fun k h => (by cases h), kI, a2, pI, a3⟩, a1⟩
  | 1, hq => cases hq; exact ⟨fun n z => ⟨fun k h => (by cases h), kZ, b2, pZ, b3⟩, b1⟩
  | k + 2, hq => simp at hq
def tmW (i : Nat) : Term := .string "NextDoor$RoadReader" ([55, 67, 72, 77].getD i 0)
theorem fl4 {P : Nat → Prop} (h0 : P 0) (h1 : P 1) (h2 : P 2) (h3 : P 3) : ∀ i, i < 4 → P i := by
  intro i hi
  rcases (show i = 0 ∨ i = 1 ∨ i = 2 ∨ i = 3 by omega) with rfl | rfl | rfl | rfl <;> assumption
theorem fl16 {P : Nat → Nat → Prop} (h01 : P 0 1) (h02 : P 0 2) (h03 : P 0 3) (h12 : P 1 2) (h13 : P 1 3) (h23 : P 2 3) (hs : ∀ i j, P i j → P j i) : ∀ i j, i < 4 → j < 4 → i ≠ j → P i j := by
  intro i j hi hj hne
  rcases (show i = 0 ∨ i = 1 ∨ i = 2 ∨ i = 3 by omega) with rfl | rfl | rfl | rfl <;> rcases (show j = 0 ∨ j = 1 ∨ j = 2 ∨ j = 3 by omega) with rfl | rfl | rfl | rfl <;> first | exact absurd rfl hne | assumption | (apply hs; assumption)
set_option maxHeartbeats 4000000 in
set_option maxRecDepth 100000 in
theorem start_xL {s : State} {b : Nat} (hts0 : ∀ w ∈ lw_tbl, w.before #[Value.ref b] s = true) (hgv : (Jvm.Cond.and given_1 narrow_1).before #[Value.ref b] s = true) : ∃ kd vd : Nat → Nat, xL kd vd (fun q : Nat => s.heap.size ≤ q) s := by
  have hs := flat_of_before _ hgv
  have hA : ∀ a : Nat, a < s.heap.size → ¬ (fun q : Nat => s.heap.size ≤ q) a := fun a h => Nat.not_le.mpr h
  have hel : ∀ i : Nat, i < 4 → ∀ j : Nat, j < lenW.getD i 0 → (Cond.eq (.elem (.field (tmW i) "java/lang/String" "value" "[B") (.int (Int32.ofNat j))) (.int ((bytW.getD i []).getD j 0))).before #[Value.ref b] s = true := by
    refine fl4 ?_ ?_ ?_ ?_
    · exact fl4 (hs _ (by decide +kernel)) (hs _ (by decide +kernel)) (hs _ (by decide +kernel)) (hs _ (by decide +kernel))
    · exact fl4 (hs _ (by decide +kernel)) (hs _ (by decide +kernel)) (hs _ (by decide +kernel)) (hs _ (by decide +kernel))
    · exact fl4 (hs _ (by decide +kernel)) (hs _ (by decide +kernel)) (hs _ (by decide +kernel)) (hs _ (by decide +kernel))
    · intro j hj
      have hj3 : j < 3 := hj
      rcases (show j = 0 ∨ j = 1 ∨ j = 2 by omega) with rfl | rfl | rfl
      · exact hs _ (by decide +kernel)
      · exact hs _ (by decide +kernel)
      · exact hs _ (by decide +kernel)
  have hne : ∀ i j : Nat, i < 4 → j < 4 → i ≠ j → (Cond.not (Cond.eq (tmW i) (tmW j))).before #[Value.ref b] s = true ∨ (Cond.not (Cond.eq (tmW j) (tmW i))).before #[Value.ref b] s = true := by
    refine fl16 (P := fun i j => (Cond.not (Cond.eq (tmW i) (tmW j))).before #[Value.ref b] s = true ∨ (Cond.not (Cond.eq (tmW j) (tmW i))).before #[Value.ref b] s = true) ?_ ?_ ?_ ?_ ?_ ?_ (fun i j h => h.symm)
    all_goals first | exact Or.inl (hs _ (by decide +kernel)) | exact Or.inr (hs _ (by decide +kernel))
  obtain ⟨kd, vd, hS, hE⟩ := vk_Sof (N := 4) (tm := tmW) (len := lenW) (byt := bytW) (A := fun q : Nat => s.heap.size ≤ q) (args := #[Value.ref b]) (s := s) (by decide)
    (fl4 (hs _ (by decide +kernel)) (hs _ (by decide +kernel)) (hs _ (by decide +kernel)) (hs _ (by decide +kernel)))
    (fl4 (hs _ (by decide +kernel)) (hs _ (by decide +kernel)) (hs _ (by decide +kernel)) (hs _ (by decide +kernel)))
    (fl4 (hs _ (by decide +kernel)) (hs _ (by decide +kernel)) (hs _ (by decide +kernel)) (hs _ (by decide +kernel)))
    (fl4 (hs _ (by decide +kernel)) (hs _ (by decide +kernel)) (hs _ (by decide +kernel)) (hs _ (by decide +kernel))) hel hne hA
  refine ⟨kd, vd, va_Nw.of rfl (hts0 _ (by decide +kernel)), hS, va_Zof (hts0 (.laysStatic "java/lang/String" "COMPACT_STRINGS" "Z") (by decide +kernel)) (hts0 (.initialized "java/lang/String") (by decide +kernel)) (va_eqt (hs _ (by decide +kernel))) hA, va_Zqof (hts0 (.laysStatic "jdk/internal/util/Preconditions" "SIOOBE_FORMATTER" "Ljava/util/function/BiFunction;") (by decide +kernel)) (hts0 (.initialized "jdk/internal/util/Preconditions") (by decide +kernel)) (hs _ (by decide +kernel)) hA, ?_, ?_, ?_, ?_⟩
  · exact vk_R.of (hts0 (.stringRef RX0 55 "shop") (by decide +kernel)) (hE 0 (by decide))
  · exact vk_R.of (hts0 (.stringRef RX0 67 "next") (by decide +kernel)) (hE 1 (by decide))
  · exact vk_R.of (hts0 (.stringRef RX0 72 "free") (by decide +kernel)) (hE 2 (by decide))
  · exact vk_R.of (hts0 (.stringRef RX0 77 "buy") (by decide +kernel)) (hE 3 (by decide))
