-- the street as numbers: row 0: shops, free, purse, arms, bought, bytes, buyers; rows 1 .. 9: kind, price, minutes, shut, near, errand, text, want, limit
abbrev VW : Type := Nat → Nat → Nat
def bitN (s i : Nat) : Nat := s / 2 ^ i % 2
def pop6 (s : Nat) : Nat := s % 2 + s / 2 % 2 + s / 4 % 2 + s / 8 % 2 + s / 16 % 2 + s / 32 % 2
-- last (one more; 0: none), held, been, minute, paid
abbrev ND : Type := Nat × Nat × Nat × Nat × Nat
def backS (v : VW) (s : Nat) : Nat := if s = 0 then v 0 0 - 1 else s - 1
abbrev takB (v : VW) (s h : Nat) : Prop := (v 1 s = 2 ∨ v 1 s = 4) ∧ bitN h (backS v s) = 1
def lesS (v : VW) (s h : Nat) : Nat := if takB v s h then v 2 (backS v s) / 2 else 0
def priS (v : VW) (s h : Nat) : Nat := if v 1 s = 4 ∧ h = 0 then 0 else if v 1 s = 1 ∨ v 1 s = 3 ∨ v 1 s = 5 then v 2 s + pop6 h else v 2 s - lesS v s h
def lefS (v : VW) (s h : Nat) : Nat := if takB v s h then h - 2 ^ backS v s else h
def helS (v : VW) (s h : Nat) : Nat := lefS v s h ||| 2 ^ s
def minS (v : VW) (s : Nat) : Nat := if v 1 s = 3 then 2 * v 3 s else v 3 s
def wayS (v : VW) (l : Nat) : Nat := if l = 0 then v 0 1 else v 5 (l - 1)
def whyS (v : VW) (w : ND) (s : Nat) : Nat :=
  if bitN (wayS v w.1) s = 0 then 1 else if bitN w.2.2.1 s = 1 then 2 else if v 1 s = 5 ∧ pop6 w.2.1 < 2 then 3 else if v 4 s < w.2.2.2.1 + minS v s then 4 else if v 0 3 < pop6 (helS v s w.2.1) then 5 else if v 0 2 < w.2.2.2.2 + priS v s w.2.1 then 6 else 0
def buyS (v : VW) (w : ND) (s : Nat) : ND := (s + 1, helS v s w.2.1, w.2.2.1 ||| 2 ^ s, w.2.2.2.1 + minS v s, w.2.2.2.2 + priS v s w.2.1)
def nd0 : ND := (0, 0, 0, 0, 0)
abbrev okS (v : VW) (cl : Nat) (w : ND) (s : Nat) : Prop := ¬ s = cl ∧ whyS v w s = 0
def walkS (v : VW) (p : List Nat) : ND := p.foldl (buyS v) nd0
theorem walkS_nil (v : VW) : walkS v [] = nd0 := rfl
theorem walkS_snoc (v : VW) (p : List Nat) (s : Nat) : walkS v (p ++ [s]) = buyS v (walkS v p) s := by
  unfold walkS
  rw [List.foldl_append]
  rfl
-- all rows behind one that is gone, in their order, at most d more
def trS (v : VW) (cl : Nat) : Nat → List Nat → List (List Nat)
  | 0, _ => []
  | d + 1, p => (List.range' 0 (v 0 0)).flatMap (fun s => if okS v cl (walkS v p) s then (p ++ [s]) :: trS v cl d (p ++ [s]) else [])
def chS (v : VW) (cl d : Nat) (p : List Nat) (s : Nat) : List (List Nat) := if okS v cl (walkS v p) s then (p ++ [s]) :: trS v cl d (p ++ [s]) else []
-- those that begin with SHOP k or one behind it
def sibS (v : VW) (cl d : Nat) (p : List Nat) (k : Nat) : List (List Nat) := (List.range' k (v 0 0 - k)).flatMap (chS v cl d p)
theorem trS_succ (v : VW) (cl d : Nat) (p : List Nat) : trS v cl (d + 1) p = sibS v cl d p 0 := rfl
theorem sibS_end (v : VW) (cl d : Nat) (p : List Nat) {k : Nat} (h : v 0 0 ≤ k) : sibS v cl d p k = [] := by
  unfold sibS
  rw [Nat.sub_eq_zero_of_le h]
  rfl
theorem sibS_step (v : VW) (cl d : Nat) (p : List Nat) {k : Nat} (h : k < v 0 0) : sibS v cl d p k = chS v cl d p k ++ sibS v cl d p (k + 1) := by
  unfold sibS
  rw [show v 0 0 - k = (v 0 0 - (k + 1)) + 1 by omega, List.range'_succ, List.flatMap_cons]
-- the road of an errand as told: why it ends, and how far it goes
def goS (v : VW) : List Nat → List Nat → Nat × List Nat
  | [], p => (0, p)
  | s :: r, p => if whyS v (walkS v p) s = 0 then goS v r (p ++ [s]) else (whyS v (walkS v p) s, p)
-- what is best of a list: paid, how many, minute, the row
abbrev BR : Type := Nat × Nat × Nat × List Nat
def b0S : BR := (1000000, 1000000, 1000000, [])
abbrev subN (w h : Nat) : Prop := w &&& h = w
abbrev betS (p n : Nat) (b : BR) : Prop := p < b.1 ∨ p = b.1 ∧ n < b.2.1
def upB (v : VW) (w : Nat) (b : BR) (p : List Nat) : BR := if subN w (walkS v p).2.1 ∧ betS (walkS v p).2.2.2.2 p.length b then ((walkS v p).2.2.2.2, p.length, (walkS v p).2.2.2.1, p) else b
def upM (v : VW) (w : Nat) (b : Nat) (p : List Nat) : Nat := if subN w (walkS v p).2.1 ∧ (walkS v p).2.2.2.1 < b then (walkS v p).2.2.2.1 else b
def alS (v : VW) (cl : Nat) : List (List Nat) := trS v cl 6 []
def beS (v : VW) (cl w : Nat) : BR := if w = 0 then (0, 0, 0, []) else (alS v cl).foldl (upB v w) b0S
def soS (v : VW) (cl w : Nat) : Nat := if w = 0 then 0 else (alS v cl).foldl (upM v w) 1000000
-- a street as it may be
def wfV (v : VW) : Prop := v 0 0 ≤ 6 ∧ v 0 1 < 64 ∧ v 0 2 ≤ 999 ∧ (1 ≤ v 0 3 ∧ v 0 3 ≤ 6) ∧ v 0 4 ≤ 12 ∧ v 0 5 ≤ 200 ∧ v 0 6 ≤ 6 ∧
  (∀ i, i < v 0 0 → v 1 i ≤ 5 ∧ v 2 i ≤ 20 ∧ (1 ≤ v 3 i ∧ v 3 i ≤ 30) ∧ v 4 i ≤ 240 ∧ v 5 i < 64) ∧ (∀ i j, i < v 0 0 → j < v 0 0 → bitN (v 5 i) j = bitN (v 5 j) i) ∧ (∀ i, i < v 0 4 → v 6 i < v 0 0) ∧ (∀ i, i < v 0 5 → v 7 i < 256) ∧ (∀ i, i < v 0 6 → v 8 i < 6 ∧ v 9 i ≤ 99)
def rlM (v : VW) (f : Nat → Int32) : Prop := f 259 = nI (v 0 0) ∧ f 30 = nI (v 0 1) ∧ f 31 = nI (v 0 2) ∧ f 32 = nI (v 0 3) ∧ f 33 = nI (v 0 4) ∧ f 46 = nI (v 0 5) ∧ f 260 = nI (v 0 6) ∧
  (∀ i, i < v 0 0 → f (4 * i) = nI (v 1 i) ∧ f (4 * i + 1) = nI (v 2 i) ∧ f (4 * i + 2) = nI (v 3 i) ∧ f (4 * i + 3) = nI (v 4 i) ∧ f (24 + i) = nI (v 5 i)) ∧ (∀ i, i < v 0 4 → f (34 + i) = nI (v 6 i)) ∧ (∀ i, i < v 0 5 → f (47 + i) = nI (v 7 i)) ∧ (∀ i, i < v 0 6 → f (247 + 2 * i) = nI (v 8 i) ∧ f (247 + 2 * i + 1) = nI (v 9 i))
def rlC (v : VW) (S : ST) (b : Nat) : Prop := S b 0 = nI (v 0 0) ∧ S b 6 = nI (v 0 1) ∧ S b 7 = nI (v 0 2) ∧ S b 8 = nI (v 0 3) ∧ S b 9 = nI (v 0 4) ∧ S b 11 = nI (v 0 5) ∧ S b 13 = nI (v 0 6) ∧
  (∀ i, i < v 0 0 → S (b + 1) i = nI (v 1 i) ∧ S (b + 2) i = nI (v 2 i) ∧ S (b + 3) i = nI (v 3 i) ∧ S (b + 4) i = nI (v 4 i) ∧ S (b + 5) i = nI (v 5 i)) ∧ (∀ i, i < v 0 4 → S (b + 6) i = nI (v 6 i)) ∧ (∀ i, i < v 0 5 → S (b + 7) i = nI (v 7 i)) ∧ (∀ i, i < v 0 6 → S (b + 8) i = nI (v 8 i) ∧ S (b + 9) i = nI (v 9 i))
-- numbers
theorem li (n : Nat) : (OfNat.ofNat n : Int32) = nI n := rfl
theorem nI_or (a b : Nat) : nI a ||| nI b = nI (a ||| b) := fa_or a b
theorem nI_and (a b : Nat) : nI a &&& nI b = nI (a &&& b) := fa_and a b
theorem nI_n0 {n : Nat} (h : n < 2 ^ 31) : nI n = 0 ↔ n = 0 := by
  rw [show (0 : Int32) = nI 0 from rfl, nI_eq h (by decide)]
theorem nI_n1 {n : Nat} (h : n < 2 ^ 31) : nI n = 1 ↔ n = 1 := by
  rw [show (1 : Int32) = nI 1 from rfl, nI_eq h (by decide)]
theorem s31 : ∀ k, k < 32 → ((nI k &&& 31).toBitVec.smod 32).toNat = k := by decide +kernel
theorem nI_shr {n k : Nat} (h : n < 2 ^ 31) (hk : k < 32) : nI n >>> (nI k &&& 31) = nI (n / 2 ^ k) := pk_shrN h _ k (s31 k hk)
theorem nI_shl {n k : Nat} (hk : k < 32) (h : n * 2 ^ k < 2 ^ 32) : nI n <<< (nI k &&& 31) = nI (n * 2 ^ k) := pk_shlN _ k (s31 k hk) h
theorem nI_a1 {n : Nat} (h : n < 2 ^ 31) : nI n &&& 1 = nI (n % 2) := pk_andN (by omega) 1 (by decide)
theorem nI_bit {n k : Nat} (h : n < 2 ^ 31) (hk : k < 32) : (nI n >>> (nI k &&& 31)) &&& 1 = nI (bitN n k) := by
  rw [nI_shr h hk, nI_a1 (Nat.lt_of_le_of_lt (Nat.div_le_self _ _) h)]
  rfl
theorem bit_lt (s i : Nat) : bitN s i < 2 := Nat.mod_lt _ (by decide)
theorem one_shl {k : Nat} (hk : k < 31) : (1 : Int32) <<< (nI k &&& 31) = nI (2 ^ k) := by
  have h : 1 * 2 ^ k < 2 ^ 32 := by rw [Nat.one_mul]; exact Nat.pow_lt_pow_right (by decide) (by omega)
  have := nI_shl (n := 1) (k := k) (by omega) h
  rw [Nat.one_mul] at this
  exact this
-- an index that is a number, and in its row
theorem ixo {k L : Nat} (h : k < L) (hL : L < 2 ^ 31) : ¬ (nI k < 0 ∨ L ≤ (nI k).toNatClampNeg) := nI_in h hL
theorem ck {α : Type} {k L : Nat} {y : Option α} (h : k < L) (hL : L < 2 ^ 31) : (if nI k < 0 ∨ L ≤ (nI k).toNatClampNeg then none else y) = y := if_neg (ixo h hL)
theorem bd1_s {α β : Type} (x : α) (f : α → Option β) : bd1 (some x) f = f x := rfl
theorem bd2_s {α β γ : Type} (x : α) (y : β) (f : α → β → Option γ) : bd2 (some (x, y)) f = f x y := rfl
theorem nm_s {α β : Type} (x : α) (f : α → β) : nm x f = f x := rfl
theorem us_s (S : ST) (n k : Nat) (v : Int32) : us S n k v n k = v := by simp [us, upd]
theorem us_k (S : ST) (n k : Nat) (v : Int32) {j : Nat} (h : j ≠ k) : us S n k v n j = S n j := by simp [us, upd, h]
theorem us_n (S : ST) (n k : Nat) (v : Int32) {i : Nat} (h : i ≠ n) : us S n k v i = S i := by simp [us, h]
theorem us_r (S : ST) (n k : Nat) (v : Int32) : us S n k v n = upd (S n) k v := by simp [us]
