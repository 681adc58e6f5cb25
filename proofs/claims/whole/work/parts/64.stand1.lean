/-! ===== stand: all orders, the best of a row ===== -/
abbrev AL : Type := List (Nat × Nat)
def gtQ : List Nat → Nat → Nat
  | [], _ => 0
  | a :: _, 0 => a
  | _ :: l, k + 1 => gtQ l k
/-- of d places from i on those for which b holds -/
def lyQ (b : Nat → Bool) : Nat → Nat → List Nat
  | 0, _ => []
  | d + 1, i => if b i = true then i :: lyQ b d (i + 1) else lyQ b d (i + 1)
def fmQ {α : Type} (g : Nat → List α) : List Nat → List α
  | [] => []
  | w :: l => g w ++ fmQ g l
def b1Q (s : Option (Nat × AL)) (x : Nat × AL) : Option (Nat × AL) := match s with
  | none => some x
  | some y => if x.1 < y.1 then some x else some y
def bsQ : Option (Nat × AL) → List (Nat × AL) → Option (Nat × AL)
  | s, [] => s
  | s, x :: l => bsQ (b1Q s x) l
theorem bsQ_app : ∀ (l1 l2 : List (Nat × AL)) (s : Option (Nat × AL)), bsQ s (l1 ++ l2) = bsQ (bsQ s l1) l2
  | [], _, _ => rfl
  | x :: l1, l2, s => bsQ_app l1 l2 (b1Q s x)
theorem bsQ_keep (y : Nat × AL) : ∀ (l : List (Nat × AL)), (∀ x ∈ l, y.1 ≤ x.1) → bsQ (some y) l = some y
  | [], _ => rfl
  | x :: l, h => by
    show bsQ (if x.1 < y.1 then some x else some y) l = some y
    rw [if_neg (Nat.not_lt.mpr (h x List.mem_cons_self))]
    exact bsQ_keep y l (fun z hz => h z (List.mem_cons_of_mem _ hz))
theorem bsQ_in : ∀ (l : List (Nat × AL)) (y : Nat × AL), ∃ z, bsQ (some y) l = some z ∧ (z = y ∨ z ∈ l)
  | [], y => ⟨y, rfl, Or.inl rfl⟩
  | x :: l, y => by
    by_cases c : x.1 < y.1
    · obtain ⟨z, h1, h2⟩ := bsQ_in l x
      refine ⟨z, ?_, Or.inr (h2.elim (fun e => by rw [e]; exact List.mem_cons_self) (List.mem_cons_of_mem _))⟩
      show bsQ (if x.1 < y.1 then some x else some y) l = some z
      rw [if_pos c]; exact h1
    · obtain ⟨z, h1, h2⟩ := bsQ_in l y
      refine ⟨z, ?_, h2.imp id (List.mem_cons_of_mem _)⟩
      show bsQ (if x.1 < y.1 then some x else some y) l = some z
      rw [if_neg c]; exact h1
def avQ (c : Nat → Bool) (w : Nat) : Nat → Bool := fun x => c x && x != w
/-- the leaves: those who may still stand, by what is left -/
def lvQ (dst : Nat → Nat → Nat) : List Nat → (Nat → Bool) → Nat → AL → List (Nat × AL)
  | [], _, sum, pre => [(sum, pre)]
  | i :: R, c, sum, pre => fmQ (fun w => lvQ dst R (avQ c w) (sum + dst w i) (pre ++ [(i, w)])) (lyQ c 6 0)
def plQ : Nat → (Nat → Bool) → List (List Nat)
  | 0, _ => [[]]
  | n + 1, c => fmQ (fun w => (plQ n (avQ c w)).map (fun l => w :: l)) (lyQ c 6 0)
def csQ (dst : Nat → Nat → Nat) : List Nat → List Nat → Nat
  | [], _ => 0
  | i :: R, Q => match Q with
    | [] => 0
    | w :: Q' => dst w i + csQ dst R Q'
def zpQ : List Nat → List Nat → AL
  | [], _ => []
  | i :: R, Q => match Q with
    | [] => []
    | w :: Q' => (i, w) :: zpQ R Q'
theorem fmQ_map {α β : Type} (F : α → β) (g : Nat → List α) : ∀ L : List Nat, (fmQ g L).map F = fmQ (fun w => (g w).map F) L
  | [] => rfl
  | w :: L => by
    show (g w ++ fmQ g L).map F = (g w).map F ++ fmQ (fun w => (g w).map F) L
    rw [List.map_append, fmQ_map F g L]
theorem lvQ_pl (dst : Nat → Nat → Nat) : ∀ (R : List Nat) (c : Nat → Bool) (sum : Nat) (pre : AL), lvQ dst R c sum pre = (plQ R.length c).map (fun l => (sum + csQ dst R l, pre ++ zpQ R l))
  | [], c, sum, pre => by
    show [(sum, pre)] = [(sum + 0, pre ++ [])]
    rw [List.append_nil]; rfl
  | i :: R, c, sum, pre => by
    show fmQ (fun w => lvQ dst R (avQ c w) (sum + dst w i) (pre ++ [(i, w)])) (lyQ c 6 0) = (fmQ (fun w => (plQ R.length (avQ c w)).map (fun l => w :: l)) (lyQ c 6 0)).map (fun l => (sum + csQ dst (i :: R) l, pre ++ zpQ (i :: R) l))
    rw [fmQ_map]
    refine congrArg (fun g => fmQ g (lyQ c 6 0)) (funext fun w => ?_)
    rw [lvQ_pl dst R (avQ c w) (sum + dst w i) (pre ++ [(i, w)]), List.map_map]
    refine congrArg (fun g => List.map g (plQ R.length (avQ c w))) (funext fun l => ?_)
    show (sum + dst w i + csQ dst R l, pre ++ [(i, w)] ++ zpQ R l) = (sum + (dst w i + csQ dst R l), pre ++ (i, w) :: zpQ R l)
    rw [Nat.add_assoc, List.append_assoc]; rfl
theorem lvQ_ge (dst : Nat → Nat → Nat) (R : List Nat) (c : Nat → Bool) (sum : Nat) (pre : AL) : ∀ x ∈ lvQ dst R c sum pre, sum ≤ x.1 := by
  rw [lvQ_pl]
  intro x hx
  obtain ⟨l, _, rfl⟩ := List.mem_map.mp hx
  show sum ≤ sum + csQ dst R l
  omega
/-! the next order -/
def fkQ (σ : Nat → Nat) : Nat → Option Nat
  | 0 => none
  | k + 1 => if σ (k + 1) < σ k then fkQ σ k else some k
def feQ (σ : Nat → Nat) (k : Nat) : Nat → Nat
  | 0 => 0
  | e + 1 => if σ (e + 1) < σ k then feQ σ k e else e + 1
def swpQ (σ : Nat → Nat) (a b : Nat) : Nat → Nat := fun j => if j = b then σ a else if j = a then σ b else σ j
def rvQ : Nat → Nat → Nat → (Nat → Nat) → (Nat → Nat)
  | 0, _, _, σ => σ
  | f + 1, a, b, σ => if b ≤ a then σ else rvQ f (a + 1) (b - 1) (swpQ σ a b)
def nxQ (m : Nat) (σ : Nat → Nat) : Option (Nat → Nat) := match fkQ σ (m - 1) with
  | none => none
  | some k => some (rvQ 6 (k + 1) (m - 1) (swpQ σ k (feQ σ k (m - 1))))
def eqQ (σ τ : Nat → Nat) : Nat → Bool
  | 0 => true
  | k + 1 => decide (σ k = τ k) && eqQ σ τ k
def okQ (m : Nat) (b : Nat → Bool) (a : List Nat) : Bool := decide (a.length = m) && a.all b
def neQ (m : Nat) (a c : List Nat) : Bool := match nxQ m (gtQ a) with
  | none => false
  | some σ => eqQ σ (gtQ c) m
def ckQ (m : Nat) (b : Nat → Bool) : List (List Nat) → List Nat → Bool
  | [], a => okQ m b a && (nxQ m (gtQ a)).isNone
  | c :: L, a => okQ m b a && (neQ m a c && ckQ m b L c)
def caQ (b : Nat → Bool) : Bool := match plQ (lyQ b 6 0).length b with
  | [] => false
  | a :: L => decide (a = lyQ b 6 0) && (decide (L.length < 900) && ckQ (lyQ b 6 0).length b L a)
def bfQ (b0 b1 b2 b3 b4 b5 : Bool) : Nat → Bool
  | 0 => b0
  | 1 => b1
  | 2 => b2
  | 3 => b3
  | 4 => b4
  | 5 => b5
  | _ + 6 => false
set_option maxRecDepth 100000 in
set_option maxHeartbeats 4000000 in
theorem ca_all : ∀ b0 b1 b2 b3 b4 b5 : Bool, caQ (bfQ b0 b1 b2 b3 b4 b5) = true := by decide +kernel
theorem caQ_ex {b : Nat → Bool} (h : caQ b = true) : ∃ L, plQ (lyQ b 6 0).length b = lyQ b 6 0 :: L ∧ L.length < 900 ∧ ckQ (lyQ b 6 0).length b L (lyQ b 6 0) = true := by
  unfold caQ at h
  generalize plQ (lyQ b 6 0).length b = X at h
  cases X with
  | nil => exact absurd (show (false : Bool) = true from h) (by decide)
  | cons a L =>
    have h2 : (decide (a = lyQ b 6 0) && (decide (L.length < 900) && ckQ (lyQ b 6 0).length b L a)) = true := h
    rw [Bool.and_eq_true, Bool.and_eq_true, decide_eq_true_eq, decide_eq_true_eq] at h2
    obtain ⟨e, e2, e3⟩ := h2
    subst e
    exact ⟨L, rfl, e2, e3⟩
theorem ckQ_c {m : Nat} {b : Nat → Bool} {c a : List Nat} {L : List (List Nat)} (h : ckQ m b (c :: L) a = true) : okQ m b a = true ∧ neQ m a c = true ∧ ckQ m b L c = true := by
  have h2 : (okQ m b a && (neQ m a c && ckQ m b L c)) = true := h
  rw [Bool.and_eq_true, Bool.and_eq_true] at h2
  exact h2
theorem ckQ_n {m : Nat} {b : Nat → Bool} {a : List Nat} (h : ckQ m b [] a = true) : okQ m b a = true ∧ nxQ m (gtQ a) = none := by
  have h2 : (okQ m b a && (nxQ m (gtQ a)).isNone) = true := h
  rw [Bool.and_eq_true, Option.isNone_iff_eq_none] at h2
  exact h2
theorem okQ_x {m : Nat} {b : Nat → Bool} {a : List Nat} (h : okQ m b a = true) : a.length = m ∧ ∀ x ∈ a, b x = true := by
  unfold okQ at h
  rw [Bool.and_eq_true, decide_eq_true_eq, List.all_eq_true] at h
  exact h
theorem ckQ_all {m : Nat} {b : Nat → Bool} : ∀ (L : List (List Nat)) (a : List Nat), ckQ m b L a = true → ∀ l ∈ a :: L, okQ m b l = true
  | [], a, h, l, hl => by
    rw [List.mem_singleton.mp hl]
    exact (ckQ_n h).1
  | c :: L, a, h, l, hl => by
    rcases List.mem_cons.mp hl with e | e
    · rw [e]; exact (ckQ_c h).1
    · exact ckQ_all L c (ckQ_c h).2.2 l e
theorem eqQ_x {σ τ : Nat → Nat} : ∀ (m : Nat), eqQ σ τ m = true → ∀ k, k < m → σ k = τ k
  | m + 1, h, k, hk => by
    have h2 : (decide (σ m = τ m) && eqQ σ τ m) = true := h
    rw [Bool.and_eq_true, decide_eq_true_eq] at h2
    by_cases e : k = m
    · rw [e]; exact h2.1
    · exact eqQ_x m h2.2 k (by omega)
theorem neQ_x {m : Nat} {a c : List Nat} (h : neQ m a c = true) : ∃ σ, nxQ m (gtQ a) = some σ ∧ ∀ k, k < m → σ k = gtQ c k := by
  unfold neQ at h
  generalize nxQ m (gtQ a) = X at h
  cases X with
  | none => exact absurd (show (false : Bool) = true from h) (by decide)
  | some σ => exact ⟨σ, rfl, eqQ_x m h⟩
theorem gtQ_1 (x : Nat) (R : List Nat) : ∀ Z : List Nat, gtQ (Z ++ x :: R) Z.length = x
  | [] => rfl
  | _ :: Z => gtQ_1 x R Z
theorem gtQ_0 (R : List Nat) : ∀ (Z : List Nat) (j : Nat), j < Z.length → gtQ (Z ++ R) j = gtQ Z j
  | [], j, h => absurd h (Nat.not_lt_zero _)
  | _ :: Z, 0, _ => rfl
  | _ :: Z, j + 1, h => gtQ_0 R Z j (Nat.lt_of_succ_lt_succ h)
theorem gtQ_mem : ∀ (Z : List Nat) (j : Nat), j < Z.length → gtQ Z j ∈ Z
  | [], j, h => absurd h (Nat.not_lt_zero _)
  | _ :: Z, 0, _ => List.mem_cons_self
  | _ :: Z, j + 1, h => List.mem_cons_of_mem _ (gtQ_mem Z j (Nat.lt_of_succ_lt_succ h))
theorem zpQ_mem : ∀ (A Q : List Nat) (j : Nat), A.length = Q.length → j < A.length → (gtQ A j, gtQ Q j) ∈ zpQ A Q
  | [], _, j, _, h => absurd h (Nat.not_lt_zero _)
  | _ :: _, [], j, e, _ => absurd e (Nat.succ_ne_zero _)
  | a :: A, q :: Q, 0, _, _ => List.mem_cons_self
  | a :: A, q :: Q, j + 1, e, h => List.mem_cons_of_mem _ (zpQ_mem A Q j (Nat.succ.inj e) (Nat.lt_of_succ_lt_succ h))
/-- second of the k-th -/
def gsQ : AL → Nat → Nat
  | [], _ => 0
  | a :: _, 0 => a.2
  | _ :: l, k + 1 => gsQ l k
theorem gsQ_zp : ∀ (A Q : List Nat) (j : Nat), A.length = Q.length → j < A.length → gsQ (zpQ A Q) j = gtQ Q j
  | [], _, j, _, h => absurd h (Nat.not_lt_zero _)
  | _ :: _, [], j, e, _ => absurd e (Nat.succ_ne_zero _)
  | a :: A, q :: Q, 0, _, _ => rfl
  | a :: A, q :: Q, j + 1, e, h => gsQ_zp A Q j (Nat.succ.inj e) (Nat.lt_of_succ_lt_succ h)
theorem lyQ_nil {b : Nat → Bool} {T : Nat} (hb : ∀ x, T ≤ x → b x = false) : ∀ d i : Nat, T ≤ i → lyQ b d i = []
  | 0, _, _ => rfl
  | d + 1, i, h => by
    show (if b i = true then i :: lyQ b d (i + 1) else lyQ b d (i + 1)) = []
    rw [if_neg (by rw [hb i h]; decide)]
    exact lyQ_nil hb d (i + 1) (by omega)
theorem lyQ_s (b : Nat → Bool) {i : Nat} (h : i < 6) : lyQ b (6 - i) i = if b i = true then i :: lyQ b (6 - (i + 1)) (i + 1) else lyQ b (6 - (i + 1)) (i + 1) := by
  rw [show 6 - i = (6 - (i + 1)) + 1 by omega]
  rfl
theorem lyQ_mem {b : Nat → Bool} : ∀ d i x : Nat, x ∈ lyQ b d i → b x = true
  | 0, _, _, h => absurd h List.not_mem_nil
  | d + 1, i, x, h => by
    have h2 : x ∈ (if b i = true then i :: lyQ b d (i + 1) else lyQ b d (i + 1)) := h
    by_cases c : b i = true
    · rw [if_pos c] at h2
      rcases List.mem_cons.mp h2 with e | e
      · rw [e]; exact c
      · exact lyQ_mem d (i + 1) x e
    · rw [if_neg c] at h2
      exact lyQ_mem d (i + 1) x h2
theorem lyQ_len {b : Nat → Bool} : ∀ d i : Nat, (lyQ b d i).length ≤ d
  | 0, _ => Nat.le_refl _
  | d + 1, i => by
    show (if b i = true then i :: lyQ b d (i + 1) else lyQ b d (i + 1)).length ≤ d + 1
    have := lyQ_len (b := b) d (i + 1)
    by_cases c : b i = true
    · rw [if_pos c]; exact Nat.succ_le_succ this
    · rw [if_neg c]; omega
