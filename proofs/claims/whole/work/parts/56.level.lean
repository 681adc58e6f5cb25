/-! ===== a row of a few numbers as a list ===== -/
def sl (u : XM) (a : Nat) (l : List Nat) : XM := (fun x j => if x = a ∧ j < l.length then nI (l.getD j 0) else u.1 x j, u.2)
theorem mi_sl {u : XM} {a j : Nat} {l : List Nat} (h : j < l.length) : mi (sl u a l) a j = nI (l.getD j 0) := if_pos ⟨rfl, h⟩
theorem xmi_sl {u : XM} {a b : Nat} {l : List Nat} (h : b ≠ a) : mi (sl u a l) b = mi u b := by
  funext j
  exact if_neg (fun q => h q.1)
theorem ml_sl (u : XM) (a : Nat) (l : List Nat) : ml (sl u a l) = ml u := rfl
theorem getD_set {l : List Nat} {j k v : Nat} (h : j < l.length) : (l.set j v).getD k 0 = if k = j then v else l.getD k 0 := by
  rw [List.getD_eq_getElem?_getD, List.getD_eq_getElem?_getD, List.getElem?_set]
  by_cases q : k = j
  · subst q; simp [h]
  · rw [if_neg (fun z => q z.symm), if_neg q]
theorem wi_sl {u : XM} {a j v : Nat} {l : List Nat} (h : j < l.length) : wi (sl u a l) a j (nI v) = sl u a (l.set j v) := by
  have : (fun x i => if x = a ∧ i = j then nI v else (sl u a l).1 x i) = (fun x i => if x = a ∧ i < (l.set j v).length then nI ((l.set j v).getD i 0) else u.1 x i) := by
    funext x i
    show (if _ then nI v else if x = a ∧ i < l.length then nI (l.getD i 0) else u.1 x i) = _
    rw [List.length_set, getD_set h]
    by_cases h1 : x = a ∧ i = j
    · rw [if_pos h1, if_pos (by omega), if_pos h1.2]
    · rw [if_neg h1]
      by_cases h2 : x = a ∧ i < l.length
      · rw [if_pos h2, if_pos h2, if_neg (fun q => h1 ⟨h2.1, q⟩)]
      · rw [if_neg h2, if_neg h2]
  show (_, _) = (_, _)
  rw [this]
  rfl
theorem nI_min {a b : Nat} (ha : a < 2 ^ 31) (hb : b < 2 ^ 31) : (if nI b < nI a then nI b else nI a) = nI (min a b) := by
  by_cases h : b < a
  · rw [if_pos (nI_lt h ha), Nat.min_eq_right (by omega)]
  · rw [if_neg (nI_nlt (by omega) hb), Nat.min_eq_left (by omega)]
def bnd (N B : Nat) (l : List Nat) : Prop := l.length = N ∧ ∀ j, l.getD j 0 ≤ B
theorem bnd_set {N B j v : Nat} {l : List Nat} (h : bnd N B l) (hj : j < N) (hv : v ≤ B) : bnd N B (l.set j v) := ⟨by rw [List.length_set]; exact h.1, fun k => by
  rw [getD_set (by rw [h.1]; exact hj)]
  split
  · exact hv
  · exact h.2 k⟩
/-- the turns of the paddles: a sweep over the levels -/
def sw4 : Nat → Nat → List Nat → List Nat
  | _, 0, l => l
  | k, m + 1, l => sw4 (k + 1) m (l.set k (min (l.getD k 0) (1 + min (l.getD (k - 2) 0) (l.getD (min 9 (k + 3)) 0))))
theorem sw4_bnd {B : Nat} : ∀ (m k : Nat) (l : List Nat), k + m = 10 → bnd 10 B l → bnd 10 B (sw4 k m l)
  | 0, _, _, _, h => h
  | m + 1, k, l, hk, h => by
    refine sw4_bnd m (k + 1) _ (by omega) (bnd_set h (by omega) ?_)
    have := h.2 k
    omega
theorem turns26 (u : XM) (K : Int32 → XM → Option (Unit × XM)) (r : Nat) : ∀ (m k : Nat) (l : List Nat), k + m = 10 → bnd 10 10 l → ∀ fuel, m < fuel → F_X2_countTurnsTo_26 K fuel (nI r) (nI k) (sl u 33 l) = K (nI (r + 1)) (sl u 33 (sw4 k m l))
  | 0, k, l, hk, hl, fuel + 1, _ => by
    unfold F_X2_countTurnsTo_26
    rw [if_pos (show (9 : Int32) < nI k from nI_lt (a := 9) (by omega) (by omega)), nI_1]
    rfl
  | m + 1, k, l, hk, hl, fuel + 1, hf => by
    have e1 := hl.2 k
    have e2 := hl.2 (k - 2)
    have e3 := hl.2 (min 9 (k + 3))
    have a : ∀ j, j < 10 → ain YY 0 33 (nI j) = true := fun j hj => ainN rfl hj (by decide)
    unfold F_X2_countTurnsTo_26
    rw [if_neg (show ¬ (9 : Int32) < nI k from nI_nlt (a := 9) (by omega) (by omega)), drawn4 _ (by omega), Option.bind_some, if_pos (a _ (by omega)), filled4 _ (by omega), Option.bind_some, if_pos (a _ (by omega)), nI_clamp (by omega), nI_clamp (by omega), mi_sl (by rw [hl.1]; omega), mi_sl (by rw [hl.1]; omega), min4, Option.bind_some, if_pos (a k (by omega)), nI_clamp (by omega), mi_sl (by rw [hl.1]; omega), min4, Option.bind_some, if_pos (a k (by omega))]
    rw [nI_min (by omega) (by omega), show ∀ x, (1 : Int32) + nI x = nI (1 + x) from fun x => nI_add 1 x, nI_min (by omega) (by omega), wi_sl (by rw [hl.1]; omega), nI_1]
    refine turns26 u K r m (k + 1) _ (by omega) (bnd_set hl (by omega) ?_) fuel (by omega)
    omega
def itS (f : List Nat → List Nat) : Nat → List Nat → List Nat
  | 0, l => l
  | m + 1, l => itS f m (f l)
theorem turns18 (u : XM) : ∀ (m r : Nat) (l : List Nat), r + m = 10 → bnd 10 10 l → ∀ fuel, m < fuel → F_X2_countTurnsTo_18 fuel (nI r) (sl u 33 l) = some ((), sl u 33 (itS (sw4 0 10) m l))
  | 0, r, l, hr, hl, fuel + 1, _ => by
    unfold F_X2_countTurnsTo_18
    rw [if_pos (show (9 : Int32) < nI r from nI_lt (a := 9) (by omega) (by omega))]
    rfl
  | m + 1, r, l, hr, hl, fuel + 1, hf => by
    unfold F_X2_countTurnsTo_18
    rw [if_neg (show ¬ (9 : Int32) < nI r from nI_nlt (a := 9) (by omega) (by omega)), show (0 : Int32) = nI 0 from rfl, turns26 u (F_X2_countTurnsTo_18 fuel) r 10 0 l (by omega) hl FU (by decide)]
    exact turns18 u m (r + 1) _ (by omega) (sw4_bnd 10 0 l (by omega) hl) fuel (by omega)
def T4 (v : Nat) : List Nat := itS (sw4 0 10) 10 ((List.replicate 10 10).set v 0)
theorem wf_sl (u : XM) (a n v : Nat) : wf u a 0 n (nI v) = sl u a (List.replicate n v) := by
  have : (fun x j => if x = a ∧ 0 ≤ j ∧ j < 0 + n then nI v else u.1 x j) = (fun x j => if x = a ∧ j < (List.replicate n v).length then nI ((List.replicate n v).getD j 0) else u.1 x j) := by
    funext x j
    rw [List.length_replicate]
    by_cases h : x = a ∧ j < n
    · rw [if_pos (by omega), if_pos h, List.getD_eq_getElem?_getD, List.getElem?_replicate, if_pos h.2]
      rfl
    · rw [if_neg (by omega), if_neg h]
  show (_, _) = (_, _)
  rw [this]
theorem rep_bnd (N v : Nat) : bnd N v (List.replicate N v) := ⟨List.length_replicate, fun j => by
  rw [List.getD_eq_getElem?_getD, List.getElem?_replicate]
  split
  · exact Nat.le_refl _
  · exact Nat.zero_le _⟩
theorem countTurns4 (u : XM) {v : Nat} (hv : v < 10) : F_X2_countTurnsTo (nI v) u = some ((), sl u 33 (T4 v)) := by
  unfold F_X2_countTurnsTo
  rw [fill_i YY 33 10 (n := 10) rfl (by decide), Option.bind_some, if_pos (ainN rfl hv (by decide)), nI_clamp (by omega)]
  show F_X2_countTurnsTo_18 FU (nI 0) (wi (wf u 33 0 10 (nI 10)) 33 v (nI 0)) = _
  rw [wf_sl, wi_sl (by rw [List.length_replicate]; exact hv)]
  exact turns18 u 10 0 _ (by omega) (bnd_set (rep_bnd 10 10) hv (by omega)) FU (by decide)
/-- the first of the fewest rows -/
def rw4 (l : List Nat) : Nat → Nat → Nat → Nat → Nat → Nat
  | 0, row, _, _, _ => row
  | f + 1, row, lv, many, k => if many ≤ k then row else if l.getD (lv - 2) 0 = many - k - 1 then rw4 l f row (lv - 2) many (k + 1) else rw4 l f (row ||| 2 ^ k) (min 9 (lv + 3)) many (k + 1)
theorem row4_l (u : XM) {l : List Nat} (hl : bnd 10 10 l) {many : Nat} (hm : many ≤ 9) : ∀ (f row lv k : Nat), many ≤ k + f → k ≤ many → lv ≤ 9 → ∀ fuel, f < fuel → F_X2_firstRowFrom_15 fuel (nI row) (nI lv) (nI many) (nI k) (sl u 33 l) = some (nI (rw4 l f row lv many k), sl u 33 l)
  | 0, row, lv, k, h1, h2, h3, fuel + 1, _ => by
    unfold F_X2_firstRowFrom_15
    rw [if_pos (nI_le (by omega) (by omega))]
    rfl
  | f + 1, row, lv, k, h1, h2, h3, fuel + 1, hf => by
    have e2 := hl.2 (lv - 2)
    unfold F_X2_firstRowFrom_15 rw4 F_X2_firstRowFrom_68
    by_cases hk : many ≤ k
    · rw [if_pos (nI_le hk (by omega)), if_pos hk]
    · rw [if_neg (nI_ge (by omega) (by omega)), if_neg hk, if_neg (show ¬ (9 : Int32) < nI k from nI_nlt (a := 9) (by omega) (by omega)), drawn4 _ h3, Option.bind_some, if_pos (ainN rfl (show lv - 2 < 10 by omega) (by decide)), nI_clamp (by omega), mi_sl (by rw [hl.1]; omega), pk_sub (by omega), show nI (many - k) - 1 = nI (many - k - 1) from pk_sub (b := 1) (by omega)]
      by_cases q : l.getD (lv - 2) 0 = many - k - 1
      · rw [if_pos (by rw [q]), if_pos q, drawn4 _ h3, Option.bind_some, nI_1]
        exact row4_l u hl hm f row (lv - 2) (k + 1) (by omega) (by omega) (by omega) fuel (by omega)
      · rw [if_neg (fun z => q (n_inj z (by omega) (by omega))), if_neg q, filled4 _ h3, Option.bind_some, nI_1, shl1 k (by omega), nI_or]
        exact row4_l u hl hm f _ (min 9 (lv + 3)) (k + 1) (by omega) (by omega) (by omega) fuel (by omega)
/-! the reference's side -/
def sw5 : Nat → Nat → List Nat → List Nat
  | _, 0, l => l
  | k, m + 1, l => sw5 (k + 1) m (l.set k (min (min (l.getD k 0) (l.getD (k - 2) 0 + 1)) (l.getD (min 9 (k + 3)) 0 + 1)))
theorem sw5_bnd {B : Nat} : ∀ (m k : Nat) (l : List Nat), k + m = 10 → bnd 10 B l → bnd 10 B (sw5 k m l)
  | 0, _, _, _, h => h
  | m + 1, k, l, hk, h => by
    refine sw5_bnd m (k + 1) _ (by omega) (bnd_set h (by omega) ?_)
    have := h.2 k
    omega
theorem t5_0 (w : XM) {k : Nat} (hk : k ≤ 9) : F_X5_turned (nI k) 0 w = some (nI (k - 2), w) := turned5 w hk (f := 0) (by omega)
theorem t5_1 (w : XM) {k : Nat} (hk : k ≤ 9) : F_X5_turned (nI k) 1 w = some (nI (min 9 (k + 3)), w) := turned5 w hk (f := 1) (by omega)
theorem lay102 (u : XM) (K : Int32 → Int32 → XM → Option (Unit × XM)) (r k x f : Nat) (l : List Nat) (hk : k < 10) (hl : bnd 10 1000000 l) (hx : x ≤ 1000000) (hfl : f ≤ 1000001) : F_X5_layFar_102 K (nI r) (nI k) (nI f) (nI x) (nI k) (sl u 52 l) = K (nI r) (nI (k + 1)) (sl u 52 (l.set k (min x f))) := by
  have a : ain YY 0 52 (nI k) = true := ainN rfl hk (by decide)
  have hk2 : k < (l.set k x).length := by rw [List.length_set, hl.1]; exact hk
  have e : mi (sl u 52 (l.set k x)) 52 k = nI x := by rw [mi_sl hk2, getD_set (by rw [hl.1]; exact hk), if_pos rfl]
  unfold F_X5_layFar_102 F_X5_layFar_130
  rw [if_pos a, if_pos a, nI_clamp (by omega), wi_sl (by rw [hl.1]; exact hk), e, if_pos a, if_pos a, wi_sl hk2, wi_sl hk2, List.set_set, List.set_set, nI_1]
  by_cases q : x ≤ f
  · rw [if_pos (nI_le q (by omega)), Nat.min_eq_left q]
  · rw [if_neg (nI_ge (by omega) (by omega)), Nat.min_eq_right (by omega), if_pos a]
theorem lay41 (u : XM) (K : Int32 → XM → Option (Unit × XM)) (r : Nat) : ∀ (m k : Nat) (l : List Nat), k + m = 10 → bnd 10 1000000 l → ∀ fuel, m < fuel → F_X5_layFar_41 K fuel (nI r) (nI k) (sl u 52 l) = K (nI (r + 1)) (sl u 52 (sw5 k m l))
  | 0, k, l, hk, hl, fuel + 1, _ => by
    unfold F_X5_layFar_41
    rw [if_pos (show (10 : Int32) ≤ nI k from nI_le (a := 10) (by omega) (by omega)), nI_1]
    rfl
  | m + 1, k, l, hk, hl, fuel + 1, hf => by
    have e1 := hl.2 k
    have e2 := hl.2 (k - 2)
    have e3 := hl.2 (min 9 (k + 3))
    have a : ∀ j, j < 10 → ain YY 0 52 (nI j) = true := fun j hj => ainN rfl hj (by decide)
    unfold F_X5_layFar_41
    rw [if_neg (show ¬ (10 : Int32) ≤ nI k from nI_ge (b := 10) (by omega) (by omega)), t5_0 _ (by omega), Option.bind_some, if_pos (a _ (by omega)), t5_1 _ (by omega), Option.bind_some, if_pos (a _ (by omega)), if_pos (a k (by omega)), if_pos (a k (by omega)), nI_clamp (by omega), nI_clamp (by omega), nI_clamp (by omega), mi_sl (by rw [hl.1]; omega), mi_sl (by rw [hl.1]; omega), mi_sl (by rw [hl.1]; omega), nI_1, nI_1]
    rw [lay102 u _ r k _ _ l (by omega) hl (by omega) (by omega)]
    by_cases q : l.getD k 0 ≤ l.getD (k - 2) 0 + 1
    · rw [if_pos (nI_le q (by omega))]
      unfold sw5
      rw [Nat.min_eq_left q]
      refine lay41 u K r m (k + 1) _ (by omega) (bnd_set hl (by omega) ?_) fuel (by omega)
      omega
    · rw [if_neg (nI_ge (by omega) (by omega)), lay102 u _ r k _ _ l (by omega) hl (by omega) (by omega)]
      unfold sw5
      rw [Nat.min_eq_right (show l.getD (k - 2) 0 + 1 ≤ l.getD k 0 by omega)]
      refine lay41 u K r m (k + 1) _ (by omega) (bnd_set hl (by omega) ?_) fuel (by omega)
      omega
theorem lay33 (u : XM) : ∀ (m r : Nat) (l : List Nat), r + m = 10 → bnd 10 1000000 l → ∀ fuel, m < fuel → F_X5_layFar_33 fuel (nI r) (sl u 52 l) = some ((), sl u 52 (itS (sw5 0 10) m l))
  | 0, r, l, hr, hl, fuel + 1, _ => by
    unfold F_X5_layFar_33
    rw [if_pos (show (10 : Int32) ≤ nI r from nI_le (a := 10) (by omega) (by omega))]
    rfl
  | m + 1, r, l, hr, hl, fuel + 1, hf => by
    unfold F_X5_layFar_33
    rw [if_neg (show ¬ (10 : Int32) ≤ nI r from nI_ge (b := 10) (by omega) (by omega)), show (0 : Int32) = nI 0 from rfl, lay41 u (F_X5_layFar_33 fuel) r 10 0 l (by omega) hl FU (by decide)]
    exact lay33 u m (r + 1) _ (by omega) (sw5_bnd 10 0 l (by omega) hl) fuel (by omega)
