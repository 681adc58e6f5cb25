/-! ===== counts ===== -/
def ofk (k w : Nat) : Bool := k == w || (k == 4 && w == 1) || (k == 5 && w == 2)
theorem ofk4 (u : XM) {k w : Nat} (hk : k ≤ 5) (h0 : 0 < w) (hw : w ≤ 5) : F_X4_isOfKind (nI k) (nI w) u = some (if ofk k w = true then 1 else 0, u) := by
  have hk2 : k = 0 ∨ k = 1 ∨ k = 2 ∨ k = 3 ∨ k = 4 ∨ k = 5 := by omega
  have hw2 : w = 1 ∨ w = 2 ∨ w = 3 ∨ w = 4 ∨ w = 5 := by omega
  rcases hk2 with rfl | rfl | rfl | rfl | rfl | rfl <;> rcases hw2 with rfl | rfl | rfl | rfl | rfl <;> rfl
theorem ofk5 (u : XM) {k w : Nat} (hk : k ≤ 5) (h0 : 0 < w) (hw : w ≤ 5) : F_X5_isOf (nI k) (nI w) u = some (if ofk k w = true then 1 else 0, u) := by
  have hk2 : k = 0 ∨ k = 1 ∨ k = 2 ∨ k = 3 ∨ k = 4 ∨ k = 5 := by omega
  have hw2 : w = 1 ∨ w = 2 ∨ w = 3 ∨ w = 4 ∨ w = 5 := by omega
  rcases hk2 with rfl | rfl | rfl | rfl | rfl | rfl <;> rcases hw2 with rfl | rfl | rfl | rfl | rfl <;> rfl
def ckN (P : CP) (w : Nat) : Nat → Nat → Nat → Nat
  | _, 0, acc => acc
  | i, m + 1, acc => ckN P w (i + 1) m (if ofk (pK P i) w = true then acc + 1 else acc)
theorem ck4_l {u : XM} {P : CP} {S : PS} (hC : curC u P S) (hP : okP P) {w : Nat} (h0 : 0 < w) (hw : w ≤ 5) : ∀ (m i acc : Nat), i + m = pT P → ∀ fuel, m < fuel → F_X0_countOfKind_4 fuel (nI w) (nI acc) (nI i) u = some (nI (ckN P w i m acc), u)
  | 0, i, acc, hi, fuel + 1, _ => by
    have hT := hP.1
    unfold F_X0_countOfKind_4
    rw [hC.1, if_pos (nI_le (by omega) (by omega))]
    rfl
  | m + 1, i, acc, hi, fuel + 1, hf => by
    have hT := hP.1
    have hi' : i < pT P := by omega
    have ih := fun a => ck4_l hC hP h0 hw m (i + 1) a (by omega) fuel (by omega)
    unfold F_X0_countOfKind_4 ckN F_X0_countOfKind_28
    rw [hC.1, if_neg (nI_ge (by omega) (by omega)), if_pos (ainN rfl (show i < 6 by omega) (by decide)), nI_clamp (by omega), (hC.2.2.2.2 i hi').1, ofk4 u (hP.2.2 i hi').1 h0 hw]
    by_cases q : ofk (pK P i) w = true
    · rw [if_pos q, bd1, if_pos q, nI_1, nI_1]
      exact ih _
    · rw [if_neg q, bd0, if_neg q, nI_1]
      exact ih _
theorem ck4 {u : XM} {P : CP} {S : PS} (hC : curC u P S) (hP : okP P) {w : Nat} (h0 : 0 < w) (hw : w ≤ 5) : F_X0_countOfKind (nI w) u = some (nI (ckN P w 0 (pT P) 0), u) := ck4_l hC hP h0 hw (pT P) 0 0 (by omega) FU (by have := hP.1; show pT P < 1000; omega)
theorem ck5_l {u : XM} {P : CP} {S : PS} (hM : curM u P S) (hP : okP P) {w : Nat} (h0 : 0 < w) (hw : w ≤ 5) : ∀ (m i acc : Nat), i + m = pT P → ∀ fuel, m < fuel → F_X5_kindsOf_4 fuel (nI w) (nI acc) (nI i) u = some (nI (ckN P w i m acc), u)
  | 0, i, acc, hi, fuel + 1, _ => by
    have hT := hP.1
    unfold F_X5_kindsOf_4
    rw [hM.1, if_pos (nI_le (by omega) (by omega))]
    rfl
  | m + 1, i, acc, hi, fuel + 1, hf => by
    have hT := hP.1
    have hi' : i < pT P := by omega
    have ih := fun a => ck5_l hM hP h0 hw m (i + 1) a (by omega) fuel (by omega)
    unfold F_X5_kindsOf_4 ckN F_X5_kindsOf_31
    rw [hM.1, if_neg (nI_ge (by omega) (by omega)), if_pos (ainN rfl (show i < 6 by omega) (by decide)), nI_clamp (by omega), (hM.2.2.2.2 i hi').1, ofk5 u (hP.2.2 i hi').1 h0 hw]
    by_cases q : ofk (pK P i) w = true
    · rw [if_pos q, bd1, if_pos q, nI_1, nI_1]
      exact ih _
    · rw [if_neg q, bd0, if_neg q, nI_1]
      show F_X5_kindsOf_4 fuel (nI w) (nI acc + nI 0) (nI (i + 1)) u = _
      rw [nI_add]
      exact ih _
theorem ck5 {u : XM} {P : CP} {S : PS} (hM : curM u P S) (hP : okP P) {w : Nat} (h0 : 0 < w) (hw : w ≤ 5) : F_X5_kindsOf (nI w) u = some (nI (ckN P w 0 (pT P) 0), u) := ck5_l hM hP h0 hw (pT P) 0 0 (by omega) FU (by have := hP.1; show pT P < 1000; omega)
def prN (f : Nat → Int32) : Nat → Nat → Nat → Nat
  | _, 0, acc => acc
  | i, m + 1, acc => prN f (i + 1) m (if f i = -1 then acc else acc + 1)
theorem pr4_l {a n : Nat} {dd : List Nat} (hY : YY[a]? = some (0, n, dd)) (hn : n < 1000) (u : XM) : ∀ (m i acc : Nat), i + m = n → ∀ fuel, m < fuel → F_X4_presentIn_4 fuel a (nI acc) (nI i) u = some (nI (prN (mi u a) i m acc), u)
  | 0, i, acc, hi, fuel + 1, _ => by
    unfold F_X4_presentIn_4
    rw [alenN hY, Option.bind_some, if_pos (nI_le (by omega) (by omega))]
    rfl
  | m + 1, i, acc, hi, fuel + 1, hf => by
    have ih := fun x => pr4_l hY hn u m (i + 1) x (by omega) fuel (by omega)
    unfold F_X4_presentIn_4 prN F_X4_presentIn_20
    rw [alenN hY, Option.bind_some, if_neg (nI_ge (by omega) (by omega)), if_pos (ainN hY (by omega) (by omega)), nI_clamp (by omega), nI_1, nI_1]
    by_cases q : mi u a i = -1
    · rw [if_pos q, if_pos q]; exact ih _
    · rw [if_neg q, if_neg q]; exact ih _
theorem pr4 {a n : Nat} {dd : List Nat} (hY : YY[a]? = some (0, n, dd)) (hn : n < 1000) (u : XM) : F_X4_presentIn a u = some (nI (prN (mi u a) 0 n 0), u) := pr4_l hY hn u n 0 0 (by omega) FU hn
theorem cnt43 (u : XM) (hr : RROW u) : ∀ (m i acc : Nat), i + m = 6 → ∀ fuel, m < fuel → F_X5_counted_43 fuel 8 (nI acc) (nI i) u = F_X5_counted_78 8 (nI (prN (mi u 8) i m acc)) u
  | 0, i, acc, hi, fuel + 1, _ => by
    unfold F_X5_counted_43
    rw [if_pos (show (6 : Int32) ≤ nI i from nI_le (a := 6) (by omega) (by omega))]
    rfl
  | m + 1, i, acc, hi, fuel + 1, hf => by
    have ih := fun x => cnt43 u hr m (i + 1) x (by omega) fuel (by omega)
    obtain ⟨e8, hs⟩ := hr i (by omega)
    unfold F_X5_counted_43 prN F_X5_counted_70
    rw [if_neg (show ¬ (6 : Int32) ≤ nI i from nI_ge (b := 6) (by omega) (by omega)), if_pos rfl, if_pos (ainN rfl (show i < 6 by omega) (by decide)), nI_clamp (by omega), ← e8, nI_1]
    rcases hs with hs | ⟨n, hn, hs, -⟩
    · rw [hs, if_neg m1_ge0, if_pos rfl]
      show F_X5_counted_43 fuel 8 (nI acc + nI 0) (nI i + 1) u = _
      rw [nI_add, nI_1]
      exact ih _
    · rw [hs, if_pos (nI_ge0 (by omega)), if_neg (n_neg (by omega)), nI_1]
      exact ih _
theorem cnt80 (u : XM) (hr : RTXT u) : ∀ (m i acc : Nat), i + m = 4 → ∀ fuel, m < fuel → F_X5_counted_80 fuel 9 (nI acc) (nI i) u = F_X5_counted_114 9 (nI (prN (mi u 14) i m acc)) u
  | 0, i, acc, hi, fuel + 1, _ => by
    unfold F_X5_counted_80
    rw [if_pos (show (4 : Int32) ≤ nI i from nI_le (a := 4) (by omega) (by omega))]
    rfl
  | m + 1, i, acc, hi, fuel + 1, hf => by
    have ih := fun x => cnt80 u hr m (i + 1) x (by omega) fuel (by omega)
    obtain ⟨e8, hs⟩ := hr i (by omega)
    unfold F_X5_counted_80 prN F_X5_counted_106
    rw [if_neg (show ¬ (4 : Int32) ≤ nI i from nI_ge (b := 4) (by omega) (by omega)), if_pos rfl, if_pos (ainN rfl (show i < 4 by omega) (by decide)), nI_clamp (by omega), ← e8, nI_1]
    rcases hs with hs | ⟨n, hn, hs, -⟩
    · rw [hs, if_neg m1_ge0, if_pos rfl]
      show F_X5_counted_80 fuel 9 (nI acc + nI 0) (nI i + 1) u = _
      rw [nI_add, nI_1]
      exact ih _
    · rw [hs, if_pos (nI_ge0 (by omega)), if_neg (n_neg (by omega)), nI_1]
      exact ih _
theorem cnt116 (u : XM) {P : CP} {s0 : PS} (hk : ∀ k, k < 3 → kep u P s0 k) : ∀ (m i acc : Nat), i + m = 3 → ∀ fuel, m < fuel → F_X5_counted_116 fuel 10 (nI acc) (nI i) u = F_X5_counted_150 10 (nI (prN (mi u 19) i m acc)) u
  | 0, i, acc, hi, fuel + 1, _ => by
    unfold F_X5_counted_116
    rw [if_pos (show (3 : Int32) ≤ nI i from nI_le (a := 3) (by omega) (by omega))]
    rfl
  | m + 1, i, acc, hi, fuel + 1, hf => by
    have ih := fun x => cnt116 u hk m (i + 1) x (by omega) fuel (by omega)
    unfold F_X5_counted_116 prN F_X5_counted_142
    rw [if_neg (show ¬ (3 : Int32) ≤ nI i from nI_ge (b := 3) (by omega) (by omega)), if_pos rfl, if_pos (ainN rfl (show i < 3 by omega) (by decide)), nI_clamp (by omega), nI_1]
    rcases hk i (by omega) with ⟨q1, q2⟩ | ⟨ds', n', q0, q1, q2, -⟩
    · rw [q1, q2, if_pos rfl, if_pos rfl]
      show F_X5_counted_116 fuel 10 (nI acc + nI 0) (nI (i + 1)) u = _
      rw [nI_add]
      exact ih _
    · have := q0.1
      rw [q1, q2, if_neg ne10, if_neg (n_neg (by omega)), nI_1]
      exact ih _
theorem cnt4 {u : XM} {P : CP} {S : PS} (hM : curM u P S) (hP : okP P) (hS : okS P S) : ∀ (m i : Nat) (acc : Int32), i + m = pT P → ∀ fuel, m < fuel → F_X5_counted_4 fuel 5 acc (nI i) u = F_X5_counted_41 5 (sb (fun j => decide (S.1 j = 8)) i m acc) u
  | 0, i, acc, hi, fuel + 1, _ => by
    have hT := hP.1
    unfold F_X5_counted_4
    rw [hM.1, if_pos (nI_le (by omega) (by omega))]
    rfl
  | m + 1, i, acc, hi, fuel + 1, hf => by
    have hT := hP.1
    have ih := fun x => cnt4 hM hP hS m (i + 1) x (by omega) fuel (by omega)
    unfold F_X5_counted_4 F_X5_counted_33
    rw [hM.1, if_neg (nI_ge (by omega) (by omega)), if_pos rfl, isTaken5 hM hP hS (by omega), nI_1]
    by_cases q : S.1 i = 8
    · rw [if_pos q, bd1, ih]; simp [sb, q]
    · rw [if_neg q, bd0, or_z, ih]; simp [sb, q]
theorem c41_78 {v1 v2 : Int32} {u : XM} (h : ¬ v1 = 8) : F_X5_counted_41 v1 v2 u = F_X5_counted_78 v1 v2 u := by
  unfold F_X5_counted_41
  show F_X5_counted_43 (999 + 1) v1 v2 0 u = _
  unfold F_X5_counted_43
  rw [if_neg (by decide), if_neg h]
theorem c78_114 {v1 v2 : Int32} {u : XM} (h : ¬ v1 = 9) : F_X5_counted_78 v1 v2 u = F_X5_counted_114 v1 v2 u := by
  unfold F_X5_counted_78
  show F_X5_counted_80 (999 + 1) v1 v2 0 u = _
  unfold F_X5_counted_80
  rw [if_neg (by decide), if_neg h]
theorem c114_150 {v1 v2 : Int32} {u : XM} (h : ¬ v1 = 10) : F_X5_counted_114 v1 v2 u = F_X5_counted_150 v1 v2 u := by
  unfold F_X5_counted_114
  show F_X5_counted_116 (999 + 1) v1 v2 0 u = _
  unfold F_X5_counted_116
  rw [if_neg (by decide), if_neg h]
theorem c_41 {v1 : Int32} {u : XM} (h : ¬ v1 = 5) : F_X5_counted v1 u = F_X5_counted_41 v1 0 u := by
  unfold F_X5_counted
  show F_X5_counted_4 (999 + 1) v1 0 0 u = _
  unfold F_X5_counted_4
  rw [if_neg h]
  split <;> rfl
theorem sb_congr {p q : Nat → Bool} : ∀ (m i : Nat) (acc : Int32), (∀ j, i ≤ j → j < i + m → p j = q j) → sb p i m acc = sb q i m acc
  | 0, _, _, _ => rfl
  | m + 1, i, acc, h => by
    unfold sb
    rw [h i (Nat.le_refl _) (by omega)]
    exact sb_congr m (i + 1) _ (fun j h1 h2 => h j (by omega) (by omega))
