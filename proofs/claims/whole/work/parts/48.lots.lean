/-! ===== lots ===== -/
def lotD (P : CP) (S : PS) (x : Nat) : Nat × Nat :=
  if x / 8 % 4 = 0 then (1, 0)
  else if x / 8 % 4 = 1 then (if S.1 (x % pT P) ≠ 8 ∧ S.1 (x % pT P) < 7 then (3, x % pT P) else (2, x % pT P))
  else if x / 8 % 4 = 2 then (if S.1 (x % pT P) ≠ 8 ∧ S.2.1 = 0 then (5, x % pT P) else (2, x % pT P))
  else (0, 0)
theorem lotD_ok {P : CP} {S : PS} (hP : okP P) (hS : okS P S) (hT : 0 < pT P) (x : Nat) : okD P S (lotD P S x).1 (lotD P S x).2 := by
  have hi : x % pT P < pT P := Nat.mod_lt _ hT
  have h8 := hS.1 _ hi
  unfold lotD
  split
  · exact ⟨by decide, hT, by simp, by simp, by simp⟩
  · split
    · split
      · rename_i h
        exact ⟨by show 3 ≤ 5; decide, hi, fun _ => h.2, by simp, by simp⟩
      · exact ⟨by show 2 ≤ 5; decide, hi, by simp, by simp, by simp⟩
    · split
      · split
        · rename_i h
          exact ⟨by show 5 ≤ 5; decide, hi, by simp, by simp, fun _ => by have := h.1; show S.1 (x % pT P) ≤ 7; omega⟩
        · exact ⟨by show 2 ≤ 5; decide, hi, by simp, by simp, by simp⟩
      · exact ⟨by decide, hT, by simp, by simp, by simp⟩
theorem lot_i {x T : Nat} (hx : x < 2 ^ 31) (hT : 0 < T) (hT2 : T ≤ 6) : Int64.toInt32 (lN x - lN x / Int32.toInt64 (nI T) * Int32.toInt64 (nI T)) = nI (x % T) := by
  rw [nI_l (by omega), pk_lRem (by omega) hT (by omega), lN_i]
theorem lot_h {x : Nat} (hx : x < 2 ^ 31) : Int64.toInt32 (lN x / 8 - lN x / 8 / 4 * 4) = nI (x / 8 % 4) := by
  rw [show (8 : Int64) = lN 8 from rfl, show (4 : Int64) = lN 4 from rfl, pk_lDiv (by omega) (by decide) (by decide), pk_lRem (by omega) (by decide) (by decide), lN_i]
theorem lT_ne {T : Nat} (hT : 0 < T) (hT2 : T ≤ 6) : ¬ Int32.toInt64 (nI T) = 0 := fun q => by
  rw [nI_l (by omega), show (0 : Int64) = lN 0 from rfl, pk_lEQ (by omega) (by omega)] at q
  omega
theorem perfLot4 {u : XM} {P : CP} {s0 : PS} {ds : Nat → Nat} {n : Nat} (hP : okP P) (hS : okS P (sq P s0 ds n)) (hy : (sq P s0 ds n).2.2 ≤ 40) (hC : curC u P (sq P s0 ds n)) (hH : hisC u P s0 ds n) (hn : n < 40) (hT0 : 0 < pT P) {x : Nat} (hx : x < 2 ^ 31) : ∃ v, F_X0_performLot (lN x) u = some ((), v) ∧ curC v P (actN P (lotD P (sq P s0 ds n) x).1 (lotD P (sq P s0 ds n) x).2 (sq P s0 ds n)) ∧ hisC v P s0 (ds1 ds n (8 * (lotD P (sq P s0 ds n) x).1 + (lotD P (sq P s0 ds n) x).2)) (n + 1) ∧ frC2 u v := by
  have hT := hP.1
  have hi : x % pT P < pT P := Nat.mod_lt _ hT0
  have hD := lotD_ok hP hS hT0 x
  obtain ⟨v, p0, p1, p2, p3⟩ := perform4 hP hS hy hC hH hn hD
  refine ⟨v, ?_, p1, p2, p3⟩
  unfold F_X0_performLot
  rw [hC.1, if_neg (nI_ne0 (by omega) (by omega)), if_neg (lT_ne hT0 hT), lot_i hx hT0 hT, lot_h hx, tswN _ (by omega)]
  have hm : x / 8 % 4 = 0 ∨ x / 8 % 4 = 1 ∨ x / 8 % 4 = 2 ∨ x / 8 % 4 = 3 := by omega
  unfold lotD at p0
  rcases hm with e | e | e | e
  · rw [e] at p0 ⊢
    rw [if_pos rfl] at p0
    show Option.bind (F_X0_perform 1 0 u) _ = _
    rw [show F_X0_perform 1 0 u = some ((), v) from p0]
    rfl
  · rw [e] at p0 ⊢
    rw [if_neg (by decide), if_pos rfl] at p0
    show Option.bind (F_X0_canMove (nI (x % pT P)) (mby 1) u) _ = _
    rw [canMove4 hC hP hS hi (s := 1) (by decide)]
    by_cases hc : (sq P s0 ds n).1 (x % pT P) ≠ 8 ∧ (sq P s0 ds n).1 (x % pT P) < 7
    · rw [if_pos hc] at p0
      rw [if_pos (show _ ∧ (if (1 : Nat) = 1 then _ else _) from hc), bd1]
      unfold F_X0_performLot_76
      show Option.bind (F_X0_perform 3 (nI (x % pT P)) u) _ = _
      rw [show F_X0_perform 3 (nI (x % pT P)) u = some ((), v) from p0]
      rfl
    · rw [if_neg hc] at p0
      rw [if_neg (show ¬ (_ ∧ (if (1 : Nat) = 1 then _ else _)) from hc), bd0]
      unfold F_X0_performLot_76
      show Option.bind (F_X0_perform 2 (nI (x % pT P)) u) _ = _
      rw [show F_X0_perform 2 (nI (x % pT P)) u = some ((), v) from p0]
      rfl
  · rw [e] at p0 ⊢
    rw [if_neg (by decide), if_neg (by decide), if_pos rfl] at p0
    show Option.bind (F_X0_canTake (nI (x % pT P)) u) _ = _
    rw [canTake4 hC hP hS hi]
    by_cases hc : (sq P s0 ds n).1 (x % pT P) ≠ 8 ∧ (sq P s0 ds n).2.1 = 0
    · rw [if_pos hc] at p0
      rw [if_pos hc, bd1]
      unfold F_X0_performLot_97
      show Option.bind (F_X0_perform 5 (nI (x % pT P)) u) _ = _
      rw [show F_X0_perform 5 (nI (x % pT P)) u = some ((), v) from p0]
      rfl
    · rw [if_neg hc] at p0
      rw [if_neg hc, bd0]
      unfold F_X0_performLot_97
      show Option.bind (F_X0_perform 2 (nI (x % pT P)) u) _ = _
      rw [show F_X0_perform 2 (nI (x % pT P)) u = some ((), v) from p0]
      rfl
  · rw [e] at p0 ⊢
    rw [if_neg (by decide), if_neg (by decide), if_neg (by decide)] at p0
    show Option.bind (F_X0_perform 0 0 u) _ = _
    rw [show F_X0_perform 0 0 u = some ((), v) from p0]
    rfl
theorem plays5 {u : XM} {P : CP} {s0 : PS} {ds : Nat → Nat} {n : Nat} (hP : okP P) (hS : okS P (sq P s0 ds n)) (hy : (sq P s0 ds n).2.2 ≤ 40) (hM : curM u P (sq P s0 ds n)) (hH : hisM u P s0 ds n) (hn : n < 40) (hT0 : 0 < pT P) (x : Nat) (c : Nat) : ∃ w, F_X5_plays (nI (x / 8 % 4)) (nI (x % pT P)) u = some ((), w) ∧ curM w P (actN P (lotD P (sq P s0 ds n) x).1 (lotD P (sq P s0 ds n) x).2 (sq P s0 ds n)) ∧ hisM w P s0 (ds1 ds n c) (n + 1) ∧ frM2 u w := by
  have hT := hP.1
  have hi : x % pT P < pT P := Nat.mod_lt _ hT0
  have h8 := hS.1 _ hi
  unfold lotD F_X5_plays
  have hm : x / 8 % 4 = 0 ∨ x / 8 % 4 = 1 ∨ x / 8 % 4 = 2 ∨ x / 8 % 4 = 3 := by omega
  have fill : ∀ i, ∃ w, F_X5_turns 1 u = some ((), w) ∧ curM w P (actN P 2 i (sq P s0 ds n)) ∧ hisM w P s0 (ds1 ds n c) (n + 1) ∧ frM2 u w := fun i => turns5 hP hS hM hH hn c i (f := 1) (by decide)
  rcases hm with e | e | e | e
  · rw [e, if_pos (show nI 0 = 0 from rfl), if_pos rfl]
    obtain ⟨w, k1, k2⟩ := turns5 hP hS hM hH hn c 0 (f := 0) (by decide)
    refine ⟨w, ?_, k2⟩
    rw [show F_X5_turns 0 u = some ((), w) from k1]
    rfl
  · rw [e, if_neg (show ¬ nI 1 = 0 by decide), if_pos (show nI 1 = 1 from rfl), if_neg (show ¬ 1 = 0 by decide), if_pos rfl, show (1 : Int32) = mby 1 from rfl, mayMove5 hM hP hS hi (s := 1) (by decide)]
    by_cases hc : (sq P s0 ds n).1 (x % pT P) ≠ 8 ∧ (sq P s0 ds n).1 (x % pT P) < 7
    · rw [if_pos (show _ ∧ (if (1 : Nat) = 1 then _ else _) from hc), if_pos hc, bd1]
      obtain ⟨w, m0, m1, m2, m3⟩ := goes5 hP hM hH hn c hi (show _ ≤ 7 by omega) (show (sq P s0 ds n).1 (x % pT P) + 1 ≤ 7 by omega) (by_ := mby 1) (nI_1 _)
      refine ⟨w, ?_, m1.congr (fun j hj => ?_) rfl, m2, m3⟩
      · show Option.bind (F_X5_goes (nI (x % pT P)) (mby 1) u) _ = _
        rw [m0]
        rfl
      · show (if j = x % pT P then (sq P s0 ds n).1 j + 1 else (sq P s0 ds n).1 j) = _
        by_cases q : j = x % pT P
        · rw [if_pos q]; show _ = (if j = x % pT P then _ else _); rw [if_pos q, q]
        · rw [if_neg q]; show _ = (if j = x % pT P then _ else _); rw [if_neg q]
    · rw [if_neg (show ¬ (_ ∧ (if (1 : Nat) = 1 then _ else _)) from hc), if_neg hc, bd0]
      obtain ⟨w, k1, k2⟩ := fill (x % pT P)
      refine ⟨w, ?_, k2⟩
      unfold F_X5_plays_35
      rw [if_neg (show ¬ nI 1 = 2 by decide)]
      unfold F_X5_plays_56
      rw [if_neg (show ¬ nI 1 = 3 by decide)]
      show Option.bind (F_X5_turns 1 u) _ = _
      rw [show F_X5_turns 1 u = some ((), w) from k1]
      rfl
  · rw [e, if_neg (show ¬ nI 2 = 0 by decide), if_neg (show ¬ nI 2 = 1 by decide), if_neg (show ¬ 2 = 0 by decide), if_neg (show ¬ 2 = 1 by decide), if_pos rfl]
    unfold F_X5_plays_35
    rw [if_pos (show nI 2 = 2 from rfl), mayTake5 hM hP hS hi]
    by_cases hc : (sq P s0 ds n).1 (x % pT P) ≠ 8 ∧ (sq P s0 ds n).2.1 = 0
    · rw [if_pos hc, if_pos hc, bd1]
      obtain ⟨w, m0, m1, m2, m3⟩ := home5 hP hM hH hn c hi
      refine ⟨w, ?_, m1, m2, m3⟩
      show Option.bind (F_X5_takesHome (nI (x % pT P)) u) _ = _
      rw [m0]
      rfl
    · rw [if_neg hc, if_neg hc, bd0]
      obtain ⟨w, k1, k2⟩ := fill (x % pT P)
      refine ⟨w, ?_, k2⟩
      unfold F_X5_plays_56
      rw [if_neg (show ¬ nI 2 = 3 by decide)]
      show Option.bind (F_X5_turns 1 u) _ = _
      rw [k1]
      rfl
  · rw [e, if_neg (show ¬ nI 3 = 0 by decide), if_neg (show ¬ nI 3 = 1 by decide), if_neg (show ¬ 3 = 0 by decide), if_neg (show ¬ 3 = 1 by decide), if_neg (show ¬ 3 = 2 by decide)]
    unfold F_X5_plays_35
    rw [if_neg (show ¬ nI 3 = 2 by decide)]
    unfold F_X5_plays_56
    rw [if_pos (show nI 3 = 3 from rfl)]
    obtain ⟨w, k1, k2⟩ := year5 hP hS hy hM hH hn c
    refine ⟨w, ?_, k2⟩
    rw [k1]
    rfl
