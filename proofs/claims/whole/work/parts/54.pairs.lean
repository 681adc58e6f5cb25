/-! ===== rows of pairs ===== -/
def al (p : Nat → Bool) : Nat → Nat → Bool
  | _, 0 => true
  | j, m + 1 => p j && al p (j + 1) m
theorem al_all {p : Nat → Bool} : ∀ (m j : Nat), al p j m = true → ∀ i, j ≤ i → i < j + m → p i = true
  | 0, j, _, i, h1, h2 => by omega
  | m + 1, j, h, i, h1, h2 => by
    unfold al at h
    rw [Bool.and_eq_true] at h
    by_cases q : i = j
    · rw [q]; exact h.1
    · exact al_all m (j + 1) h.2 i (by omega) (by omega)
def prq (f : Nat → Int32) (j : Nat) : Bool := decide (0 ≤ (f (2 * j)).toInt ∧ (f (2 * j)).toInt < 21) && decide (0 ≤ (f (2 * j + 1)).toInt ∧ (f (2 * j + 1)).toInt < 8)
theorem nI_2 (a : Nat) : nI a + 2 = nI (a + 2) := nI_add a 2
theorem rng20 {v : Int32} {A B : Option (Int32 × XM)} : (if v < 0 then A else if 20 < v then A else B) = if 0 ≤ v.toInt ∧ v.toInt < 21 then B else A := by
  by_cases h1 : v < 0
  · rw [if_pos h1, if_neg]; rw [i_lt, e_0] at h1; omega
  · rw [if_neg h1]
    rw [i_lt, e_0] at h1
    by_cases h2 : 20 < v
    · rw [if_pos h2, if_neg]; rw [i_lt, e_20] at h2; omega
    · rw [if_neg h2, if_pos]; rw [i_lt, e_20] at h2; omega
theorem pf4_l {r h : Nat} (hr : r < 6) (hh : 2 * h ≤ 12) (u : XM) : ∀ (m j : Nat), j + m = h → ∀ fuel, m < fuel → F_X4_pairsFinding_30 fuel (nI r) (nI (2 * h)) (nI (2 * j)) u = some (if al (prq (mi u (2 + r))) j m = true then 0 else 3, u)
  | 0, j, hj, fuel + 1, _ => by
    unfold F_X4_pairsFinding_30
    rw [nI_1, if_pos (nI_le (by omega) (by omega))]
    rfl
  | m + 1, j, hj, fuel + 1, hf => by
    have a1 : ain YY 3 1 (nI r) = true := ainN rfl hr (by decide)
    have a2 : ain YY 0 (2 + r) (nI (2 * j)) = true := ainN (YY_row hr) (by omega) (by decide)
    have a3 : ain YY 0 (2 + r) (nI (2 * j + 1)) = true := ainN (YY_row hr) (by omega) (by decide)
    unfold F_X4_pairsFinding_30 al prq
    rw [nI_1, if_neg (nI_ge (by omega) (by omega)), if_pos a1, nI_clamp (show r < 2 ^ 31 by omega), if_pos a2, if_pos a1, if_pos a2, nI_clamp (show 2 * j < 2 ^ 31 by omega), rng20, if_pos a1, if_pos a3, nI_clamp (show 2 * j + 1 < 2 ^ 31 by omega), isCell4]
    by_cases q1 : 0 ≤ (mi u (2 + r) (2 * j)).toInt ∧ (mi u (2 + r) (2 * j)).toInt < 21
    · rw [if_pos q1, decide_eq_true q1, Bool.true_and]
      by_cases q2 : 0 ≤ (mi u (2 + r) (2 * j + 1)).toInt ∧ (mi u (2 + r) (2 * j + 1)).toInt < 8
      · rw [if_pos q2, bd1, decide_eq_true q2, Bool.true_and, nI_2]
        exact pf4_l hr hh u m (j + 1) (by omega) fuel (by omega)
      · rw [if_neg q2, bd0, decide_eq_false q2, Bool.false_and]
        rfl
    · rw [if_neg q1, decide_eq_false q1, Bool.false_and, Bool.false_and]
      rfl
theorem pf5_l {r h : Nat} (hr : r < 6) (hh : 2 * h ≤ 12) (u : XM) (e36 : mi u 36 r = nI (2 * h)) (f : Nat → Int32) (hf : ∀ j, j < 2 * h → mi u 37 (40 * r + j) = f j) : ∀ (m j : Nat) (b : Bool), j + m = h → ∀ fuel, m < fuel → F_X5_wrongPairs_40 fuel (nI r) (if b = true then 1 else 0) (nI (2 * j)) u = some (if (b && al (prq f) j m) = true then 0 else 3, u)
  | 0, j, b, hj, fuel + 1, _ => by
    unfold F_X5_wrongPairs_40
    rw [if_pos (ainN rfl hr (by decide)), nI_clamp (by omega), e36, if_pos (nI_le (by omega) (by omega))]
    cases b <;> rfl
  | m + 1, j, b, hj, fuel + 1, hfu => by
    have a2 : ain YY 0 37 (nI (40 * r + 2 * j)) = true := ainN rfl (show 40 * r + 2 * j < 240 by omega) (by decide)
    have a3 : ain YY 0 37 (nI (40 * r + 2 * j + 1)) = true := ainN rfl (show 40 * r + 2 * j + 1 < 240 by omega) (by decide)
    have ih := fun b => pf5_l hr hh u e36 f hf m (j + 1) b (by omega) fuel (by omega)
    have i0 : F_X5_wrongPairs_40 fuel (nI r) 0 (nI (2 * (j + 1))) u = some (3, u) := ih false
    have i1 : F_X5_wrongPairs_40 fuel (nI r) 1 (nI (2 * (j + 1))) u = some (if al (prq f) (j + 1) m = true then 0 else 3, u) := by
      have := ih true
      rw [Bool.true_and] at this
      exact this
    unfold F_X5_wrongPairs_40 al
    unfold F_X5_wrongPairs_99 F_X5_wrongPairs_100
    rw [if_pos (ainN rfl hr (by decide)), nI_clamp (show r < 2 ^ 31 by omega), e36, if_neg (nI_ge (by omega) (by omega)), nI_2, n40, nI_1, if_pos a2, nI_clamp (show 40 * r + 2 * j < 2 ^ 31 by omega)]
    cases b
    · rw [Bool.false_and, if_pos (show (if false = true then (1 : Int32) else 0) = 0 by decide)]
      exact i0
    · rw [Bool.true_and, if_neg (show ¬ (if true = true then (1 : Int32) else 0) = 0 by decide)]
      rw [in5i (mi u 37 (40 * r + 2 * j)) 0 20 u (lo := 0) (hi := 21) (by decide) (by decide), hf (2 * j) (by omega)]
      unfold prq
      by_cases q1 : 0 ≤ (f (2 * j)).toInt ∧ (f (2 * j)).toInt < 21
      · rw [if_pos q1, bd1, decide_eq_true q1, Bool.true_and, if_pos a3, nI_clamp (show 40 * r + 2 * j + 1 < 2 ^ 31 by omega)]
        show Option.bind (F_X5_isCell (mi u 37 (40 * r + 2 * j + 1)) u) _ = _
        rw [show 40 * r + 2 * j + 1 = 40 * r + (2 * j + 1) by omega, hf (2 * j + 1) (by omega), isCell5]
        by_cases q2 : 0 ≤ (f (2 * j + 1)).toInt ∧ (f (2 * j + 1)).toInt < 8
        · rw [if_pos q2, bd1, decide_eq_true q2, Bool.true_and]
          exact i1
        · rw [if_neg q2, bd0, decide_eq_false q2, Bool.false_and]
          exact i0
      · rw [if_neg q1, bd0, decide_eq_false q1, Bool.false_and, Bool.false_and]
        exact i0
/-- the row is in order: h pairs, years Y, cells C -/
def prOK (u : XM) (r h : Nat) (Y C : Nat → Nat) : Prop := 2 * h ≤ 12 ∧ mi u 8 r = nI (2 * h) ∧ mi u 36 r = nI (2 * h) ∧ ∀ j, j < h → Y j ≤ 20 ∧ C j ≤ 7 ∧ mi u (2 + r) (2 * j) = nI (Y j) ∧ mi u (2 + r) (2 * j + 1) = nI (C j) ∧ mi u 37 (40 * r + 2 * j) = nI (Y j) ∧ mi u 37 (40 * r + 2 * j + 1) = nI (C j)
theorem pairs45 {u : XM} (hR : RROW u) {r : Nat} (hr : r < 6) : ∃ f, f ≤ 5 ∧ F_X4_pairsFinding (nI r) u = some (nI f, u) ∧ (∀ w, mi w 36 = mi u 36 → mi w 37 = mi u 37 → F_X5_wrongPairs (nI r) w = some (nI f, w)) ∧ (f = 0 → ∃ h Y C, prOK u r h Y C) := by
  obtain ⟨e8, hs⟩ := hR r hr
  have a8 : ain YY 0 8 (nI r) = true := ainN rfl hr (by decide)
  have a36 : ain YY 0 36 (nI r) = true := ainN rfl hr (by decide)
  unfold F_X4_pairsFinding F_X5_wrongPairs
  rw [if_pos a8, nI_clamp (by omega)]
  rcases hs with hs | ⟨n, hn, hs, hrow⟩
  · rw [hs] at e8
    refine ⟨1, by omega, by rw [hs]; rfl, fun w w1 w2 => ?_, by omega⟩
    rw [if_pos a36, w1, ← e8]
    rfl
  · rw [hs] at e8
    rw [hs, if_neg (n_neg (by omega)), n_rem2 (by omega)]
    by_cases h12 : 12 < n
    · refine ⟨5, by omega, ?_, fun w w1 w2 => ?_, by omega⟩
      · rw [if_pos (show (12 : Int32) < nI n from nI_lt (a := 12) h12 (by omega))]; rfl
      · rw [if_pos a36, w1, ← e8, if_pos (nI_ge0 (by omega)), if_pos a36, n_rem2 (by omega), if_pos a36, if_neg (show ¬ nI n ≤ (12 : Int32) from nI_ge (a := 12) h12 (by omega))]
        split <;> rfl
    · rcases p01 n with hp | hp
      · obtain ⟨h, rfl⟩ : ∃ h, n = 2 * h := ⟨n / 2, by omega⟩
        have e4 := pf4_l hr (h := h) (by omega) u h 0 (by omega) FU (by show h < 1000; omega)
        by_cases ha : al (prq (mi u (2 + r))) 0 h = true
        · refine ⟨0, by omega, ?_, fun w w1 w2 => ?_, fun _ => ?_⟩
          · rw [if_neg (show ¬ (12 : Int32) < nI (2 * h) from nI_nlt (b := 2 * h) (a := 12) (by omega) (by omega)), hp, if_pos (show nI 0 = 0 from rfl)]
            rw [if_pos ha] at e4
            exact e4
          · have e5 := pf5_l hr (h := h) (by omega) w (by rw [w1]; exact e8.symm) (mi u (2 + r)) (fun j hj => by rw [w2]; exact (hrow j (by omega)).symm) h 0 true (by omega) FU (by show h < 1000; omega)
            rw [Bool.true_and, if_pos ha] at e5
            rw [if_pos a36, w1, ← e8, if_pos (nI_ge0 (by omega)), if_pos a36, n_rem2 (by omega), hp, if_neg (show ¬ nI 0 = 1 by decide), if_pos a36, if_pos (show nI (2 * h) ≤ (12 : Int32) from nI_le (b := 12) (by omega) (by omega))]
            exact e5
          · refine ⟨h, fun j => (mi u (2 + r) (2 * j)).toInt.toNat, fun j => (mi u (2 + r) (2 * j + 1)).toInt.toNat, by omega, hs, e8.symm, fun j hj => ?_⟩
            have hq := al_all h 0 ha j (by omega) (by omega)
            unfold prq at hq
            rw [Bool.and_eq_true, decide_eq_true_eq, decide_eq_true_eq] at hq
            obtain ⟨y, hy, ey⟩ := i_nat (n := 21) hq.1 (by decide)
            obtain ⟨c, hc, ec⟩ := i_nat (n := 8) hq.2 (by decide)
            have r1 := hrow (2 * j) (by omega)
            have r2 := hrow (2 * j + 1) (by omega)
            have ty : (mi u (2 + r) (2 * j)).toInt.toNat = y := by rw [ey, nI_toInt (by omega)]; omega
            have tc : (mi u (2 + r) (2 * j + 1)).toInt.toNat = c := by rw [ec, nI_toInt (by omega)]; omega
            have key : ∀ y' c' : Nat, y' = y → c' = c → y' ≤ 20 ∧ c' ≤ 7 ∧ mi u (2 + r) (2 * j) = nI y' ∧ mi u (2 + r) (2 * j + 1) = nI c' ∧ mi u 37 (40 * r + 2 * j) = nI y' ∧ mi u 37 (40 * r + 2 * j + 1) = nI c' := fun y' c' q1 q2 => by
              rw [q1, q2]
              exact ⟨by omega, by omega, ey, ec, by rw [← r1]; exact ey, by rw [show 40 * r + 2 * j + 1 = 40 * r + (2 * j + 1) by omega, ← r2]; exact ec⟩
            exact key _ _ ty tc
        · refine ⟨3, by omega, ?_, fun w w1 w2 => ?_, by omega⟩
          · rw [if_neg (show ¬ (12 : Int32) < nI (2 * h) from nI_nlt (b := 2 * h) (a := 12) (by omega) (by omega)), hp, if_pos (show nI 0 = 0 from rfl)]
            rw [if_neg ha] at e4
            exact e4
          · have e5 := pf5_l hr (h := h) (by omega) w (by rw [w1]; exact e8.symm) (mi u (2 + r)) (fun j hj => by rw [w2]; exact (hrow j (by omega)).symm) h 0 true (by omega) FU (by show h < 1000; omega)
            rw [Bool.true_and, if_neg ha] at e5
            rw [if_pos a36, w1, ← e8, if_pos (nI_ge0 (by omega)), if_pos a36, n_rem2 (by omega), hp, if_neg (show ¬ nI 0 = 1 by decide), if_pos a36, if_pos (show nI (2 * h) ≤ (12 : Int32) from nI_le (b := 12) (by omega) (by omega))]
            exact e5
      · refine ⟨5, by omega, ?_, fun w w1 w2 => ?_, by omega⟩
        · rw [if_neg (show ¬ (12 : Int32) < nI n from nI_nlt (b := n) (a := 12) (by omega) (by omega)), hp]; rfl
        · rw [if_pos a36, w1, ← e8, if_pos (nI_ge0 (by omega)), if_pos a36, n_rem2 (by omega), hp]
          rfl
