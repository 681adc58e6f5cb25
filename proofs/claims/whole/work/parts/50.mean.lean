/-! ===== the mean of a row ===== -/
def smL (f : Nat → Int32) : Nat → Nat → Int64 → Int64
  | _, 0, acc => acc
  | i, m + 1, acc => smL f (i + 1) m (acc + (f i).toInt64)
theorem smL_congr {f g : Nat → Int32} : ∀ (m i : Nat) (acc : Int64), (∀ j, i ≤ j → j < i + m → f j = g j) → smL f i m acc = smL g i m acc
  | 0, _, _, _ => rfl
  | m + 1, i, acc, h => by
    unfold smL
    rw [h i (Nat.le_refl _) (by omega)]
    exact smL_congr m (i + 1) _ (fun j h1 h2 => h j (by omega) (by omega))
theorem l64_ne0 {n : Nat} (h0 : 0 < n) (h : n < 2 ^ 31) : ¬ Int32.toInt64 (nI n) = 0 := fun q => by
  rw [nI_l h, show (0 : Int64) = lN 0 from rfl, pk_lEQ (by omega) (by omega)] at q
  omega
theorem mean4_l {r n : Nat} (hr : r < 6) (h0 : 0 < n) (hn : n ≤ 40) (u : XM) : ∀ (m i : Nat) (acc : Int64), i + m = n → ∀ fuel, m < fuel → F_X4_mean_42 fuel (nI r) (nI n) acc (nI i) u = some (1, wi u 0 12 (Int64.toInt32 (smL (mi u (2 + r)) i m acc / Int32.toInt64 (nI n))))
  | 0, i, acc, hi, fuel + 1, _ => by
    unfold F_X4_mean_42
    rw [if_pos (nI_le (by omega) (by omega)), if_neg (l64_ne0 h0 (by omega))]
    rfl
  | m + 1, i, acc, hi, fuel + 1, hf => by
    unfold F_X4_mean_42
    rw [if_neg (nI_ge (by omega) (by omega)), if_pos (ainN rfl hr (by decide)), nI_clamp (by omega), if_pos (ainN (YY_row hr) (show i < 40 by omega) (by decide)), nI_clamp (by omega), nI_1, mean4_l hr h0 hn u m (i + 1) _ (by omega) fuel (by omega)]
    rfl
theorem mean5_l {r n : Nat} (hr : r < 6) (h0 : 0 < n) (hn : n ≤ 40) (u : XM) (h36 : mi u 36 r = nI n) : ∀ (m i : Nat) (acc : Int64), i + m = n → ∀ fuel, m < fuel → F_X5_mean_44 fuel (nI r) acc (nI i) u = some (1, wi u 35 14 (Int64.toInt32 (smL (fun j => mi u 37 (40 * r + j)) i m acc / Int32.toInt64 (nI n))))
  | 0, i, acc, hi, fuel + 1, _ => by
    unfold F_X5_mean_44
    rw [if_pos (ainN rfl hr (by decide)), nI_clamp (by omega), h36, if_pos (nI_le (by omega) (by omega)), if_pos (ainN rfl hr (by decide)), if_neg (l64_ne0 h0 (by omega))]
    rfl
  | m + 1, i, acc, hi, fuel + 1, hf => by
    unfold F_X5_mean_44
    rw [if_pos (ainN rfl hr (by decide)), nI_clamp (by omega), h36, if_neg (nI_ge (by omega) (by omega)), n40, if_pos (ainN rfl (show 40 * r + i < 240 by omega) (by decide)), nI_clamp (by omega), nI_1, mean5_l hr h0 hn u h36 m (i + 1) _ (by omega) fuel (by omega)]
    rfl
theorem ST_mean (v1 : Int32) (u : XM) (h : REL u) : PRI (F_X4_mean v1) (F_X5_mean v1) u := by
  unfold PRI F_X4_mean F_X5_mean
  rw [isRow4]
  by_cases hr : 0 ≤ v1.toInt ∧ v1.toInt < 6
  · obtain ⟨r, hr6, rfl⟩ := i_nat (n := 6) hr (by decide)
    obtain ⟨e8, hs⟩ := h.1 r hr6
    have b1 : ∀ w, F_X5_isRow (nI r) w = some (1, w) := fun w => by rw [isRow5, if_pos hr]
    rw [if_pos hr, bd1, if_pos (ainN rfl hr6 (by decide)), nI_clamp (by omega)]
    show ∃ r' u1 u2, (if mi u 8 r = -1 then Option.bind (F_X4_found 1 u) _ else if mi u 8 r = 0 then Option.bind (F_X4_found 4 u) _ else F_X4_mean_42 FU (nI r) (mi u 8 r) 0 0 u) = some (r', u1) ∧ _
    rcases hs with hs | ⟨n, hn, hs, hrow⟩
    · rw [hs] at e8
      rw [hs, if_pos rfl, fX4_1]
      refine ⟨-3, _, _, rfl, ?_, REL_found h (f := 1) (by decide)⟩
      rw [b1, bd1, if_pos (ainN rfl hr6 (by decide))]
      show (if 0 ≤ mi (fC u 1) 36 r then _ else Option.bind (F_X5_found 1 (fC u 1)) _) = _
      rw [fC_ne u 1 36 (by decide) (by decide), ← e8, if_neg m1_ge0, fX5_1]
      rfl
    · rw [hs] at e8
      rw [hs, if_neg (n_neg (by omega))]
      by_cases h0 : n = 0
      · rw [h0] at e8 ⊢
        rw [if_pos (show nI 0 = 0 from rfl), fX4_4]
        refine ⟨-3, _, _, rfl, ?_, REL_found h (f := 4) (by decide)⟩
        rw [b1, bd1, if_pos (ainN rfl hr6 (by decide)), if_pos (ainN rfl hr6 (by decide))]
        show (if 0 ≤ mi (fC u 4) 36 r then (if mi (fC u 4) 36 r = 0 then Option.bind (F_X5_found 4 (fC u 4)) _ else _) else _) = _
        rw [fC_ne u 4 36 (by decide) (by decide), ← e8, if_pos (show 0 ≤ nI 0 by decide), if_pos (show nI 0 = 0 from rfl), fX5_4]
        rfl
      · rw [if_neg (nI_ne0 (by omega) (by omega))]
        have e := mean4_l hr6 (n := n) (by omega) hn u n 0 0 (by omega) FU (by show n < 1000; omega)
        generalize hv : Int64.toInt32 (smL (mi u (2 + r)) 0 n 0 / Int32.toInt64 (nI n)) = v at e
        refine ⟨1, wi u 0 12 v, wi (wi u 0 12 v) 35 14 v, e, ?_, REL_tell h v⟩
        have k36 : mi (wi u 0 12 v) 36 r = nI n := by rw [xmi_ne (by decide)]; exact e8.symm
        rw [b1, bd1, if_pos (ainN rfl hr6 (by decide)), if_pos (ainN rfl hr6 (by decide))]
        show (if 0 ≤ mi (wi u 0 12 v) 36 r then (if mi (wi u 0 12 v) 36 r = 0 then _ else F_X5_mean_44 FU (nI r) 0 0 (wi u 0 12 v)) else _) = _
        rw [k36, if_pos (nI_ge0 (by omega)), if_neg (nI_ne0 (by omega) (by omega))]
        have e5 := mean5_l hr6 (n := n) (by omega) hn (wi u 0 12 v) k36 n 0 0 (by omega) FU (by show n < 1000; omega)
        rw [show (0 : Int32) = nI 0 from rfl, e5]
        rw [smL_congr (g := mi u (2 + r)) n 0 0 (fun j _ hj => by
          show mi (wi u 0 12 v) 37 (40 * r + j) = _
          rw [xmi_ne (by decide)]; exact (hrow j (by omega)).symm), hv]
  · refine ⟨-1, u, u, by rw [if_neg hr]; rfl, ?_, h⟩
    rw [isRow5, if_neg hr]
    rfl
