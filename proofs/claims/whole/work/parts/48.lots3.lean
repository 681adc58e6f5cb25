theorem seed4 {v : Int32} {A B : Option (Int32 × XM)} : (if v < 1 then A else if lg_cmp (Int32.toInt64 v) 2147483647 < 0 then B else A) = if 1 ≤ v.toInt ∧ v.toInt < 2147483647 then B else A := by
  have e1 : (1 : Int32).toInt = 1 := by decide
  have e2 : (2147483647 : Int64).toInt = 2147483647 := by decide
  by_cases h1 : v < 1
  · rw [if_pos h1, if_neg]; rw [i_lt, e1] at h1; omega
  · rw [if_neg h1]
    rw [i_lt, e1] at h1
    by_cases h2 : lg_cmp (Int32.toInt64 v) 2147483647 < 0
    · rw [if_pos h2, if_pos]; rw [lgc_neg, l_lt, Int32.toInt_toInt64, e2] at h2; omega
    · rw [if_neg h2, if_neg]; rw [lgc_neg, l_lt, Int32.toInt_toInt64, e2] at h2; omega
theorem ST_lots (v1 v2 : Int32) (u : XM) (h : REL u) : PRI (F_X4_lots v1 v2) (F_X5_lots v1 v2) u := by
  have hh := h
  obtain ⟨h1, h2, h3, h4, P, s0, ds, n, g1, g2, g3, g4, g5, g6, g7, g8, g9⟩ := h
  have hT := g1.1
  have hn := g4.1
  unfold PRI F_X4_lots F_X5_lots
  rw [rng1 (N := 21) (M := 20) (by decide), seed4]
  have b1 := fun w => in5i v1 1 20 w (lo := 1) (hi := 21) (by decide) (by decide)
  have b2 := fun w => in5i v2 1 2147483646 w (lo := 1) (hi := 2147483647) (by decide) (by decide)
  by_cases hv : 1 ≤ v1.toInt ∧ v1.toInt < 21
  · rw [if_pos (show 1 ≤ v1.toInt ∧ v1.toInt < (21 : Int32).toInt from hv)]
    by_cases hs : 1 ≤ v2.toInt ∧ v2.toInt < 2147483647
    · rw [if_pos hs]
      have k1 : ∀ w, F_X5_in (Int32.toInt64 v1) 1 20 w = some (1, w) := fun w => by rw [b1, if_pos hv]
      have k2 : ∀ w, F_X5_in (Int32.toInt64 v2) 1 2147483646 w = some (1, w) := fun w => by rw [b2, if_pos hs]
      rw [g5.1]
      by_cases h0 : pT P = 0
      · refine ⟨-4, u, u, by rw [h0]; rfl, ?_, hh⟩
        rw [k1, bd1, k2, bd1]
        show (if mi u 35 4 = 0 then _ else _) = _
        rw [g6.1, h0]
        rfl
      · rw [if_neg (nI_ne0 (by omega) (by omega)), g7.2.2.1]
        obtain ⟨m, hm, rfl⟩ := i_nat (v := v1) (n := 21) (by omega) (by decide)
        obtain ⟨x, hx, rfl⟩ := i_nat (v := v2) (n := 2147483647) (by omega) (by decide)
        rw [nI_add, nI_l (show x < 2 ^ 31 by omega)]
        by_cases h40 : n + m ≤ 40
        · rw [if_pos (show nI (n + m) ≤ (40 : Int32) from nI_le (b := 40) h40 (by decide))]
          obtain ⟨v, ds', b0, c1, c2, c3, c4, c5⟩ := lots_l g1 g2 g3 (by omega) (N := m) (by omega) m 0 x n ds u (by omega) h40 (by omega) g4 g5 g7 FU (by show m < 1000; omega)
          obtain ⟨w, d0, d1, d2, d3⟩ := c5 v (g6.frC2 c4) (g8.frC2 c4)
          refine ⟨_, v, w, b0, ?_, REL_deeds h1 h2 h3 h4 g1 g2 g3 c1 g9 c2 c3 c4 d1 d2 d3⟩
          rw [nI_l (show x < 2 ^ 31 by omega)] at k2
          rw [k1, bd1, k2, bd1]
          show (if mi v 35 4 = 0 then _ else if mi v 35 10 + nI m ≤ 40 then _ else _) = _
          rw [(g6.frC2 c4).1, if_neg (nI_ne0 (by omega) (by omega)), (g8.frC2 c4).1, nI_add, if_pos (show nI (n + m) ≤ (40 : Int32) from nI_le (b := 40) h40 (by decide))]
          exact d0
        · rw [if_neg (show ¬ nI (n + m) ≤ (40 : Int32) from nI_ge (a := 40) (by omega) (by omega))]
          refine ⟨-2, u, u, rfl, ?_, hh⟩
          rw [nI_l (show x < 2 ^ 31 by omega)] at k2
          rw [k1, bd1, k2, bd1]
          show (if mi u 35 4 = 0 then _ else if mi u 35 10 + nI m ≤ 40 then _ else _) = _
          rw [g6.1, if_neg (nI_ne0 (by omega) (by omega)), g8.1, nI_add, if_neg (show ¬ nI (n + m) ≤ (40 : Int32) from nI_ge (a := 40) (by omega) (by omega))]
    · rw [if_neg hs]
      refine ⟨-1, u, u, rfl, ?_, hh⟩
      rw [b1, if_pos hv, bd1, b2, if_neg hs]
      rfl
  · rw [if_neg (show ¬ (1 ≤ v1.toInt ∧ v1.toInt < (21 : Int32).toInt) from hv)]
    refine ⟨-1, u, u, rfl, ?_, hh⟩
    rw [b1, if_neg hv]
    rfl
