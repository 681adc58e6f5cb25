/-! ===== where it lies ===== -/
theorem e_20 : (20 : Int32).toInt = 20 := by decide
theorem ST_lies (v1 v2 : Int32) (u : XM) (h : REL u) : PRI (F_X4_lies v1 v2) (F_X5_lies v1 v2) u := by
  obtain ⟨P, S, hP, hS, hy, hC, hM⟩ := h.cur
  have hT := hP.1
  unfold PRI F_X4_lies F_X5_lies
  simp only [has4 hC hP, Option.bind_some]
  by_cases hi : 0 ≤ v1.toInt ∧ v1.toInt < pT P
  · obtain ⟨i, hi', rfl⟩ := i_nat (n := pT P) hi (by omega)
    obtain ⟨c1, c2, c3, c4⟩ := hC.2.2.2.2 i hi'
    obtain ⟨m1, m2, m3, m4⟩ := hM.2.2.2.2 i hi'
    simp only [hi, and_self, if_true, ne10, if_false]
    by_cases hn : 0 ≤ v2.toInt ∧ v2.toInt < 61
    · obtain ⟨n, hn', rfl⟩ := i_nat (n := 61) hn (by decide)
      rw [if_neg (nI_lt0 (by omega)), if_pos (show nI n ≤ 60 from nI_le (b := 60) (by omega) (by omega)), isTaken4 hC hP hS hi', Option.bind_some]
      by_cases h8 : S.1 i = 8
      · refine ⟨-4, u, u, ?_, ?_, h⟩
        · simp only [h8, if_true, ne10, if_false]
        · simp only [isThing5 hM hP, hi, and_self, if_true, ne10, if_false, Option.bind_some, in5i (nI n) 0 60 _ (lo := 0) (hi := 61) (by decide) (by decide), hn, isTaken5 hM hP hS hi', h8]
      · have hc7 : S.1 i ≤ 7 := by have := hS.1 i hi'; omega
        refine ⟨nI (inY P S i n (S.1 i)), u, u, ?_, ?_, h⟩
        · simp only [h8, if_true, ne10, if_false, ainN (k := 25) (t := 0) rfl (show i < 6 by omega) (by decide), nI_clamp (show i < 2 ^ 31 by omega), c4, eC_n hc7, cellAfter4 hC hP hS hy hi' (show n < 900 by omega) hc7, Option.bind_some]
        · simp only [isThing5 hM hP, hi, and_self, if_true, ne10, if_false, Option.bind_some, in5i (nI n) 0 60 _ (lo := 0) (hi := 61) (by decide) (by decide), hn, isTaken5 hM hP hS hi', h8, z_add, ainN (k := 43) (t := 0) rfl (show i < 8 by omega) (by decide), nI_clamp (show i < 2 ^ 31 by omega), m4, eC_n hc7, afterOf5 hM hP hS hy hi' (show n < 900 by omega) hc7]
    · refine ⟨-1, u, u, ?_, ?_, h⟩
      · by_cases q : v2 < 0
        · rw [if_pos q]
        · rw [if_neg q, if_neg]
          rw [i_lt, e_0] at q
          rw [i_le, e_60]
          omega
      · simp only [isThing5 hM hP, hi, and_self, if_true, ne10, if_false, Option.bind_some, in5i v2 0 60 _ (lo := 0) (hi := 61) (by decide) (by decide), hn]
  · refine ⟨-1, u, u, ?_, ?_, h⟩
    · simp only [hi, if_false, if_true]
    · simp only [isThing5 hM hP, hi, if_false, if_true, Option.bind_some]
