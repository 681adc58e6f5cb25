theorem ST_starts (v1 v2 : Int32) (u : XM) (h : REL u) : PRI (F_X4_starts v1 v2) (F_X5_starts v1 v2) u := by
  obtain ⟨P, S, hP, hS, hy, hC, hM⟩ := h.cur
  have hT := hP.1
  unfold PRI F_X4_starts F_X5_starts
  rw [has4 hC hP]
  by_cases hi : 0 ≤ v1.toInt ∧ v1.toInt < pT P
  · obtain ⟨i, hi', rfl⟩ := i_nat (n := pT P) hi (by omega)
    rw [if_pos hi, bd1]
    show ∃ r u1 u2, Option.bind (F_X4_isRow v2 u) _ = _ ∧ _
    rw [isRow4]
    by_cases hr : 0 ≤ v2.toInt ∧ v2.toInt < 6
    · obtain ⟨r, hr6, rfl⟩ := i_nat (n := 6) hr (by decide)
      rw [if_pos hr, bd1]
      show ∃ r' u1 u2, Option.bind (F_X4_pairsFinding (nI r) u) _ = _ ∧ _
      obtain ⟨f, hf, e4, e5, hO⟩ := pairs45 h.1 hr6
      rw [e4]
      by_cases h0 : f = 0
      · obtain ⟨hh, Y, C, hO⟩ := hO h0
        rw [h0] at e5 ⊢
        have b1 : F_X5_isThing (nI i) u = some (1, u) := by rw [isThing5 hM hP, if_pos hi]
        have b2 : F_X5_isRow (nI r) u = some (1, u) := by rw [isRow5, if_pos hr]
        have b3 : F_X5_wrongPairs (nI r) u = some (0, u) := e5 u rfl rfl
        rw [show nI 0 = 0 from rfl, bd0]
        refine ⟨sb (fun s => al (fitq P S (pK P i) (pW P i) s Y C) 0 hh) 0 8 0, u, u, ?_, ?_, h⟩
        · exact starts4_l hC hP hS hy hr6 hO hi' 8 0 0 (by omega) FU (by decide)
        · rw [b1, bd1, b2, bd1, b3, bd0]
          exact starts5_l hM hP hS hy hr6 hO hi' 8 0 0 (by omega) FU (by decide)
      · have hz : ¬ nI f = 0 := nI_ne0 (by omega) (by omega)
        rw [Option.bind_some, if_neg hz, fX4 u (by omega), Option.bind_some]
        refine ⟨-3, fC u f, fM (fC u f) f, rfl, ?_, REL_found h (by omega)⟩
        have hM2 : curM (fC u f) P S := by
          unfold curM
          rw [fC_ne u f 35 (by decide) (by decide), fC_ne u f 43 (by decide) (by decide), fC_ne u f 40 (by decide) (by decide), fC_ne u f 41 (by decide) (by decide), fC_ne u f 42 (by decide) (by decide)]
          exact hM
        rw [isThing5 hM2 hP, if_pos hi, bd1]
        show Option.bind (F_X5_isRow (nI r) (fC u f)) _ = _
        rw [isRow5, if_pos hr, bd1]
        show Option.bind (F_X5_wrongPairs (nI r) (fC u f)) _ = _
        rw [e5 (fC u f) (fC_ne u f 36 (by decide) (by decide)) (fC_ne u f 37 (by decide) (by decide)), Option.bind_some, if_neg hz, fX5 _ (by omega)]
        rfl
    · refine ⟨-1, u, u, by rw [if_neg hr]; rfl, ?_, h⟩
      rw [isThing5 hM hP, if_pos hi, bd1]
      show Option.bind (F_X5_isRow v2 u) _ = _
      rw [isRow5, if_neg hr]
      rfl
  · refine ⟨-1, u, u, by rw [if_neg hi]; rfl, ?_, h⟩
    rw [isThing5 hM hP, if_neg hi]
    rfl
theorem ST_weights (v1 v2 : Int32) (u : XM) (h : REL u) : PRI (F_X4_weights v1 v2) (F_X5_weights v1 v2) u := by
  obtain ⟨P, S, hP, hS, hy, hC, hM⟩ := h.cur
  have hT := hP.1
  unfold PRI F_X4_weights F_X5_weights
  rw [has4 hC hP]
  by_cases hi : 0 ≤ v1.toInt ∧ v1.toInt < pT P
  · obtain ⟨i, hi', rfl⟩ := i_nat (n := pT P) hi (by omega)
    rw [if_pos hi, bd1]
    show ∃ r u1 u2, Option.bind (F_X4_isRow v2 u) _ = _ ∧ _
    rw [isRow4]
    by_cases hr : 0 ≤ v2.toInt ∧ v2.toInt < 6
    · obtain ⟨r, hr6, rfl⟩ := i_nat (n := 6) hr (by decide)
      rw [if_pos hr, bd1]
      show ∃ r' u1 u2, Option.bind (F_X4_pairsFinding (nI r) u) _ = _ ∧ _
      obtain ⟨f, hf, e4, e5, hO⟩ := pairs45 h.1 hr6
      rw [e4]
      by_cases h0 : f = 0
      · obtain ⟨hh, Y, C, hO⟩ := hO h0
        rw [h0] at e5 ⊢
        have b1 : F_X5_isThing (nI i) u = some (1, u) := by rw [isThing5 hM hP, if_pos hi]
        have b2 : F_X5_isRow (nI r) u = some (1, u) := by rw [isRow5, if_pos hr]
        have b3 : F_X5_wrongPairs (nI r) u = some (0, u) := e5 u rfl rfl
        rw [show nI 0 = 0 from rfl, bd0]
        show ∃ r' u1 u2, Option.bind (F_X0_isTaken (nI i) u) _ = _ ∧ _
        rw [isTaken4 hC hP hS hi']
        by_cases h8 : S.1 i = 8
        · refine ⟨-4, u, u, by rw [if_pos h8]; rfl, ?_, h⟩
          rw [b1, bd1, b2, bd1, b3, bd0]
          show Option.bind (F_X5_isTaken (nI i) u) _ = _
          rw [isTaken5 hM hP hS hi', if_pos h8]; rfl
        · have hs := hS.1 i hi'
          have h7 : S.1 i ≤ 7 := by omega
          rw [if_neg h8, bd0]
          refine ⟨sb (fun s => al (fitq P S (pK P i) s (S.1 i) Y C) 0 hh) 0 10 0, u, u, ?_, ?_, h⟩
          · exact weights4_l hC hP hS hy hr6 hO hi' h7 10 0 0 (by omega) FU (by decide)
          · rw [b1, bd1, b2, bd1, b3, bd0]
            show Option.bind (F_X5_isTaken (nI i) u) _ = _
            rw [isTaken5 hM hP hS hi', if_neg h8, bd0]
            exact weights5_l hM hP hS hy hr6 hO hi' h7 10 0 0 (by omega) FU (by decide)
      · have hz : ¬ nI f = 0 := nI_ne0 (by omega) (by omega)
        rw [Option.bind_some, if_neg hz, fX4 u (by omega), Option.bind_some]
        refine ⟨-3, fC u f, fM (fC u f) f, rfl, ?_, REL_found h (by omega)⟩
        have hM2 : curM (fC u f) P S := by
          unfold curM
          rw [fC_ne u f 35 (by decide) (by decide), fC_ne u f 43 (by decide) (by decide), fC_ne u f 40 (by decide) (by decide), fC_ne u f 41 (by decide) (by decide), fC_ne u f 42 (by decide) (by decide)]
          exact hM
        rw [isThing5 hM2 hP, if_pos hi, bd1]
        show Option.bind (F_X5_isRow (nI r) (fC u f)) _ = _
        rw [isRow5, if_pos hr, bd1]
        show Option.bind (F_X5_wrongPairs (nI r) (fC u f)) _ = _
        rw [e5 (fC u f) (fC_ne u f 36 (by decide) (by decide)) (fC_ne u f 37 (by decide) (by decide)), Option.bind_some, if_neg hz, fX5 _ (by omega)]
        rfl
    · refine ⟨-1, u, u, by rw [if_neg hr]; rfl, ?_, h⟩
      rw [isThing5 hM hP, if_pos hi, bd1]
      show Option.bind (F_X5_isRow v2 u) _ = _
      rw [isRow5, if_neg hr]
      rfl
  · refine ⟨-1, u, u, by rw [if_neg hi]; rfl, ?_, h⟩
    rw [isThing5 hM hP, if_neg hi]
    rfl
theorem ST_kinds (v1 v2 : Int32) (u : XM) (h : REL u) : PRI (F_X4_kinds v1 v2) (F_X5_kinds v1 v2) u := by
  obtain ⟨P, S, hP, hS, hy, hC, hM⟩ := h.cur
  have hT := hP.1
  unfold PRI F_X4_kinds F_X5_kinds
  rw [has4 hC hP]
  by_cases hi : 0 ≤ v1.toInt ∧ v1.toInt < pT P
  · obtain ⟨i, hi', rfl⟩ := i_nat (n := pT P) hi (by omega)
    rw [if_pos hi, bd1]
    show ∃ r u1 u2, Option.bind (F_X4_isRow v2 u) _ = _ ∧ _
    rw [isRow4]
    by_cases hr : 0 ≤ v2.toInt ∧ v2.toInt < 6
    · obtain ⟨r, hr6, rfl⟩ := i_nat (n := 6) hr (by decide)
      rw [if_pos hr, bd1]
      show ∃ r' u1 u2, Option.bind (F_X4_pairsFinding (nI r) u) _ = _ ∧ _
      obtain ⟨f, hf, e4, e5, hO⟩ := pairs45 h.1 hr6
      rw [e4]
      by_cases h0 : f = 0
      · obtain ⟨hh, Y, C, hO⟩ := hO h0
        rw [h0] at e5 ⊢
        have b1 : F_X5_isThing (nI i) u = some (1, u) := by rw [isThing5 hM hP, if_pos hi]
        have b2 : F_X5_isRow (nI r) u = some (1, u) := by rw [isRow5, if_pos hr]
        have b3 : F_X5_wrongPairs (nI r) u = some (0, u) := e5 u rfl rfl
        rw [show nI 0 = 0 from rfl, bd0]
        show ∃ r' u1 u2, Option.bind (F_X0_isTaken (nI i) u) _ = _ ∧ _
        rw [isTaken4 hC hP hS hi']
        by_cases h8 : S.1 i = 8
        · refine ⟨-4, u, u, by rw [if_pos h8]; rfl, ?_, h⟩
          rw [b1, bd1, b2, bd1, b3, bd0]
          show Option.bind (F_X5_isTaken (nI i) u) _ = _
          rw [isTaken5 hM hP hS hi', if_pos h8]; rfl
        · have hs := hS.1 i hi'
          have h7 : S.1 i ≤ 7 := by omega
          rw [if_neg h8, bd0]
          refine ⟨sb (fun s => al (fitq P S s (pW P i) (S.1 i) Y C) 0 hh) 0 6 0, u, u, ?_, ?_, h⟩
          · exact kinds4_l hC hP hS hy hr6 hO hi' h7 6 0 0 (by omega) FU (by decide)
          · rw [b1, bd1, b2, bd1, b3, bd0]
            show Option.bind (F_X5_isTaken (nI i) u) _ = _
            rw [isTaken5 hM hP hS hi', if_neg h8, bd0]
            exact kinds5_l hM hP hS hy hr6 hO hi' h7 6 0 0 (by omega) FU (by decide)
      · have hz : ¬ nI f = 0 := nI_ne0 (by omega) (by omega)
        rw [Option.bind_some, if_neg hz, fX4 u (by omega), Option.bind_some]
        refine ⟨-3, fC u f, fM (fC u f) f, rfl, ?_, REL_found h (by omega)⟩
        have hM2 : curM (fC u f) P S := by
          unfold curM
          rw [fC_ne u f 35 (by decide) (by decide), fC_ne u f 43 (by decide) (by decide), fC_ne u f 40 (by decide) (by decide), fC_ne u f 41 (by decide) (by decide), fC_ne u f 42 (by decide) (by decide)]
          exact hM
        rw [isThing5 hM2 hP, if_pos hi, bd1]
        show Option.bind (F_X5_isRow (nI r) (fC u f)) _ = _
        rw [isRow5, if_pos hr, bd1]
        show Option.bind (F_X5_wrongPairs (nI r) (fC u f)) _ = _
        rw [e5 (fC u f) (fC_ne u f 36 (by decide) (by decide)) (fC_ne u f 37 (by decide) (by decide)), Option.bind_some, if_neg hz, fX5 _ (by omega)]
        rfl
    · refine ⟨-1, u, u, by rw [if_neg hr]; rfl, ?_, h⟩
      rw [isThing5 hM hP, if_pos hi, bd1]
      show Option.bind (F_X5_isRow v2 u) _ = _
      rw [isRow5, if_neg hr]
      rfl
  · refine ⟨-1, u, u, by rw [if_neg hi]; rfl, ?_, h⟩
    rw [isThing5 hM hP, if_neg hi]
    rfl
