theorem e_m1 : (-1 : Int32).toInt = -1 := by decide
theorem e_0 : (0 : Int32).toInt = 0 := by decide
theorem e_40 : (40 : Int32).toInt = 40 := by decide
theorem e_60 : (60 : Int32).toInt = 60 := by decide
theorem fX4_1 (u : XM) : F_X4_found 1 u = some (-3, fC u 1) := fX4 u (f := 1) (by decide)
theorem fX4_2 (u : XM) : F_X4_found 2 u = some (-3, fC u 2) := fX4 u (f := 2) (by decide)
theorem fX4_3 (u : XM) : F_X4_found 3 u = some (-3, fC u 3) := fX4 u (f := 3) (by decide)
theorem fX4_4 (u : XM) : F_X4_found 4 u = some (-3, fC u 4) := fX4 u (f := 4) (by decide)
theorem fX4_5 (u : XM) : F_X4_found 5 u = some (-3, fC u 5) := fX4 u (f := 5) (by decide)
theorem fX5_1 (u : XM) : F_X5_found 1 u = some (-3, fM u 1) := fX5 u (f := 1) (by decide)
theorem fX5_2 (u : XM) : F_X5_found 2 u = some (-3, fM u 2) := fX5 u (f := 2) (by decide)
theorem fX5_3 (u : XM) : F_X5_found 3 u = some (-3, fM u 3) := fX5 u (f := 3) (by decide)
theorem fX5_4 (u : XM) : F_X5_found 4 u = some (-3, fM u 4) := fX5 u (f := 4) (by decide)
theorem fX5_5 (u : XM) : F_X5_found 5 u = some (-3, fM u 5) := fX5 u (f := 5) (by decide)
theorem fC_ne (u : XM) (f a : Nat) (h0 : a ≠ 0) (h34 : a ≠ 34) : mi (fC u f) a = mi u a := (xmi_ne h34).trans (xmi_ne h0)
theorem nI_ge0 {n : Nat} (h : n < 2 ^ 31) : (0 : Int32) ≤ nI n := nI_pos' h
theorem m1_ge0 : ¬ (0 : Int32) ≤ -1 := by decide
theorem ST_row (v1 v2 : Int32) (u : XM) (h : REL u) : PRI (F_X4_row v1 v2) (F_X5_row v1 v2) u := by
  unfold PRI F_X4_row F_X5_row
  simp only [isRow4, isRow5, Option.bind_some]
  by_cases hr : 0 ≤ v1.toInt ∧ v1.toInt < 6
  · obtain ⟨r, hr6, rfl⟩ := i_nat (n := 6) hr (by decide)
    simp only [hr, and_self, if_true, show ¬ ((1 : Int32) = 0) by decide, if_false, fX4_5, fX5_5, Option.bind_some]
    by_cases h40 : v2 ≤ 40
    · simp only [h40, if_true]
      by_cases h0 : 0 ≤ v2
      · simp only [h0, if_true, ainN (k := 1) (t := 3) rfl hr6 (by decide), ainN (k := 8) (t := 0) rfl hr6 (by decide), ainN (k := 36) (t := 0) rfl hr6 (by decide), nI_clamp (show r < 2 ^ 31 by omega), fill_i YY (2 + r) 0 (YY_row hr6) (by decide), Option.bind_some]
        have hl := fun w : XM => row5_l hr6 v2 40 0 w rfl FU (by decide)
        obtain ⟨n, hn, rfl⟩ := i_nat (v := v2) (n := 41) (by rw [i_le, e_0] at h0; rw [i_le, e_40] at h40; omega) (by decide)
        refine ⟨nI n, _, _, rfl, hl _, ?_⟩
        obtain ⟨h1, h2, h3, h4, h5⟩ := h
        have e : ∀ a, ¬ (2 ≤ a ∧ a ≤ 8 ∨ a = 36 ∨ a = 37) → mi (wf (wi (wi (wf u (2 + r) 0 40 0) 8 r (nI n)) 36 r (nI n)) 37 (40 * r + 0) 40 0) a = mi u a := fun a ha => (xmi_wf (by omega)).trans ((xmi_ne (by omega)).trans ((xmi_ne (by omega)).trans (xmi_wf (by omega))))
        refine ⟨fun r' hr' => ?_, h2.fr (fun a ha => e a (by omega)), h3.fr (e 34 (by omega)) (e 47 (by omega)) (by rw [e 0 (by omega)]) (by rw [e 35 (by omega)]), h4.fr (by rw [e 0 (by omega)]) (by rw [e 35 (by omega)]) rfl rfl, h5.fr (fun a ha => e a (by omega)) (by rw [e 35 (by omega)]) (by rw [e 35 (by omega)]) (by rw [e 35 (by omega)])⟩
        by_cases hrr : r' = r
        · subst hrr
          refine ⟨?_, Or.inr ⟨n, by omega, ?_, fun i hi => ?_⟩⟩ <;> ((repeat first | rw [mi_wi] | rw [mi_wf] | rw [mi_wc]) <;> (repeat first | rw [if_neg (by omega)] | rw [if_pos (by omega)]))
        · obtain ⟨g1, g2⟩ := h1 r' hr'
          refine ⟨?_, g2.imp (fun g2 => ?_) fun ⟨n', hn', hs', hq⟩ => ⟨n', hn', ?_, fun i hi => ?_⟩⟩
          · (repeat first | rw [mi_wi] | rw [mi_wf] | rw [mi_wc]) <;> (repeat first | rw [if_neg (by omega)] | rw [if_pos (by omega)])
            exact g1
          · (repeat first | rw [mi_wi] | rw [mi_wf] | rw [mi_wc]) <;> (repeat first | rw [if_neg (by omega)] | rw [if_pos (by omega)])
            exact g2
          · (repeat first | rw [mi_wi] | rw [mi_wf] | rw [mi_wc]) <;> (repeat first | rw [if_neg (by omega)] | rw [if_pos (by omega)])
            exact hs'
          · (repeat first | rw [mi_wi] | rw [mi_wf] | rw [mi_wc]) <;> (repeat first | rw [if_neg (by omega)] | rw [if_pos (by omega)])
            exact hq i hi
      · simp only [h0, if_false]
        exact ⟨_, _, _, rfl, rfl, REL_found h (by decide)⟩
    · simp only [h40, if_false]
      exact ⟨_, _, _, rfl, rfl, h⟩
  · simp only [hr, if_false, if_true]
    exact ⟨_, _, _, rfl, rfl, h⟩
theorem ST_text (v1 v2 : Int32) (u : XM) (h : REL u) : PRI (F_X4_text v1 v2) (F_X5_text v1 v2) u := by
  unfold PRI F_X4_text F_X5_text
  simp only [isText4, isText5, Option.bind_some]
  by_cases hr : 0 ≤ v1.toInt ∧ v1.toInt < 4
  · obtain ⟨r, hr6, rfl⟩ := i_nat (n := 4) hr (by decide)
    simp only [hr, and_self, if_true, show ¬ ((1 : Int32) = 0) by decide, if_false, fX4_5, fX5_5, Option.bind_some]
    by_cases h60 : v2 ≤ 60
    · simp only [h60, if_true]
      by_cases h0 : 0 ≤ v2
      · simp only [h0, if_true, ainN (k := 9) (t := 4) rfl hr6 (by decide), ainN (k := 14) (t := 0) rfl hr6 (by decide), ainN (k := 38) (t := 0) rfl hr6 (by decide), nI_clamp (show r < 2 ^ 31 by omega), fill_b YY (10 + r) 32 (YY_txt hr6) (by decide), Option.bind_some]
        have hl := fun w : XM => txt5_l hr6 v2 60 0 w rfl FU (by decide)
        obtain ⟨n, hn, rfl⟩ := i_nat (v := v2) (n := 61) (by rw [i_le, e_0] at h0; rw [i_le, e_60] at h60; omega) (by decide)
        refine ⟨nI n, _, _, rfl, hl _, ?_⟩
        obtain ⟨h1, h2, h3, h4, h5⟩ := h
        have e : ∀ a, ¬ (10 ≤ a ∧ a ≤ 14 ∨ a = 38 ∨ a = 39) → mi (wf (wi (wi (wf u (10 + r) 0 60 (vp_nar .byte 32)) 14 r (nI n)) 38 r (nI n)) 39 (60 * r + 0) 60 32) a = mi u a := fun a ha => (xmi_wf (by omega)).trans ((xmi_ne (by omega)).trans ((xmi_ne (by omega)).trans (xmi_wf (by omega))))
        refine ⟨h1.fr (fun a ha => e a (by omega)), fun r' hr' => ?_, h3.fr (e 34 (by omega)) (e 47 (by omega)) (by rw [e 0 (by omega)]) (by rw [e 35 (by omega)]), h4.fr (by rw [e 0 (by omega)]) (by rw [e 35 (by omega)]) rfl rfl, h5.fr (fun a ha => e a (by omega)) (by rw [e 35 (by omega)]) (by rw [e 35 (by omega)]) (by rw [e 35 (by omega)])⟩
        by_cases hrr : r' = r
        · subst hrr
          refine ⟨?_, Or.inr ⟨n, by omega, ?_, fun i hi => ?_⟩⟩ <;> try ((repeat first | rw [mi_wi] | rw [mi_wf] | rw [mi_wc]) <;> (repeat first | rw [if_neg (by omega)] | rw [if_pos (by omega)]))
          decide
        · obtain ⟨g1, g2⟩ := h2 r' hr'
          refine ⟨?_, g2.imp (fun g2 => ?_) fun ⟨n', hn', hs', hq⟩ => ⟨n', hn', ?_, fun i hi => ?_⟩⟩
          · (repeat first | rw [mi_wi] | rw [mi_wf] | rw [mi_wc]) <;> (repeat first | rw [if_neg (by omega)] | rw [if_pos (by omega)])
            exact g1
          · (repeat first | rw [mi_wi] | rw [mi_wf] | rw [mi_wc]) <;> (repeat first | rw [if_neg (by omega)] | rw [if_pos (by omega)])
            exact g2
          · (repeat first | rw [mi_wi] | rw [mi_wf] | rw [mi_wc]) <;> (repeat first | rw [if_neg (by omega)] | rw [if_pos (by omega)])
            exact hs'
          · (repeat first | rw [mi_wi] | rw [mi_wf] | rw [mi_wc]) <;> (repeat first | rw [if_neg (by omega)] | rw [if_pos (by omega)])
            exact hq i hi
      · simp only [h0, if_false]
        exact ⟨_, _, _, rfl, rfl, REL_found h (by decide)⟩
    · simp only [h60, if_false]
      exact ⟨_, _, _, rfl, rfl, h⟩
  · simp only [hr, if_false, if_true]
    exact ⟨_, _, _, rfl, rfl, h⟩
