theorem nI_lt0 {n : Nat} (h : n < 2 ^ 31) : ¬ nI n < 0 := nI_pos h
theorem ne10 : ¬ ((1 : Int32) = 0) := by decide
theorem m1_m1 : ((-1 : Int32) = -1) = True := by simp
theorem ST_at (v1 v2 : Int32) (u : XM) (h : REL u) : PRI (F_X4_at v1 v2) (F_X5_at v1 v2) u := by
  unfold PRI F_X4_at F_X5_at
  simp only [isRow4, isRow5, Option.bind_some]
  by_cases hr : 0 ≤ v1.toInt ∧ v1.toInt < 6
  · obtain ⟨r, hr6, rfl⟩ := i_nat (n := 6) hr (by decide)
    obtain ⟨e8, hs⟩ := h.1 r hr6
    simp only [hr, and_self, if_true, ne10, if_false, F_X4_at_39, fX4_1, fX5_1, fX4_2, fX5_2, Option.bind_some, ainN (k := 1) (t := 3) rfl hr6 (by decide), ainN (k := 8) (t := 0) rfl hr6 (by decide), ainN (k := 36) (t := 0) rfl hr6 (by decide), nI_clamp (show r < 2 ^ 31 by omega)]
    rcases hs with hs | ⟨n, hn, hs, hrow⟩
    · rw [hs] at e8
      simp only [hs, if_true]
      refine ⟨_, _, _, rfl, ?_, REL_found h (f := 1) (by decide)⟩
      rw [fC_ne u 1 36 (by decide) (by decide), ← e8, if_neg m1_ge0]
    · rw [hs] at e8
      simp only [hs, n_neg (show n < 2 ^ 31 by omega), if_false]
      by_cases hi : 0 ≤ v2.toInt ∧ v2.toInt < n
      · obtain ⟨i, hi', rfl⟩ := i_nat (n := n) hi (by omega)
        simp only [nI_lt0 (show i < 2 ^ 31 by omega), nI_lt (show i < n by omega) (show n < 2 ^ 31 by omega), if_false, if_true, ainN (YY_row hr6) (show i < 40 by omega) (by decide), n40, ainN (k := 37) (t := 0) rfl (show 40 * r + i < 240 by omega) (by decide), nI_clamp (show i < 2 ^ 31 by omega), nI_clamp (show 40 * r + i < 2 ^ 31 by omega)]
        refine ⟨1, wi u 0 12 (mi u (2 + r) i), wi (wi u 0 12 (mi u (2 + r) i)) 35 14 (mi u (2 + r) i), rfl, ?_, REL_tell h _⟩
        rw [xmi_ne (show 36 ≠ 0 by decide), ← e8, if_pos (nI_ge0 (by omega)), in5n (nI i) n (by omega), Option.bind_some]
        simp only [hi, and_self, if_true, ne10, if_false]
        rw [xmi_ne (show 37 ≠ 0 by decide), ← hrow i hi']
        rfl
      · have hc : ∀ X, (if v2 < 0 then (some ((-3 : Int32), fC u 2)) else if v2 < nI n then X else some (-3, fC u 2)) = some (-3, fC u 2) := fun X => by
          by_cases q : v2 < 0
          · rw [if_pos q]
          · rw [if_neg q, if_neg]
            rw [i_lt, e_0] at q
            rw [i_lt, nI_toInt (by omega)]
            omega
        refine ⟨-3, fC u 2, _, hc _, ?_, REL_found h (f := 2) (by decide)⟩
        rw [fC_ne u 2 36 (by decide) (by decide), ← e8, if_pos (nI_ge0 (by omega)), in5n v2 n (by omega), Option.bind_some]
        simp only [hi, if_false, if_true]
  · simp only [hr, if_false, if_true]
    exact ⟨_, _, _, rfl, rfl, h⟩
theorem ST_lay (v1 v2 v3 : Int32) (u : XM) (h : REL u) : PRI (F_X4_lay v1 v2 v3) (F_X5_lay v1 v2 v3) u := by
  unfold PRI F_X4_lay F_X5_lay
  simp only [isRow4, isRow5, Option.bind_some]
  by_cases hr : 0 ≤ v1.toInt ∧ v1.toInt < 6
  · obtain ⟨r, hr6, rfl⟩ := i_nat (n := 6) hr (by decide)
    obtain ⟨e8, hs⟩ := h.1 r hr6
    simp only [hr, and_self, if_true, ne10, if_false, F_X4_lay_39, fX4_1, fX5_1, fX4_2, fX5_2, Option.bind_some, ainN (k := 1) (t := 3) rfl hr6 (by decide), ainN (k := 8) (t := 0) rfl hr6 (by decide), ainN (k := 36) (t := 0) rfl hr6 (by decide), nI_clamp (show r < 2 ^ 31 by omega)]
    rcases hs with hs | ⟨n, hn, hs, hrow⟩
    · rw [hs] at e8
      simp only [hs, if_true]
      refine ⟨_, _, _, rfl, ?_, REL_found h (f := 1) (by decide)⟩
      rw [fC_ne u 1 36 (by decide) (by decide), ← e8, if_neg m1_ge0]
    · rw [hs] at e8
      simp only [hs, n_neg (show n < 2 ^ 31 by omega), if_false]
      by_cases hi : 0 ≤ v2.toInt ∧ v2.toInt < n
      · obtain ⟨i, hi', rfl⟩ := i_nat (n := n) hi (by omega)
        simp only [nI_lt0 (show i < 2 ^ 31 by omega), nI_lt (show i < n by omega) (show n < 2 ^ 31 by omega), if_false, if_true, ainN (YY_row hr6) (show i < 40 by omega) (by decide), n40, ainN (k := 37) (t := 0) rfl (show 40 * r + i < 240 by omega) (by decide), nI_clamp (show i < 2 ^ 31 by omega), nI_clamp (show 40 * r + i < 2 ^ 31 by omega)]
        refine ⟨1, wi (wi u (2 + r) i v3) 0 12 (mi u (2 + r) i), wi (wi (wi (wi u (2 + r) i v3) 0 12 (mi u (2 + r) i)) 37 (40 * r + i) v3) 35 14 (mi u (2 + r) i), rfl, ?_, ?_⟩
        · rw [xmi_ne (show 36 ≠ 0 by decide), xmi_ne (show 36 ≠ 2 + r by omega), ← e8, if_pos (nI_ge0 (by omega)), in5n (nI i) n (by omega), Option.bind_some]
          simp only [hi, and_self, if_true, ne10, if_false]
          rw [xmi_ne (show 37 ≠ 0 by decide), xmi_ne (show 37 ≠ 2 + r by omega), ← hrow i hi']
          rfl
        · obtain ⟨h1, h2, h3, h4, h5⟩ := h
          have e : ∀ a, ¬ (2 ≤ a ∧ a ≤ 8 ∨ a = 37 ∨ a = 0 ∨ a = 35) → mi (wi (wi (wi (wi u (2 + r) i v3) 0 12 (mi u (2 + r) i)) 37 (40 * r + i) v3) 35 14 (mi u (2 + r) i)) a = mi u a := fun a ha => (xmi_ne (by omega)).trans ((xmi_ne (by omega)).trans ((xmi_ne (by omega)).trans (xmi_ne (by omega))))
          have e2 : ∀ a b, (a = 0 ∧ b ≠ 12 ∨ a = 35 ∧ b ≠ 14) → mi (wi (wi (wi (wi u (2 + r) i v3) 0 12 (mi u (2 + r) i)) 37 (40 * r + i) v3) 35 14 (mi u (2 + r) i)) a b = mi u a b := fun a b hab => by (repeat first | rw [mi_wi] | rw [mi_wf] | rw [mi_wc]) <;> (repeat first | rw [if_neg (by omega)] | rw [if_pos (by omega)])
          refine ⟨fun r' hr' => ?_, h2.fr (fun a ha => e a (by omega)), h3.fr (e 34 (by omega)) (e 47 (by omega)) (e2 0 11 (by omega)) (e2 35 17 (by omega)), ⟨?_, h4.2⟩, h5.fr (fun a ha => e a (by omega)) (e2 35 4 (by omega)) (e2 35 5 (by omega)) (e2 35 10 (by omega))⟩
          · obtain ⟨g1, g2⟩ := h1 r' hr'
            refine ⟨?_, g2.imp (fun g2 => ?_) fun ⟨n', hn', hs', hq⟩ => ⟨n', hn', ?_, fun i' hi2 => ?_⟩⟩
            · (repeat first | rw [mi_wi] | rw [mi_wf] | rw [mi_wc]) <;> (repeat first | rw [if_neg (by omega)] | rw [if_pos (by omega)])
              exact g1
            · (repeat first | rw [mi_wi] | rw [mi_wf] | rw [mi_wc]) <;> (repeat first | rw [if_neg (by omega)] | rw [if_pos (by omega)])
              exact g2
            · (repeat first | rw [mi_wi] | rw [mi_wf] | rw [mi_wc]) <;> (repeat first | rw [if_neg (by omega)] | rw [if_pos (by omega)])
              exact hs'
            · by_cases hrr : r' = r ∧ i' = i
              · (repeat first | rw [mi_wi] | rw [mi_wf] | rw [mi_wc]) <;> (repeat first | rw [if_neg (by omega)] | rw [if_pos (by omega)])
              · (repeat first | rw [mi_wi] | rw [mi_wf] | rw [mi_wc]) <;> (repeat first | rw [if_neg (by omega)] | rw [if_pos (by omega)])
                exact hq i' hi2
          · (repeat first | rw [mi_wi] | rw [mi_wf] | rw [mi_wc]) <;> (repeat first | rw [if_neg (by omega)] | rw [if_pos (by omega)])
      · have hc : ∀ X, (if v2 < 0 then (some ((-3 : Int32), fC u 2)) else if v2 < nI n then X else some (-3, fC u 2)) = some (-3, fC u 2) := fun X => by
          by_cases q : v2 < 0
          · rw [if_pos q]
          · rw [if_neg q, if_neg]
            rw [i_lt, e_0] at q
            rw [i_lt, nI_toInt (by omega)]
            omega
        refine ⟨-3, fC u 2, _, hc _, ?_, REL_found h (f := 2) (by decide)⟩
        rw [fC_ne u 2 36 (by decide) (by decide), ← e8, if_pos (nI_ge0 (by omega)), in5n v2 n (by omega), Option.bind_some]
        simp only [hi, if_false, if_true]
  · simp only [hr, if_false, if_true]
    exact ⟨_, _, _, rfl, rfl, h⟩
theorem ST_put (v1 v2 v3 : Int32) (u : XM) (h : REL u) : PRI (F_X4_put v1 v2 v3) (F_X5_put v1 v2 v3) u := by
  unfold PRI F_X4_put F_X5_put
  simp only [isText4, isText5, Option.bind_some]
  by_cases hr : 0 ≤ v1.toInt ∧ v1.toInt < 4
  · obtain ⟨r, hr6, rfl⟩ := i_nat (n := 4) hr (by decide)
    obtain ⟨e8, hs⟩ := h.2.1 r hr6
    simp only [hr, and_self, if_true, ne10, if_false, F_X4_put_39, fX4_1, fX5_1, fX4_2, fX5_2, Option.bind_some, ainN (k := 9) (t := 4) rfl hr6 (by decide), ainN (k := 14) (t := 0) rfl hr6 (by decide), ainN (k := 38) (t := 0) rfl hr6 (by decide), nI_clamp (show r < 2 ^ 31 by omega)]
    rcases hs with hs | ⟨n, hn, hs, hrow⟩
    · rw [hs] at e8
      simp only [hs, if_true]
      refine ⟨_, _, _, rfl, ?_, REL_found h (f := 1) (by decide)⟩
      rw [fC_ne u 1 38 (by decide) (by decide), ← e8, if_neg m1_ge0]
    · rw [hs] at e8
      simp only [hs, n_neg (show n < 2 ^ 31 by omega), if_false]
      by_cases hi : 0 ≤ v2.toInt ∧ v2.toInt < n
      · obtain ⟨i, hi', rfl⟩ := i_nat (n := n) hi (by omega)
        simp only [nI_lt0 (show i < 2 ^ 31 by omega), nI_lt (show i < n by omega) (show n < 2 ^ 31 by omega), if_false, if_true, ainN (YY_txt hr6) (show i < 60 by omega) (by decide), n60, ainN (k := 39) (t := 0) rfl (show 60 * r + i < 240 by omega) (by decide), nI_clamp (show i < 2 ^ 31 by omega), nI_clamp (show 60 * r + i < 2 ^ 31 by omega)]
        refine ⟨mi u (10 + r) i + 1000, wi u (10 + r) i (vp_nar .byte (Int8.toInt32 (Int32.toInt8 v3))), wi (wi u (10 + r) i (vp_nar .byte (Int8.toInt32 (Int32.toInt8 v3)))) 39 (60 * r + i) (Int8.toInt32 (Int32.toInt8 v3)), rfl, ?_, ?_⟩
        · rw [xmi_ne (show 38 ≠ 10 + r by omega), ← e8, if_pos (nI_ge0 (by omega)), in5n (nI i) n (by omega), Option.bind_some]
          simp only [hi, and_self, if_true, ne10, if_false]
          rw [xmi_ne (show 39 ≠ 10 + r by omega), ← hrow i hi']
        · obtain ⟨h1, h2, h3, h4, h5⟩ := h
          have e : ∀ a, ¬ (10 ≤ a ∧ a ≤ 14 ∨ a = 39) → mi (wi (wi u (10 + r) i (vp_nar .byte (Int8.toInt32 (Int32.toInt8 v3)))) 39 (60 * r + i) (Int8.toInt32 (Int32.toInt8 v3))) a = mi u a := fun a ha => (xmi_ne (by omega)).trans (xmi_ne (by omega))
          refine ⟨h1.fr (fun a ha => e a (by omega)), fun r' hr' => ?_, h3.fr (e 34 (by omega)) (e 47 (by omega)) (by rw [e 0 (by omega)]) (by rw [e 35 (by omega)]), h4.fr (by rw [e 0 (by omega)]) (by rw [e 35 (by omega)]) rfl rfl, h5.fr (fun a ha => e a (by omega)) (by rw [e 35 (by omega)]) (by rw [e 35 (by omega)]) (by rw [e 35 (by omega)])⟩
          obtain ⟨g1, g2⟩ := h2 r' hr'
          refine ⟨?_, g2.imp (fun g2 => ?_) fun ⟨n', hn', hs', hq⟩ => ⟨n', hn', ?_, fun i' hi2 => ?_⟩⟩
          · (repeat first | rw [mi_wi] | rw [mi_wf] | rw [mi_wc]) <;> (repeat first | rw [if_neg (by omega)] | rw [if_pos (by omega)])
            exact g1
          · (repeat first | rw [mi_wi] | rw [mi_wf] | rw [mi_wc]) <;> (repeat first | rw [if_neg (by omega)] | rw [if_pos (by omega)])
            exact g2
          · (repeat first | rw [mi_wi] | rw [mi_wf] | rw [mi_wc]) <;> (repeat first | rw [if_neg (by omega)] | rw [if_pos (by omega)])
            exact hs'
          · by_cases hrr : r' = r ∧ i' = i
            · (repeat first | rw [mi_wi] | rw [mi_wf] | rw [mi_wc]) <;> (repeat first | rw [if_neg (by omega)] | rw [if_pos (by omega)])
              exact pk_vb _
            · (repeat first | rw [mi_wi] | rw [mi_wf] | rw [mi_wc]) <;> (repeat first | rw [if_neg (by omega)] | rw [if_pos (by omega)])
              exact hq i' hi2
      · have hc : ∀ X, (if v2 < 0 then (some ((-3 : Int32), fC u 2)) else if v2 < nI n then X else some (-3, fC u 2)) = some (-3, fC u 2) := fun X => by
          by_cases q : v2 < 0
          · rw [if_pos q]
          · rw [if_neg q, if_neg]
            rw [i_lt, e_0] at q
            rw [i_lt, nI_toInt (by omega)]
            omega
        refine ⟨-3, fC u 2, _, hc _, ?_, REL_found h (f := 2) (by decide)⟩
        rw [fC_ne u 2 38 (by decide) (by decide), ← e8, if_pos (nI_ge0 (by omega)), in5n v2 n (by omega), Option.bind_some]
        simp only [hi, if_false, if_true]
  · simp only [hr, if_false, if_true]
    exact ⟨_, _, _, rfl, rfl, h⟩
theorem ST_tear (v1 : Int32) (u : XM) (h : REL u) : PRI (F_X4_tear v1) (F_X5_tear v1) u := by
  unfold PRI F_X4_tear F_X5_tear
  simp only [isRow4, isRow5, Option.bind_some]
  by_cases hr : 0 ≤ v1.toInt ∧ v1.toInt < 6
  · obtain ⟨r, hr6, rfl⟩ := i_nat (n := 6) hr (by decide)
    obtain ⟨e8, hs⟩ := h.1 r hr6
    simp only [hr, and_self, if_true, ne10, if_false, fX4_1, fX5_1, Option.bind_some, ainN (k := 8) (t := 0) rfl hr6 (by decide), ainN (k := 36) (t := 0) rfl hr6 (by decide), nI_clamp (show r < 2 ^ 31 by omega)]
    rcases hs with hs | ⟨n, hn, hs, hrow⟩
    · rw [hs] at e8
      simp only [hs, if_true]
      refine ⟨_, _, _, rfl, ?_, REL_found h (f := 1) (by decide)⟩
      rw [fC_ne u 1 36 (by decide) (by decide), ← e8, if_neg m1_ge0]
    · rw [hs] at e8
      simp only [hs, n_neg (show n < 2 ^ 31 by omega), if_false]
      refine ⟨1, wi u 8 r (-1), wi (wi u 8 r (-1)) 36 r (-1), rfl, ?_, ?_⟩
      · rw [xmi_ne (show 36 ≠ 8 by decide), ← e8, if_pos (nI_ge0 (by omega))]
      · obtain ⟨h1, h2, h3, h4, h5⟩ := h
        have e : ∀ a, ¬ (a = 8 ∨ a = 36) → mi (wi (wi u 8 r (-1)) 36 r (-1)) a = mi u a := fun a ha => (xmi_ne (by omega)).trans (xmi_ne (by omega))
        refine ⟨fun r' hr' => ?_, h2.fr (fun a ha => e a (by omega)), h3.fr (e 34 (by omega)) (e 47 (by omega)) (by rw [e 0 (by omega)]) (by rw [e 35 (by omega)]), h4.fr (by rw [e 0 (by omega)]) (by rw [e 35 (by omega)]) rfl rfl, h5.fr (fun a ha => e a (by omega)) (by rw [e 35 (by omega)]) (by rw [e 35 (by omega)]) (by rw [e 35 (by omega)])⟩
        by_cases hrr : r' = r
        · subst hrr
          refine ⟨?_, Or.inl ?_⟩ <;> ((repeat first | rw [mi_wi] | rw [mi_wf] | rw [mi_wc]) <;> (repeat first | rw [if_neg (by omega)] | rw [if_pos (by omega)]))
        · obtain ⟨g1, g2⟩ := h1 r' hr'
          refine ⟨?_, g2.imp (fun g2 => ?_) fun ⟨n', hn', hs', hq⟩ => ⟨n', hn', ?_, fun i hi => ?_⟩⟩
          · (repeat first | rw [mi_wi] | rw [mi_wf] | rw [mi_wc]) <;> (repeat first | rw [if_neg (by omega)] | rw [if_pos (by omega)])
            exact g1
          · (repeat first | rw [mi_wi] | rw [mi_wf] | rw [mi_wc]) <;> (repeat first | rw [if_neg (by omega)] | rw [if_pos (by omega)])
            exact g2
          · (repeat first | rw [mi_wi] | rw [mi_wf] | rw [mi_wc]) <;> (repeat first | rw [if_neg (by omega)] | rw [if_pos (by omega)])
            exact hs'
          · (repeat first | rw [mi_wi] | rw [mi_wf] | rw [mi_wc]) <;> (repeat first | rw [if_neg (by omega)] | rw [if_pos (by omega)])
            exact hq i hi
  · simp only [hr, if_false, if_true]
    exact ⟨_, _, _, rfl, rfl, h⟩
