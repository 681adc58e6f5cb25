theorem lg_s {i n s : Nat} (hi : i < 2 ^ 31) (hn : n < 2 ^ 31) (hs : s < 2 ^ 31) : 0 < lg_cmp (Int32.toInt64 (nI i) + Int32.toInt64 (nI n)) (Int32.toInt64 (nI s)) ↔ s < i + n := by
  rw [lgc_pos, nI_l hi, nI_l hn, nI_l hs, lN_add, pk_lLT (by omega) (by omega)]
theorem copy5_bad {s s2 n : Nat} (hs : s ≤ 40) (hs2 : s2 ≤ 40) (hn : n < 2 ^ 31) (v2 v4 : Int32) (h : ¬ ((0 ≤ v2.toInt ∧ v2.toInt + n ≤ s) ∧ (0 ≤ v4.toInt ∧ v4.toInt + n ≤ s2))) {α : Type} (A B : α) : (if v2 < 0 then A else (if v4 < 0 then A else (if 0 < lg_cmp (Int32.toInt64 v2 + Int32.toInt64 (nI n)) (Int32.toInt64 (nI s)) then A else (if lg_cmp (Int32.toInt64 v4 + Int32.toInt64 (nI n)) (Int32.toInt64 (nI s2)) ≤ 0 then B else A)))) = A := by
  by_cases h1 : v2 < 0
  · rw [if_pos h1]
  · rw [if_neg h1]
    by_cases h2 : v4 < 0
    · rw [if_pos h2]
    · rw [if_neg h2]
      obtain ⟨i, hi, rfl⟩ := nI_of h1
      obtain ⟨j, hj, rfl⟩ := nI_of h2
      by_cases h3 : s < i + n
      · rw [if_pos ((lg_s hi hn (by omega)).mpr h3)]
      · rw [if_neg (fun q => h3 ((lg_s hi hn (by omega)).mp q)), if_neg]
        rw [Int32.not_le, lg_s hj hn (by omega)]
        rw [nI_toInt hi, nI_toInt hj] at h
        omega
theorem ST_copy (v1 v2 v3 v4 v5 : Int32) (u : XM) (h : REL u) : PRI (F_X4_copy v1 v2 v3 v4 v5) (F_X5_copy v1 v2 v3 v4 v5) u := by
  unfold PRI
  by_cases hr : 0 ≤ v1.toInt ∧ v1.toInt < 6
  · obtain ⟨r, hr6, rfl⟩ := i_nat (n := 6) hr (by decide)
    by_cases ht : 0 ≤ v3.toInt ∧ v3.toInt < 6
    · obtain ⟨t, ht6, rfl⟩ := i_nat (n := 6) ht (by decide)
      rw [copy4_if hr6 ht6]
      by_cases h5 : 0 ≤ v5
      · obtain ⟨n, hn, rfl⟩ := nI_of (Int32.not_lt.mpr h5)
        obtain ⟨er, hsr⟩ := h.1 r hr6
        obtain ⟨et, hst⟩ := h.1 t ht6
        rw [if_pos h5]
        rcases hsr with hsr | ⟨s, hs, hsr, hrow⟩
        · refine ⟨-3, fC u 1, _, by rw [if_pos hsr], ?_, REL_found h (f := 1) (by decide)⟩
          rw [copy5_if hr6 ht6, if_pos h5, fC_ne u 1 36 (by decide) (by decide), ← er, hsr, if_pos (by decide)]
        · rw [hsr] at er
          rw [hsr, if_neg (n_neg (by omega))]
          rcases hst with hst | ⟨s2, hs2, hst, hrow2⟩
          · refine ⟨-3, fC u 1, _, by rw [if_pos hst], ?_, REL_found h (f := 1) (by decide)⟩
            rw [copy5_if hr6 ht6, if_pos h5, fC_ne u 1 36 (by decide) (by decide), ← er, if_neg (nI_lt0 (by omega)), ← et, hst, if_neg m1_ge0]
          · rw [hst] at et
            rw [hst, if_neg (n_neg (by omega)), hasSpan4 hs hn]
            have B2 : ¬ ((0 ≤ v2.toInt ∧ v2.toInt + n ≤ s) ∧ (0 ≤ v4.toInt ∧ v4.toInt + n ≤ s2)) → F_X5_copy (nI r) v2 (nI t) v4 (nI n) (fC u 2) = some (-3, fM (fC u 2) 2) := fun q => by
              rw [copy5_if hr6 ht6, if_pos h5, fC_ne u 2 36 (by decide) (by decide), ← er, if_neg (nI_lt0 (by omega)), ← et, if_pos (nI_ge0 (by omega)), copy5_bad hs hs2 hn v2 v4 q]
            have A2 : F_X4_copy_84 u = some (-3, fC u 2) := by unfold F_X4_copy_84; rw [fX4_2]; rfl
            by_cases q1 : 0 ≤ v2.toInt ∧ v2.toInt + n ≤ s
            · rw [if_pos q1, bd1]
              show ∃ r' u1 u2, Option.bind (F_X4_hasSpan (mi u 8 t) v4 (nI n) u) _ = some (r', u1) ∧ _
              rw [hst, hasSpan4 hs2 hn]
              by_cases q2 : 0 ≤ v4.toInt ∧ v4.toInt + n ≤ s2
              · obtain ⟨i, hi, rfl⟩ := i_nat (v := v2) (n := s + 1) (by omega) (by omega)
                obtain ⟨j, hj, rfl⟩ := i_nat (v := v4) (n := s2 + 1) (by omega) (by omega)
                rw [nI_toInt (show i < 2 ^ 31 by omega)] at q1
                rw [nI_toInt (show j < 2 ^ 31 by omega)] at q2
                have q3 : 0 ≤ (nI j).toInt ∧ (nI j).toInt + n ≤ s2 := by rw [nI_toInt (show j < 2 ^ 31 by omega)]; exact q2
                rw [if_pos q3, bd1]
                have hin : i + n ≤ s := by omega
                have hjn : j + n ≤ s2 := by omega
                have ci : Int32.toNatClampNeg (nI i) = i := nI_clamp (by omega)
                have cj : Int32.toNatClampNeg (nI j) = j := nI_clamp (by omega)
                have cn : Int32.toNatClampNeg (nI n) = n := nI_clamp (by omega)
                rw [ci, cj, cn, if_pos ⟨nI_ge0 (by omega), nI_ge0 (by omega), h5, by omega, by omega⟩]
                refine ⟨1, wc u (2 + r) i (2 + t) j n, wc (wc u (2 + r) i (2 + t) j n) 37 (40 * r + i) 37 (40 * t + j) n, rfl, ?_, ?_⟩
                · rw [copy5_if hr6 ht6, if_pos h5, xmi_wcne (show 36 ≠ 2 + t by omega), ← er, if_neg (nI_lt0 (by omega)), ← et, if_pos (nI_ge0 (by omega)), if_neg (nI_lt0 (by omega)), if_neg (nI_lt0 (by omega)), if_neg (fun q => by rw [lg_s (by omega) hn (by omega)] at q; omega), if_pos (by rw [← Int32.not_lt, lg_s (by omega) hn (by omega)]; omega)]
                  exact copy5_l hr6 ht6 (by omega) (by omega) _
                · obtain ⟨h1, h2, h3, h4, h5'⟩ := h
                  have e : ∀ a, ¬ (2 ≤ a ∧ a ≤ 7 ∨ a = 37) → mi (wc (wc u (2 + r) i (2 + t) j n) 37 (40 * r + i) 37 (40 * t + j) n) a = mi u a := fun a ha => (xmi_wcne (by omega)).trans (xmi_wcne (by omega))
                  refine ⟨fun r' hr' => ?_, h2.fr (fun a ha => e a (by omega)), h3.fr (e 34 (by omega)) (e 47 (by omega)) (by rw [e 0 (by omega)]) (by rw [e 35 (by omega)]), h4.fr (by rw [e 0 (by omega)]) (by rw [e 35 (by omega)]) rfl rfl, h5'.fr (fun a ha => e a (by omega)) (by rw [e 35 (by omega)]) (by rw [e 35 (by omega)]) (by rw [e 35 (by omega)])⟩
                  rw [e 8 (by omega), e 36 (by omega)]
                  obtain ⟨g1, g2⟩ := h1 r' hr'
                  refine ⟨g1, g2.imp id fun ⟨n', hn', hs', hq⟩ => ⟨n', hn', hs', fun i' hi2 => ?_⟩⟩
                  rw [xmi_wcne (show 2 + r' ≠ 37 by omega), mi_wc, mi_wc, xmi_wcne (show 37 ≠ 2 + t by omega)]
                  by_cases hx : r' = t ∧ j ≤ i' ∧ i' < j + n
                  · rw [if_pos (by omega), if_pos (by omega), hrow (i + (i' - j)) (by omega)]
                    exact congrArg (mi u 37) (by omega)
                  · rw [if_neg (by omega), if_neg (by omega)]
                    exact hq i' hi2
              · refine ⟨-3, fC u 2, _, ?_, B2 (fun q => q2 q.2), REL_found h (f := 2) (by decide)⟩
                rw [if_neg q2, bd0]
                exact A2
            · refine ⟨-3, fC u 2, _, ?_, B2 (fun q => q1 q.1), REL_found h (f := 2) (by decide)⟩
              rw [if_neg q1, bd0]
              exact A2
      · refine ⟨-3, fC u 5, _, by rw [if_neg h5], ?_, REL_found h (f := 5) (by decide)⟩
        rw [copy5_if hr6 ht6, if_neg h5]
    · refine ⟨-1, u, u, ?_, ?_, h⟩
      · unfold F_X4_copy
        rw [isRow4, if_pos hr, bd1]
        show Option.bind (F_X4_isRow v3 u) _ = _
        rw [isRow4, if_neg ht]
        rfl
      · unfold F_X5_copy
        rw [isRow5, if_pos hr, bd1]
        show Option.bind (F_X5_isRow v3 u) _ = _
        rw [isRow5, if_neg ht]
        rfl
  · refine ⟨-1, u, u, ?_, ?_, h⟩
    · unfold F_X4_copy
      rw [isRow4, if_neg hr]
      rfl
    · unfold F_X5_copy
      rw [isRow5, if_neg hr]
      rfl
