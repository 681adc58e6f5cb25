theorem ST_on (v1 : Int32) (u : XM) (h : REL u) : PRI (F_X4_on v1) (F_X5_on v1) u := by
  have hh := h
  obtain ⟨h1, h2, h3, h4, P, s0, ds, n, g1, g2, g3, g4, g5, g6, g7, g8, g9⟩ := h
  have hT := g1.1
  unfold PRI F_X4_on F_X5_on
  rw [isKept4]
  by_cases hv : 0 ≤ v1.toInt ∧ v1.toInt < 3
  · obtain ⟨k, hk, rfl⟩ := i_nat (v := v1) (n := 3) hv (by decide)
    rw [if_pos hv, bd1, if_pos (ainN rfl hk (by decide)), nI_clamp (by omega)]
    show ∃ r u1 u2, (if mi u 19 k = -1 then Option.bind (F_X4_found 1 u) _ else _) = some (r, u1) ∧ _
    rcases g9 k hk with ⟨q1, q2⟩ | ⟨ds', n', q0, q1, q2, q3, q4, q5, q6⟩
    · rw [q1, if_pos rfl, fX4_1, Option.bind_some]
      refine ⟨-3, fC u 1, fM (fC u 1) 1, rfl, ?_, REL_found hh (by decide)⟩
      rw [in5_2, if_pos hv, bd1, if_pos (ainN rfl hk (by decide))]
      show (if mi (fC u 1) 46 k = 0 then Option.bind (F_X5_found 1 (fC u 1)) _ else _) = _
      rw [fC_ne u 1 46 (by decide) (by decide), q2, if_pos rfl, fX5_1]
      rfl
    · have hn' := q0.1
      rw [q1, if_neg (n_neg (by omega)), if_pos (ainN rfl hk (by decide)), show alen YY 0 (16 + k) = some 40 from alenN (YY_kd hk), show alen YY 0 28 = some 40 from alenN rfl, Option.bind_some, Option.bind_some, c0, c40, if_pos (by decide), if_pos (ainN rfl hk (by decide))]
      show ∃ r u1 u2, Option.bind (F_X0_replay (mi (wc u (16 + k) 0 28 0 40) 19 k) (wc u (16 + k) 0 28 0 40)) _ = some (r, u1) ∧ _
      rw [xmi_wcne (show 19 ≠ 28 by decide), q1]
      have hC1 : curC (wc u (16 + k) 0 28 0 40) P (sq P s0 ds n) := by
        unfold curC
        rw [xmi_wcne (show 22 ≠ 28 by decide), xmi_wcne (show 23 ≠ 28 by decide), xmi_wcne (show 26 ≠ 28 by decide), xmi_wcne (show 27 ≠ 28 by decide), xmi_wcne (show 25 ≠ 28 by decide)]
        exact g5
      obtain ⟨v, a1, a2, a3, a4, a5⟩ := replay4 (u := wc u (16 + k) 0 28 0 40) g1 g2 g3 q0 hC1 (fun i hi => by rw [xmi_wcne (by decide)]; exact g7.1 i hi) (by rw [xmi_wcne (by decide)]; exact g7.2.1) (fun i hi => by rw [mi_wc, if_pos ⟨rfl, by omega⟩, show 0 + (i - 0) = i by omega]; exact q3 i hi)
      have ev : ∀ a, a ≠ 22 → a ≠ 25 → a ≠ 28 → mi v a = mi u a := fun a p1 p2 p3 => (a4 a p1 p2).trans (xmi_wcne p3)
      have k35 : mi v 35 = mi u 35 := ev 35 (by decide) (by decide) (by decide)
      have k45 : mi v 45 = mi u 45 := ev 45 (by decide) (by decide) (by decide)
      rw [a1, Option.bind_some]
      refine ⟨nI n', v, wi (wc (wc v 45 (329 * k) 43 0 8) 45 (329 * k + 8) 44 0 320) 35 10 (nI n'), ?_, ?_, ?_⟩
      · show some (mi v 22 11, v) = _
        rw [a3.2.2.1]
      · rw [in5_2, if_pos hv, bd1, if_pos (ainN rfl hk (by decide))]
        show (if mi v 46 k = 0 then _ else _) = _
        rw [ev 46 (by decide) (by decide) (by decide), q2, if_neg ne10, n329', show (0 : Int32) = nI 0 from rfl, show F_X5_copies 45 (nI (329 * k)) 43 (nI 0) 8 ((1 : Int32), v).2 = some ((), wc v 45 (329 * k) 43 0 8) from copies5 (m := 8) (by decide) rfl rfl (show 329 * k + 8 ≤ 987 by omega) (show 0 + 8 ≤ 8 by decide) (by decide) (by decide) (by decide) v, Option.bind_some]
        rw [show nI (329 * k) + 8 = nI (329 * k + 8) from nI_add _ 8, show F_X5_copies 45 (nI (329 * k + 8)) 44 (nI 0) 320 ((), wc v 45 (329 * k) 43 0 8).2 = some ((), wc (wc v 45 (329 * k) 43 0 8) 45 (329 * k + 8) 44 0 320) from copies5 (m := 320) (by decide) rfl rfl (show 329 * k + 8 + 320 ≤ 987 by omega) (show 0 + 320 ≤ 320 by decide) (by decide) (by decide) (by decide) _, Option.bind_some]
        rw [show nI (329 * k) + 328 = nI (329 * k + 328) from nI_add _ 328, if_pos (ainN rfl (show 329 * k + 328 < 987 by omega) (by decide)), nI_clamp (by omega)]
        have e45 : mi (wc (wc v 45 (329 * k) 43 0 8) 45 (329 * k + 8) 44 0 320) 45 (329 * k + 328) = nI n' := by rw [xmi_wcne (by decide), xmi_wcne (by decide), k45]; exact q4
        show some (mi (wi _ 35 10 (mi (wc (wc v 45 (329 * k) 43 0 8) 45 (329 * k + 8) 44 0 320) 45 (329 * k + 328))) 35 10, wi _ 35 10 (mi (wc (wc v 45 (329 * k) 43 0 8) 45 (329 * k + 8) 44 0 320) 45 (329 * k + 328))) = _
        rw [e45]
        rfl
      · generalize hw1 : wi (wc (wc v 45 (329 * k) 43 0 8) 45 (329 * k + 8) 44 0 320) 35 10 (nI n') = w
        have ew : ∀ a, a ≠ 35 → a ≠ 43 → a ≠ 44 → mi w a = mi v a := fun a p1 p2 p3 => by rw [← hw1, xmi_ne p1, xmi_wcne p3, xmi_wcne p2]
        have ew35 : ∀ b, mi w 35 b = if b = 10 then nI n' else mi u 35 b := fun b => by
          rw [← hw1, mi_wi]
          by_cases q : b = 10
          · rw [if_pos ⟨rfl, q⟩, if_pos q]
          · rw [if_neg (fun z => q z.2), if_neg q, xmi_wcne (by decide), xmi_wcne (by decide), k35]
        have ew43 : ∀ b, b < 8 → mi w 43 b = mi u 45 (329 * k + b) := fun b hb => by
          rw [← hw1, xmi_ne (by decide), xmi_wcne (by decide), mi_wc, if_pos ⟨rfl, by omega⟩, show 329 * k + (b - 0) = 329 * k + b by omega, k45]
        have ew44 : ∀ b, b < 320 → mi w 44 b = mi u 45 (329 * k + 8 + b) := fun b hb => by
          rw [← hw1, xmi_ne (by decide), mi_wc, if_pos ⟨rfl, by omega⟩, xmi_wcne (by decide), show 329 * k + 8 + (b - 0) = 329 * k + 8 + b by omega, k45]
        have ewl : ml w = ml u := by rw [← hw1]; exact a5
        have e : ∀ a, ¬ (a = 22 ∨ a = 25 ∨ a = 28 ∨ a = 35 ∨ a = 43 ∨ a = 44) → mi w a = mi u a := fun a ha => (ew a (by omega) (by omega) (by omega)).trans (ev a (by omega) (by omega) (by omega))
        have e35 : ∀ b, b ≠ 10 → mi w 35 b = mi u 35 b := fun b hb => by rw [ew35, if_neg hb]
        refine ⟨h1.fr (fun a ha => e a (by omega)), h2.fr (fun a ha => e a (by omega)), h3.fr (e 34 (by omega)) (e 47 (by omega)) (by rw [e 0 (by omega)]) (e35 17 (by omega)), h4.fr (by rw [e 0 (by omega)]) (e35 14 (by omega)) (by rw [ewl]) (by rw [ewl]), P, s0, ds', n', g1, g2, g3, q0, ?_, ?_, ?_, ⟨by rw [ew35, if_pos rfl], fun j hj => ?_⟩, fun k' hk' => ?_⟩
        · unfold curC
          rw [ew 22 (by decide) (by decide) (by decide), ew 23 (by decide) (by decide) (by decide), ew 26 (by decide) (by decide) (by decide), ew 27 (by decide) (by decide) (by decide), ew 25 (by decide) (by decide) (by decide)]
          exact a2
        · refine ⟨by rw [e35 4 (by decide)]; exact g6.1, by rw [e35 5 (by decide)]; exact g6.2.1, by rw [ew43 6 (by decide)]; exact q5.2.1, by rw [ew43 7 (by decide)]; exact q5.2.2, fun i hi => ?_⟩
          obtain ⟨d1, d2, d3, d4⟩ := g6.2.2.2.2 i hi
          refine ⟨by rw [e 40 (by omega)]; exact d1, by rw [e 41 (by omega)]; exact d2, by rw [e 42 (by omega)]; exact d3, ?_⟩
          rw [ew43 i (by omega)]
          exact q5.1 i hi
        · unfold hisC
          rw [ew 24 (by decide) (by decide) (by decide), ew 22 (by decide) (by decide) (by decide), ew 28 (by decide) (by decide) (by decide)]
          exact a3
        · refine (q6 j hj).of g1 (fun i hi => ?_)
          rw [ew44 _ (by omega), show 329 * k + 8 + (8 * j + i) = 329 * k + 8 + 8 * j + i by omega]
        · have := g9 k' hk'
          unfold kep snap at this ⊢
          rw [e 19 (by omega), e 46 (by omega), e (16 + k') (by omega), e 45 (by omega)]
          exact this
  · refine ⟨-1, u, u, ?_, ?_, hh⟩
    · rw [if_neg hv]; rfl
    · rw [in5_2, if_neg hv]; rfl
