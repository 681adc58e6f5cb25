theorem isKept4 (v : Int32) (u : XM) : F_X4_isKeptPlace v u = some (if 0 ≤ v.toInt ∧ v.toInt < 3 then 1 else 0, u) := by
  unfold F_X4_isKeptPlace
  have e3 : (3 : Int32).toInt = 3 := by decide
  by_cases h1 : v < 0
  · rw [if_pos h1, if_neg]; rw [i_lt, e_0] at h1; omega
  · rw [if_neg h1]
    by_cases h2 : 3 ≤ v
    · rw [if_pos h2, if_neg]; rw [i_le, e3] at h2; omega
    · rw [if_neg h2, if_pos]; rw [i_lt, e_0] at h1; rw [i_le, e3] at h2; omega
theorem in5_2 (v : Int32) (u : XM) : F_X5_in v.toInt64 0 2 u = some (if 0 ≤ v.toInt ∧ v.toInt < 3 then 1 else 0, u) := in5i v 0 2 u (lo := 0) (hi := 3) (by decide) (by decide)
theorem c0 : Int32.toNatClampNeg 0 = 0 := by decide
theorem c40 : Int32.toNatClampNeg 40 = 40 := by decide
theorem n329 (k c : Nat) : (329 : Int32) * nI k + nI c = nI (329 * k + c) := by rw [show (329 : Int32) = nI 329 from rfl, pk_mul, nI_add]
theorem n329' (k : Nat) : (329 : Int32) * nI k = nI (329 * k) := by rw [show (329 : Int32) = nI 329 from rfl, pk_mul]
theorem snap.of {u v : XM} {a b a' b' : Nat} {P : CP} {S : PS} (hP : okP P) (h : snap u a b P S) (e : ∀ i, i < 8 → mi v a' (b' + i) = mi u a (b + i)) : snap v a' b' P S := by
  have hT := hP.1
  exact ⟨fun i hi => by rw [e i (by omega)]; exact h.1 i hi, by rw [e 6 (by decide)]; exact h.2.1, by rw [e 7 (by decide)]; exact h.2.2⟩
theorem ST_keep (v1 : Int32) (u : XM) (h : REL u) : PRI (F_X4_keep v1) (F_X5_keep v1) u := by
  have hh := h
  obtain ⟨h1, h2, h3, h4, P, s0, ds, n, g1, g2, g3, g4, g5, g6, g7, g8, g9⟩ := h
  have hT := g1.1
  have hn := g4.1
  unfold PRI F_X4_keep F_X5_keep
  rw [isKept4]
  by_cases hv : 0 ≤ v1.toInt ∧ v1.toInt < 3
  · obtain ⟨k, hk, rfl⟩ := i_nat (v := v1) (n := 3) hv (by decide)
    rw [if_pos hv, bd1]
    show ∃ r u1 u2, (if mi u 22 6 = 0 then some (-4, u) else _) = some (r, u1) ∧ _
    rw [g5.1]
    by_cases h0 : pT P = 0
    · refine ⟨-4, u, u, by rw [h0]; rfl, ?_, hh⟩
      rw [in5_2, if_pos hv, bd1]
      show (if mi u 35 4 = 0 then some (-4, u) else _) = _
      rw [g6.1, h0]
      rfl
    · rw [if_neg (nI_ne0 (by omega) (by omega)), if_pos (ainN rfl hk (by decide)), show alen YY 0 28 = some 40 from alenN rfl, nI_clamp (by omega), show alen YY 0 (16 + k) = some 40 from alenN (YY_kd hk), Option.bind_some, Option.bind_some, c0, c40, if_pos (by decide), if_pos (ainN rfl hk (by decide))]
      show ∃ r u1 u2, some (mi (wi (wc u 28 0 (16 + k) 0 40) 19 k (mi (wc u 28 0 (16 + k) 0 40) 22 11)) 22 11, wi (wc u 28 0 (16 + k) 0 40) 19 k (mi (wc u 28 0 (16 + k) 0 40) 22 11)) = some (r, u1) ∧ _
      have e11 : mi (wc u 28 0 (16 + k) 0 40) 22 11 = nI n := by rw [xmi_wcne (by omega)]; exact g7.2.2.1
      rw [e11, show mi (wi (wc u 28 0 (16 + k) 0 40) 19 k (nI n)) 22 11 = nI n from by rw [xmi_ne (by decide)]; exact e11]
      -- the class' memory
      generalize hv1 : wi (wc u 28 0 (16 + k) 0 40) 19 k (nI n) = v
      have ev : ∀ a, a ≠ 19 → a ≠ 16 + k → mi v a = mi u a := fun a ha hb => by rw [← hv1, xmi_ne ha, xmi_wcne hb]
      have ev19 : ∀ b, mi v 19 b = if b = k then nI n else mi u 19 b := fun b => by
        rw [← hv1, mi_wi]
        by_cases q : b = k
        · rw [if_pos ⟨rfl, q⟩, if_pos q]
        · rw [if_neg (fun z => q z.2), if_neg q, xmi_wcne (by omega)]
      have evk : ∀ b, b < 40 → mi v (16 + k) b = mi u 28 b := fun b hb => by
        rw [← hv1, xmi_ne (by omega), mi_wc, if_pos ⟨rfl, by omega⟩, show 0 + (b - 0) = b by omega]
      have evl : ml v = ml u := by rw [← hv1]; rfl
      have k35 : mi v 35 = mi u 35 := ev 35 (by decide) (by omega)
      -- the reference's memory
      refine ⟨nI n, v, wi (wi (wc (wc v 43 0 45 (329 * k) 8) 44 0 45 (329 * k + 8) 320) 45 (329 * k + 328) (nI n)) 46 k 1, rfl, ?_, ?_⟩
      · rw [in5_2, if_pos hv, bd1]
        show (if mi v 35 4 = 0 then some (-4, v) else _) = _
        rw [k35, g6.1, if_neg (nI_ne0 (by omega) (by omega)), n329', show (0 : Int32) = nI 0 from rfl, show F_X5_copies 43 (nI 0) 45 (nI (329 * k)) 8 ((1 : Int32), v).2 = some ((), wc v 43 0 45 (329 * k) 8) from copies5 (m := 8) (by decide) rfl rfl (show 0 + 8 ≤ 8 by decide) (show 329 * k + 8 ≤ 987 by omega) (by decide) (by decide) (by decide) v, Option.bind_some]
        rw [show nI (329 * k) + 8 = nI (329 * k + 8) from nI_add _ 8, show F_X5_copies 44 (nI 0) 45 (nI (329 * k + 8)) 320 ((), wc v 43 0 45 (329 * k) 8).2 = some ((), wc (wc v 43 0 45 (329 * k) 8) 44 0 45 (329 * k + 8) 320) from copies5 (m := 320) (by decide) rfl rfl (show 0 + 320 ≤ 320 by decide) (show 329 * k + 8 + 320 ≤ 987 by omega) (by decide) (by decide) (by decide) _, Option.bind_some]
        rw [show nI (329 * k) + 328 = nI (329 * k + 328) from nI_add _ 328, if_pos (ainN rfl (show 329 * k + 328 < 987 by omega) (by decide)), if_pos (ainN rfl hk (by decide)), nI_clamp (by omega)]
        have e10 : mi (wc (wc v 43 0 45 (329 * k) 8) 44 0 45 (329 * k + 8) 320) 35 10 = nI n := by rw [xmi_wcne (by decide), xmi_wcne (by decide), k35]; exact g8.1
        show some (mi (wi (wi _ 45 (329 * k + 328) (mi (wc (wc v 43 0 45 (329 * k) 8) 44 0 45 (329 * k + 8) 320) 35 10)) 46 k (vp_nar .boolean 1)) 35 10, _) = _
        rw [show mi (wi (wi (wc (wc v 43 0 45 (329 * k) 8) 44 0 45 (329 * k + 8) 320) 45 (329 * k + 328) (mi (wc (wc v 43 0 45 (329 * k) 8) 44 0 45 (329 * k + 8) 320) 35 10)) 46 k (vp_nar .boolean 1)) 35 10 = nI n from by rw [xmi_ne (by decide), xmi_ne (by decide)]; exact e10, e10, show vp_nar .boolean 1 = 1 from by decide]
      · generalize hw1 : wi (wi (wc (wc v 43 0 45 (329 * k) 8) 44 0 45 (329 * k + 8) 320) 45 (329 * k + 328) (nI n)) 46 k 1 = w
        have ew : ∀ a, a ≠ 45 → a ≠ 46 → mi w a = mi v a := fun a ha hb => by rw [← hw1, xmi_ne hb, xmi_ne ha, xmi_wcne ha, xmi_wcne ha]
        have ew46 : ∀ b, mi w 46 b = if b = k then 1 else mi v 46 b := fun b => by
          rw [← hw1, mi_wi]
          by_cases q : b = k
          · rw [if_pos ⟨rfl, q⟩, if_pos q]
          · rw [if_neg (fun z => q z.2), if_neg q, xmi_ne (by decide), xmi_wcne (by decide), xmi_wcne (by decide)]
        have ew45 : ∀ b, mi w 45 b = if b = 329 * k + 328 then nI n else if 329 * k + 8 ≤ b ∧ b < 329 * k + 8 + 320 then mi v 44 (b - (329 * k + 8)) else if 329 * k ≤ b ∧ b < 329 * k + 8 then mi v 43 (b - 329 * k) else mi v 45 b := fun b => by
          rw [← hw1, xmi_ne (by decide), mi_wi]
          by_cases q : b = 329 * k + 328
          · rw [if_pos ⟨rfl, q⟩, if_pos q]
          · rw [if_neg (fun z => q z.2), if_neg q, mi_wc]
            by_cases q2 : 329 * k + 8 ≤ b ∧ b < 329 * k + 8 + 320
            · rw [if_pos ⟨rfl, q2⟩, if_pos q2, xmi_wcne (by decide), show 0 + (b - (329 * k + 8)) = b - (329 * k + 8) by omega]
            · rw [if_neg (fun z => q2 z.2), if_neg q2, mi_wc]
              by_cases q3 : 329 * k ≤ b ∧ b < 329 * k + 8
              · rw [if_pos ⟨rfl, q3⟩, if_pos q3, show 0 + (b - 329 * k) = b - 329 * k by omega]
              · rw [if_neg (fun z => q3 z.2), if_neg q3]
        have ewl : ml w = ml u := by rw [← hw1]; exact evl
        have e : ∀ a, ¬ (16 ≤ a ∧ a ≤ 19 ∨ a = 45 ∨ a = 46) → mi w a = mi u a := fun a ha => (ew a (by omega) (by omega)).trans (ev a (by omega) (by omega))
        refine ⟨h1.fr (fun a ha => e a (by omega)), h2.fr (fun a ha => e a (by omega)), h3.fr (e 34 (by omega)) (e 47 (by omega)) (by rw [e 0 (by omega)]) (by rw [e 35 (by omega)]), h4.fr (by rw [e 0 (by omega)]) (by rw [e 35 (by omega)]) (by rw [ewl]) (by rw [ewl]), P, s0, ds, n, g1, g2, g3, g4, ?_, ?_, ?_, ?_, fun k' hk' => ?_⟩
        · unfold curC
          rw [e 22 (by omega), e 23 (by omega), e 26 (by omega), e 27 (by omega), e 25 (by omega)]; exact g5
        · unfold curM
          rw [e 35 (by omega), e 43 (by omega), e 40 (by omega), e 41 (by omega), e 42 (by omega)]; exact g6
        · unfold hisC
          rw [e 24 (by omega), e 22 (by omega), e 28 (by omega)]; exact g7
        · unfold hisM snap
          rw [e 35 (by omega), e 44 (by omega)]; exact g8
        · by_cases hkk : k' = k
          · subst hkk
            refine Or.inr ⟨ds, n, g4, ?_, ?_, fun j hj => ?_, ?_, ?_, fun j hj => ?_⟩
            · rw [ew 19 (by decide) (by decide), ev19, if_pos rfl]
            · rw [ew46, if_pos rfl]
            · rw [ew (16 + k') (by omega) (by omega), evk j (by omega)]; exact g7.2.2.2 j hj
            · rw [ew45, if_pos rfl]
            · have hs : snap u 43 0 P (sq P s0 ds n) := ⟨fun i hi => by rw [Nat.zero_add]; exact (g6.2.2.2.2 i hi).2.2.2, g6.2.2.1, g6.2.2.2.1⟩
              refine hs.of g1 (fun i hi => ?_)
              rw [ew45, if_neg (by omega), if_neg (by omega), if_pos (by omega), ev 43 (by decide) (by omega), show 329 * k' + i - 329 * k' = 0 + i by omega]
            · refine (g8.2 j hj).of g1 (fun i hi => ?_)
              rw [ew45, if_neg (by omega), if_pos (by omega), ev 44 (by decide) (by omega), show 329 * k' + 8 + 8 * j + i - (329 * k' + 8) = 8 * j + i by omega]
          · have := g9 k' hk'
            unfold kep at this ⊢
            rw [ew 19 (by decide) (by decide), ev19, if_neg hkk, ew46, if_neg hkk, ev 46 (by decide) (by omega), ew (16 + k') (by omega) (by omega), ev (16 + k') (by omega) (by omega)]
            have e45 : ∀ b, 329 * k' ≤ b → b < 329 * k' + 329 → mi w 45 b = mi u 45 b := fun b q1 q2 => by
              rw [ew45, if_neg (by omega), if_neg (by omega), if_neg (by omega), ev 45 (by decide) (by omega)]
            refine this.imp id fun ⟨ds', n', q1, q2, q3, q4, q5, q6, q7⟩ => ⟨ds', n', q1, q2, q3, q4, ?_, q6.of g1 (fun i hi => e45 _ (by omega) (by omega)), fun j hj => (q7 j hj).of g1 (fun i hi => e45 _ (by omega) (by have := q1.1; omega))⟩
            rw [e45 _ (by omega) (by omega)]; exact q5
  · refine ⟨-1, u, u, ?_, ?_, hh⟩
    · rw [if_neg hv]; rfl
    · rw [in5_2, if_neg hv]; rfl
