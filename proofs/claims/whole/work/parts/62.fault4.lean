/-! ===== fault ===== -/
theorem firstFault4 {t n : Nat} (ht : t < 4) (hn : n ≤ 60) (u : XM) : F_X3_firstFault (10 + t) (nI n) u = some ((ps (mi u (10 + t)) n n 0 0 0 (mi u 21)).1, u1C u (ps (mi u (10 + t)) n n 0 0 0 (mi u 21))) := by
  have := ff_l ht hn u n 0 0 0 (mi u 21) (by omega) (by omega) (by omega) (by omega) FU (show n < 1000 by omega)
  rw [st_0] at this
  exact this
theorem eqr_st (u : XM) (sd : Nat → Int32) : EQR u (st21 u sd) := ⟨fun a ha => xmi_st (by omega), by rw [xmi_st (by decide)], by rw [xmi_st (by decide)], rfl, by rw [xmi_st (by decide)], by rw [xmi_st (by decide)], by rw [xmi_st (by decide)], by rw [xmi_st (by decide)], by rw [xmi_st (by decide)], rfl⟩
theorem eqr_u1C (u : XM) (R : PR) : EQR u (u1C u R) := by
  unfold u1C
  by_cases h : R.1 = -9
  · rw [if_pos h]
    exact EQR.wi (eqr_st u R.2.2) 20 1 _ (by omega) (by omega) (by omega)
  · rw [if_neg h]
    exact eqr_st u R.2.2
theorem tx_of {u v : XM} {t n : Nat} (h : RTXT u) (ht : t < 4) (hn : n ≤ 60) (g : mi u 14 t = nI n) (g3 : ∀ i, i < n → mi u (10 + t) i = mi u 39 (60 * t + i)) (e1 : mi v 38 = mi u 38) (e2 : mi v 39 = mi u 39) : TX v t n (mi u (10 + t)) :=
  ⟨ht, hn, by rw [e1, ← (h t ht).1, g], fun j hj => by rw [e2]; exact (g3 j hj).symm⟩
theorem ST_fault (v1 : Int32) (u : XM) (h : REL u) : PRI (F_X4_fault v1) (F_X5_fault v1) u := by
  unfold PRI F_X4_fault F_X5_fault
  rw [isText4]
  by_cases hv : 0 ≤ v1.toInt ∧ v1.toInt < 4
  · obtain ⟨t, ht, rfl⟩ := i_nat (v := v1) (n := 4) hv (by decide)
    rw [if_pos hv, bd1, if_pos (ainN rfl ht (by decide)), nI_clamp (by omega)]
    show ∃ r u1 u2, (if mi u 14 t = -1 then Option.bind (F_X4_found 1 u) (fun x3 => some (x3.1, x3.2)) else (if ain YY 4 9 (nI t) = true then (if ain YY 0 14 (nI t) = true then Option.bind (F_X3_firstFault (10 + t) (mi u 14 t) u) (fun x2 => some (x2.1, x2.2)) else none) else none)) = some (r, u1) ∧ _
    obtain ⟨g1, g2⟩ := h.2.1 t ht
    rcases g2 with g2 | ⟨n, hn, g2, g3⟩
    · rw [g2, if_pos rfl, fX4_1, Option.bind_some]
      refine ⟨-3, fC u 1, fM (fC u 1) 1, rfl, ?_, REL_found h (by decide)⟩
      rw [isText5, if_pos hv, bd1, if_pos (ainN rfl ht (by decide))]
      show (if 0 ≤ mi (fC u 1) 38 t then _ else Option.bind (F_X5_found 1 (fC u 1)) _) = _
      rw [fC_ne u 1 38 (by decide) (by decide), ← g1, g2, if_neg m1_ge0, fX5_1]
      rfl
    · rw [g2, if_neg (n_neg (by omega)), if_pos (ainN rfl ht (by decide)), if_pos (ainN rfl ht (by decide)), firstFault4 ht hn, Option.bind_some]
      have hx : ∀ R, TX (u1C u R) t n (mi u (10 + t)) := fun R => tx_of h.2.1 ht hn g2 g3 ((eqr_u1C u R).1 38 (by omega)) ((eqr_u1C u R).1 39 (by omega))
      obtain ⟨w, e1, e2, -⟩ := faultOf5 (hx (ps (mi u (10 + t)) n n 0 0 0 (mi u 21))) (mi u 21)
      generalize ps (mi u (10 + t)) n n 0 0 0 (mi u 21) = R at e1 e2
      refine ⟨R.1, u1C u R, w, rfl, ?_, (h.eqr (eqr_u1C u R)).eqr e2⟩
      rw [isText5, if_pos hv, bd1, if_pos (ainN rfl ht (by decide))]
      show (if 0 ≤ mi (u1C u R) 38 t then Option.bind (F_X5_faultOf (nI t) (u1C u R)) (fun x2 => some (x2.1, x2.2)) else _) = _
      rw [(hx R).2.2.1, if_pos (nI_ge0 (by omega)), e1]
      rfl
  · refine ⟨-1, u, u, ?_, ?_, h⟩
    · rw [if_neg hv]; rfl
    · rw [isText5, if_neg hv]; rfl
