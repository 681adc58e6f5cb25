theorem hab_0 (e : Nat) (he : e < 6) : nI e = -9 ↔ (fun _ : Nat => false) e = true := ⟨fun z => absurd z (n_neg9 (by omega)), fun z => absurd z Bool.false_ne_true⟩
theorem hab_1 {k : Nat} (hk : k < 6) (e : Nat) (he : e < 6) : nI e = nI k ↔ (fun j : Nat => decide (j = k)) e = true := ⟨fun z => decide_eq_true (n_inj z (by omega) (by omega)), fun z => by rw [of_decide_eq_true z]⟩
theorem ST_home (v1 : Int32) (u : XM) (h : REL u) : PRI (F_X4_home v1) (F_X5_home v1) u := by
  obtain ⟨P, S, hP, hS, hy, hC, hM⟩ := h.cur
  have hT := hP.1
  unfold PRI F_X4_home F_X5_home
  rw [has4 hC hP]
  by_cases hi : 0 ≤ v1.toInt ∧ v1.toInt < pT P
  · obtain ⟨i, hi', rfl⟩ := i_nat (n := pT P) hi (by omega)
    have b1 : F_X5_isThing (nI i) u = some (1, u) := by rw [isThing5 hM hP, if_pos hi]
    rw [if_pos hi, bd1]
    show ∃ r u1 u2, Option.bind (F_X0_isTaken (nI i) u) _ = _ ∧ _
    rw [isTaken4 hC hP hS hi']
    by_cases h8 : S.1 i = 8
    · refine ⟨-4, u, u, by rw [if_pos h8]; rfl, ?_, h⟩
      rw [b1, bd1]
      show Option.bind (F_X5_isTaken (nI i) u) _ = _
      rw [isTaken5 hM hP hS hi', if_pos h8]
      rfl
    · have h7 : S.1 i ≤ 7 := by have := hS.1 i hi'; omega
      rw [if_neg h8, bd0]
      show ∃ r u1 u2, Option.bind (F_X4_stepsHome (nI i) (-9) u) _ = _ ∧ _
      rw [stepsHome4 hC hP hS hi' h7 hab_0, Option.bind_some]
      refine ⟨_, u, sl u 53 (hmL P S i (fun _ => false)), rfl, ?_, h.eqr (EQR_sl53 u _)⟩
      rw [b1, bd1]
      show Option.bind (F_X5_isTaken (nI i) u) _ = _
      rw [isTaken5 hM hP hS hi', if_neg h8, bd0]
      show Option.bind (F_X5_homeBut (nI i) 0 u) _ = _
      rw [homeBut5 hM hP hS hi' h7 (fun e he => has5_0 e he u), Option.bind_some]
  · refine ⟨-1, u, u, by rw [if_neg hi]; rfl, ?_, h⟩
    rw [isThing5 hM hP, if_neg hi]
    rfl
def stq (P : CP) (S : PS) (i e : Nat) : Bool := decide (e ≠ i ∧ S.1 e ≠ 8 ∧ hmA P S i (fun j => decide (j = e)) ≠ -9)
theorem stops4_l {u : XM} {P : CP} {S : PS} (hC : curC u P S) (hP : okP P) (hS : okS P S) {i : Nat} (hi : i < pT P) (h7 : S.1 i ≤ 7) : ∀ (m e : Nat) (acc : Int32), e + m = pT P → ∀ fuel, m < fuel → F_X4_stops_45 fuel (nI i) acc (nI e) u = some (sb (stq P S i) e m acc, u)
  | 0, e, acc, he, fuel + 1, _ => by
    have hT := hP.1
    rw [F_X4_stops_45, hC.1, if_pos (nI_le (by omega) (by omega))]
    rfl
  | m + 1, e, acc, he, fuel + 1, hf => by
    have hT := hP.1
    have ih := fun a => stops4_l hC hP hS hi h7 m (e + 1) a (by omega) fuel (by omega)
    have hq : stq P S i e = true ↔ e ≠ i ∧ S.1 e ≠ 8 ∧ hmA P S i (fun j => decide (j = e)) ≠ -9 := decide_eq_true_iff
    rw [F_X4_stops_45, hC.1, if_neg (nI_ge (by omega) (by omega))]
    unfold F_X4_stops_89 sb
    by_cases q1 : e = i
    · rw [if_pos (show nI e = nI i by rw [q1]), nI_1, ih, if_neg (fun z => (hq.mp z).1 q1)]
    · rw [if_neg (show ¬ nI e = nI i from fun z => q1 (n_inj z (by omega) (by omega))), isTaken4 hC hP hS (show e < pT P by omega)]
      by_cases q3 : S.1 e = 8
      · rw [if_pos q3, bd1, nI_1, if_neg (fun z => (hq.mp z).2.1 q3)]
        exact ih acc
      · rw [if_neg q3, bd0]
        show Option.bind (F_X4_stepsHome (nI i) (nI e) u) _ = _
        rw [stepsHome4 hC hP hS hi h7 (hab_1 (show e < 6 by omega)), Option.bind_some]
        generalize hmA P S i (fun j => decide (j = e)) = x at hq ⊢
        show (if x = -9 then F_X4_stops_45 fuel (nI i) acc (nI e + 1) u else F_X4_stops_45 fuel (nI i) (acc ||| ((1 : Int32) <<< (nI e &&& 31))) (nI e + 1) u) = _
        rw [nI_1, ih, ih]
        by_cases q2 : x = -9
        · rw [if_pos q2, if_neg (fun z => (hq.mp z).2.2 q2)]
        · rw [if_neg q2, if_pos (hq.mpr ⟨q1, q3, q2⟩)]
theorem stops5_l {P : CP} {S : PS} (hP : okP P) (hS : okS P S) {i : Nat} (hi : i < pT P) (h7 : S.1 i ≤ 7) : ∀ (m e : Nat) (acc : Int32) (u : XM), e + m = pT P → curM u P S → ∀ fuel, m < fuel → ∃ w, F_X5_stops_38 fuel (nI i) acc (nI e) u = some (sb (stq P S i) e m acc, w) ∧ EQR u w
  | 0, e, acc, u, he, hM, fuel + 1, _ => by
    have hT := hP.1
    refine ⟨u, ?_, EQR.rf u⟩
    rw [F_X5_stops_38, hM.1, if_pos (nI_le (by omega) (by omega))]
    rfl
  | m + 1, e, acc, u, he, hM, fuel + 1, hf => by
    have hT := hP.1
    have ih := fun a u hM => stops5_l hP hS hi h7 m (e + 1) a u (by omega) hM fuel (by omega)
    have hq : stq P S i e = true ↔ e ≠ i ∧ S.1 e ≠ 8 ∧ hmA P S i (fun j => decide (j = e)) ≠ -9 := decide_eq_true_iff
    rw [F_X5_stops_38, hM.1, if_neg (nI_ge (by omega) (by omega))]
    unfold F_X5_stops_79 F_X5_stops_80 sb
    by_cases q1 : e = i
    · rw [if_pos (show nI e = nI i by rw [q1]), nI_1, or_z, if_neg (fun z => (hq.mp z).1 q1)]
      exact ih acc u hM
    · rw [if_neg (show ¬ nI e = nI i from fun z => q1 (n_inj z (by omega) (by omega))), isTaken5 hM hP hS (show e < pT P by omega)]
      by_cases q3 : S.1 e = 8
      · rw [if_pos q3, bd1, nI_1, or_z, if_neg (fun z => (hq.mp z).2.1 q3)]
        exact ih acc u hM
      · rw [if_neg q3, bd0]
        show ∃ w, Option.bind (F_X5_homeBut (nI i) ((1 : Int32) <<< (nI e &&& 31)) u) _ = _ ∧ _
        rw [homeBut5 hM hP hS hi h7 (fun j hj => has5_1 (show e < 6 by omega) j hj u), Option.bind_some]
        have e1 := EQR_sl53 u (hmL P S i (fun j => decide (j = e)))
        obtain ⟨w, d1, d2⟩ := ih (if stq P S i e = true then acc ||| ((1 : Int32) <<< (nI e &&& 31)) else acc) _ (hM.eqr e1)
        refine ⟨w, ?_, e1.tr d2⟩
        rw [← d1]
        generalize hmA P S i (fun j => decide (j = e)) = x at hq ⊢
        show (if x = -9 then F_X5_stops_38 fuel (nI i) (acc ||| 0) (nI e + 1) (sl u 53 (hmL P S i (fun j => decide (j = e)))) else F_X5_stops_38 fuel (nI i) (acc ||| ((1 : Int32) <<< (nI e &&& 31))) (nI e + 1) (sl u 53 (hmL P S i (fun j => decide (j = e))))) = _
        rw [nI_1, or_z]
        by_cases q2 : x = -9
        · rw [if_pos q2, if_neg (fun z => (hq.mp z).2.2 q2)]
        · rw [if_neg q2, if_pos (hq.mpr ⟨q1, q3, q2⟩)]
theorem ST_stops (v1 : Int32) (u : XM) (h : REL u) : PRI (F_X4_stops v1) (F_X5_stops v1) u := by
  obtain ⟨P, S, hP, hS, hy, hC, hM⟩ := h.cur
  have hT := hP.1
  unfold PRI F_X4_stops F_X5_stops
  rw [has4 hC hP]
  by_cases hi : 0 ≤ v1.toInt ∧ v1.toInt < pT P
  · obtain ⟨i, hi', rfl⟩ := i_nat (n := pT P) hi (by omega)
    have b1 : F_X5_isThing (nI i) u = some (1, u) := by rw [isThing5 hM hP, if_pos hi]
    rw [if_pos hi, bd1]
    show ∃ r u1 u2, Option.bind (F_X0_isTaken (nI i) u) _ = _ ∧ _
    rw [isTaken4 hC hP hS hi']
    by_cases h8 : S.1 i = 8
    · refine ⟨-4, u, u, by rw [if_pos h8]; rfl, ?_, h⟩
      rw [b1, bd1]
      show Option.bind (F_X5_isTaken (nI i) u) _ = _
      rw [isTaken5 hM hP hS hi', if_pos h8]
      rfl
    · have h7 : S.1 i ≤ 7 := by have := hS.1 i hi'; omega
      rw [if_neg h8, bd0]
      show ∃ r u1 u2, Option.bind (F_X4_stepsHome (nI i) (-9) u) _ = _ ∧ _
      rw [stepsHome4 hC hP hS hi' h7 hab_0, Option.bind_some]
      have e1 := EQR_sl53 u (hmL P S i (fun _ => false))
      have B : F_X5_homeBut (nI i) 0 u = some (hmA P S i (fun _ => false), sl u 53 (hmL P S i (fun _ => false))) := homeBut5 hM hP hS hi' h7 (fun e he => has5_0 e he u)
      by_cases q : hmA P S i (fun _ => false) = -9
      · obtain ⟨w, d1, d2⟩ := stops5_l hP hS hi' h7 (pT P) 0 0 _ (by omega) (hM.eqr e1) FU (show pT P < 1000 by omega)
        have a1 := stops4_l hC hP hS hi' h7 (pT P) 0 0 (by omega) FU (show pT P < 1000 by omega)
        refine ⟨sb (stq P S i) 0 (pT P) 0, u, w, ?_, ?_, h.eqr (e1.tr d2)⟩
        · rw [if_pos q]
          exact a1
        · rw [b1, bd1]
          show Option.bind (F_X5_isTaken (nI i) u) _ = _
          rw [isTaken5 hM hP hS hi', if_neg h8, bd0]
          show Option.bind (F_X5_homeBut (nI i) 0 u) _ = _
          rw [B, Option.bind_some, if_pos q]
          exact d1
      · refine ⟨0, u, sl u 53 (hmL P S i (fun _ => false)), by rw [if_neg q], ?_, h.eqr e1⟩
        rw [b1, bd1]
        show Option.bind (F_X5_isTaken (nI i) u) _ = _
        rw [isTaken5 hM hP hS hi', if_neg h8, bd0]
        show Option.bind (F_X5_homeBut (nI i) 0 u) _ = _
        rw [B, Option.bind_some, if_neg q]
  · refine ⟨-1, u, u, by rw [if_neg hi]; rfl, ?_, h⟩
    rw [isThing5 hM hP, if_neg hi]
    rfl
