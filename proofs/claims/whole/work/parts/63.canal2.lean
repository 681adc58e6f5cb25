/-! ===== canal: laid into the class' rows ===== -/
theorem c_1 : Int32.toNatClampNeg 1 = 1 := by decide
theorem c_2 : Int32.toNatClampNeg 2 = 2 := by decide
theorem c_6 : Int32.toNatClampNeg 6 = 6 := by decide
theorem c_7 : Int32.toNatClampNeg 7 = 7 := by decide
theorem replay0 {u : XM} {P : CP} {s0 : PS} (hP : okP P) (h0 : okS P s0) (hz : s0.2.2 = 0) (c6 : mi u 22 6 = nI (pT P)) (c7 : mi u 22 7 = nI (pF P)) (e8 : mi u 22 8 = nI s0.2.1) (cs : ∀ i, i < pT P → mi u 23 i = nI (pK P i) ∧ mi u 26 i = nI (pW P i) ∧ mi u 27 i = nI (pG P i) ∧ mi u 24 i = eC (s0.1 i)) : ∃ v, F_X0_replay 0 u = some ((), v) ∧ curC v P s0 ∧ hisC v P s0 (fun _ => 0) 0 ∧ (∀ a, a ≠ 22 → a ≠ 25 → mi v a = mi u a) ∧ ml v = ml u := by
  have hT := hP.1
  have hH : okH P s0 (fun _ => 0) 0 := ⟨by decide, fun j hj => absurd hj (Nat.not_lt_zero _)⟩
  have hC2 : curC (wi (wi (wi (wc u 24 0 25 0 6) 22 9 (mi u 22 8)) 22 10 0) 22 11 (nI 0)) P (sq P s0 (fun _ => 0) 0) := by
    refine ⟨c6, c7, ?_, ?_, fun i hi => ?_⟩
    · show mi u 22 8 = _
      exact e8
    · show (0 : Int32) = nI s0.2.2
      rw [hz]; rfl
    · obtain ⟨b1, b2, b3, b4⟩ := cs i hi
      refine ⟨b1, b2, b3, ?_⟩
      rw [xmi_ne (by decide), xmi_ne (by decide), xmi_ne (by decide), mi_wc, if_pos ⟨rfl, by omega⟩, show 0 + (i - 0) = i by omega]
      exact b4
  obtain ⟨v, b1, b2, b3⟩ := replay_l hP h0 hz hH 0 0 _ (by omega) hC2 rfl (fun i hi => absurd hi (Nat.not_lt_zero _)) FU (show 0 < 1000 by decide)
  have hfr : ∀ a, a ≠ 22 → a ≠ 25 → mi v a = mi u a := fun a h1 h2 => by
    rw [b3.1 a h1 h2, xmi_ne h1, xmi_ne h1, xmi_ne h1, xmi_wcne h2]
  refine ⟨v, ?_, b2, ⟨fun i hi => by rw [hfr 24 (by decide) (by decide)]; exact (cs i hi).2.2.2, ?_, ?_, fun j hj => absurd hj (Nat.not_lt_zero _)⟩, hfr, b3.2.2⟩
  · unfold F_X0_replay
    rw [show alen YY 0 24 = some 6 from alenN rfl, show alen YY 0 25 = some 6 from alenN rfl, Option.bind_some, Option.bind_some, if_pos (by decide), c0, c_6, min4, if_neg (show ¬ (40 : Int32) < 0 by decide), Option.bind_some, show (0 : Int32) = nI 0 from rfl]
    exact b1
  · rw [b3.2.1 8 (by decide) (by decide)]
    exact e8
  · rw [b3.2.1 11 (by decide) (by decide)]
    rfl
theorem nI_3 (a : Nat) : nI a + 3 = nI (a + 3) := nI_add a 3
theorem fill35 {T : Nat} (hT : T ≤ 6) : ∀ (k i : Nat) (u : XM), i + k = T → mi u 22 6 = nI T → ∀ fuel, k < fuel → ∃ w, F_X0_fillFrom_35 fuel (nI i) u = Option.bind (F_X0_replay 0 w) (fun x1 => some ((), x1.2)) ∧ (∀ a, a ≠ 23 → a ≠ 24 → a ≠ 26 → a ≠ 27 → mi w a = mi u a) ∧ ml w = ml u ∧ (∀ j, j < i → mi w 23 j = mi u 23 j ∧ mi w 24 j = mi u 24 j ∧ mi w 26 j = mi u 26 j ∧ mi w 27 j = mi u 27 j) ∧ ∀ j, i ≤ j → j < T → mi w 23 j = mi u 21 (4 * (j + 1)) ∧ mi w 24 j = mi u 21 (4 * (j + 1) + 1) ∧ mi w 26 j = mi u 21 (4 * (j + 1) + 2) ∧ mi w 27 j = mi u 21 (4 * (j + 1) + 3)
  | 0, i, u, hi, h6, fuel + 1, _ => by
    refine ⟨u, ?_, fun _ _ _ _ _ => rfl, rfl, fun _ _ => ⟨rfl, rfl, rfl, rfl⟩, fun j h1 h2 => absurd h2 (by omega)⟩
    rw [F_X0_fillFrom_35, h6, if_pos (nI_le (by omega) (by omega))]
  | k + 1, i, u, hi, h6, fuel + 1, hf => by
    obtain ⟨w, a1, a2, a3, a4, a5⟩ := fill35 hT k (i + 1) (wi (wi (wi (wi u 23 i (mi u 21 (4 * (i + 1)))) 24 i (mi u 21 (4 * (i + 1) + 1))) 26 i (mi u 21 (4 * (i + 1) + 2))) 27 i (mi u 21 (4 * (i + 1) + 3))) (by omega) h6 fuel (by omega)
    refine ⟨w, ?_, fun a p1 p2 p3 p4 => ?_, a3, fun j hj => ?_, fun j h1 h2 => ?_⟩
    · rw [F_X0_fillFrom_35, h6, if_neg (nI_ge (by omega) (by omega)), nI_1, show (4 : Int32) * nI (i + 1) = nI (4 * (i + 1)) from pk_mul 4 (i + 1), nI_1, nI_2, nI_3, if_pos (ainN rfl (show 4 * (i + 1) < 28 by omega) (by decide)), if_pos (ainN rfl (show i < 6 by omega) (by decide)), if_pos (ainN rfl (show 4 * (i + 1) + 1 < 28 by omega) (by decide)), if_pos (ainN rfl (show i < 6 by omega) (by decide)), if_pos (ainN rfl (show 4 * (i + 1) + 2 < 28 by omega) (by decide)), if_pos (ainN rfl (show i < 6 by omega) (by decide)), if_pos (ainN rfl (show 4 * (i + 1) + 3 < 28 by omega) (by decide)), if_pos (ainN rfl (show i < 6 by omega) (by decide)), nI_clamp (show i < 2 ^ 31 by omega), nI_clamp (show 4 * (i + 1) < 2 ^ 31 by omega), nI_clamp (show 4 * (i + 1) + 1 < 2 ^ 31 by omega), nI_clamp (show 4 * (i + 1) + 2 < 2 ^ 31 by omega), nI_clamp (show 4 * (i + 1) + 3 < 2 ^ 31 by omega)]
      exact a1
    · rw [a2 a p1 p2 p3 p4, xmi_ne p4, xmi_ne p3, xmi_ne p2, xmi_ne p1]
    · obtain ⟨b1, b2, b3, b4⟩ := a4 j (by omega)
      refine ⟨b1.trans ?_, b2.trans ?_, b3.trans ?_, b4.trans ?_⟩
      · rw [xmi_ne (by decide), xmi_ne (by decide), xmi_ne (by decide), mi_wi, if_neg (by omega)]
      · rw [xmi_ne (by decide), xmi_ne (by decide), mi_wi, if_neg (by omega), xmi_ne (by decide)]
      · rw [xmi_ne (by decide), mi_wi, if_neg (by omega), xmi_ne (by decide), xmi_ne (by decide)]
      · rw [mi_wi, if_neg (by omega), xmi_ne (by decide), xmi_ne (by decide), xmi_ne (by decide)]
    · by_cases q : j = i
      · obtain ⟨b1, b2, b3, b4⟩ := a4 j (by omega)
        refine ⟨b1.trans ?_, b2.trans ?_, b3.trans ?_, b4.trans ?_⟩
        · rw [xmi_ne (by decide), xmi_ne (by decide), xmi_ne (by decide), mi_wi, if_pos ⟨rfl, q⟩, q]
        · rw [xmi_ne (by decide), xmi_ne (by decide), mi_wi, if_pos ⟨rfl, q⟩, q]
        · rw [xmi_ne (by decide), mi_wi, if_pos ⟨rfl, q⟩, q]
        · rw [mi_wi, if_pos ⟨rfl, q⟩, q]
      · exact a5 j (by omega) h2
theorem fillFrom4 {u : XM} {T : Nat} (hT : T ≤ 6) (h20 : mi u 20 1 = nI T) : ∃ w, F_X0_fillFrom u = Option.bind (F_X0_replay 0 w) (fun x1 => some ((), x1.2)) ∧ mi w 22 6 = nI T ∧ mi w 22 7 = mi u 21 1 ∧ mi w 22 8 = mi u 21 2 ∧ (∀ a, a ≠ 22 → a ≠ 23 → a ≠ 24 → a ≠ 26 → a ≠ 27 → mi w a = mi u a) ∧ ml w = ml u ∧ ∀ j, j < T → mi w 23 j = mi u 21 (4 * (j + 1)) ∧ mi w 24 j = mi u 21 (4 * (j + 1) + 1) ∧ mi w 26 j = mi u 21 (4 * (j + 1) + 2) ∧ mi w 27 j = mi u 21 (4 * (j + 1) + 3) := by
  have e6 : mi (wi (wi (wi u 22 6 (nI T)) 22 7 (mi u 21 1)) 22 8 (mi u 21 2)) 22 6 = nI T := by rw [mi_wi, if_neg (by decide), mi_wi, if_neg (by decide), mi_wi, if_pos ⟨rfl, rfl⟩]
  obtain ⟨w, a1, a2, a3, a4, a5⟩ := fill35 hT T 0 (wi (wi (wi u 22 6 (nI T)) 22 7 (mi u 21 1)) 22 8 (mi u 21 2)) (by omega) e6 FU (show T < 1000 by omega)
  have k22 := a2 22 (by decide) (by decide) (by decide) (by decide)
  refine ⟨w, ?_, by rw [k22]; exact e6, ?_, ?_, fun a p0 p1 p2 p3 p4 => ?_, a3, fun j hj => a5 j (by omega) hj⟩
  · unfold F_X0_fillFrom
    rw [h20, min4, if_neg (show ¬ (6 : Int32) < nI T from nI_nlt (a := 6) (by omega) (by decide)), Option.bind_some, if_pos (by decide), if_pos (by decide), c_1, c_2, show (0 : Int32) = nI 0 from rfl]
    exact a1
  · rw [k22, mi_wi, if_neg (by decide), mi_wi, if_pos ⟨rfl, rfl⟩]
  · rw [k22, mi_wi, if_pos ⟨rfl, rfl⟩]
  · rw [a2 a p1 p2 p3 p4, xmi_ne p0, xmi_ne p0, xmi_ne p0]
