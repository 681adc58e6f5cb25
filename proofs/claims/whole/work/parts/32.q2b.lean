theorem tswN {α : Type} (w : Nat) (hw : w < 2 ^ 31) (l : List α) (z : α) : tsw (nI w) 0 l z = l.getD w z := by
  have e : (nI w).toInt = (w : Int) := nI_toInt hw
  by_cases h : w < l.length
  · refine tsw_in (nI w) z l 0 _ (by omega) ?_
    rw [e, show ((w : Int) - 0).toNat = w by omega, List.getElem?_eq_getElem h, List.getD_eq_getElem?_getD, List.getElem?_eq_getElem h]
    rfl
  · rw [tsw_out (nI w) z l 0 (by right; omega), List.getD_eq_getElem?_getD, List.getElem?_eq_none (by omega)]
    rfl
def factI (P : CP) (S : PS) (i w : Nat) : Int32 := match w with
  | 0 => nI (pK P i)
  | 1 => eC (S.1 i)
  | 2 => nI (pW P i)
  | 3 => nI (pG P i)
  | _ => if S.2.1 = 0 then 0 else drq (pK P i) (if pW P i < pF P then 1 else 0) (S.2.2 % 2)
theorem fact4 {u : XM} {P : CP} {S : PS} (hC : curC u P S) (hP : okP P) (hS : okS P S) (hy : S.2.2 ≤ 40) {i w : Nat} (hi : i < pT P) (hw : w < 5) : F_X0_fact (nI i) (nI w) u = some (factI P S i w, u) := by
  have hT := hP.1
  obtain ⟨o1, o2, o3⟩ := hP.2.2 i hi
  obtain ⟨c1, c2, c3, c4⟩ := hC.2.2.2.2 i hi
  have hi6 : i < 6 := by omega
  have hw2 : w = 0 ∨ w = 1 ∨ w = 2 ∨ w = 3 ∨ w = 4 := by omega
  unfold F_X0_fact
  rw [tswN w (by omega)]
  rcases hw2 with rfl | rfl | rfl | rfl | rfl
  · simp only [List.getD_cons_zero, List.getD_cons_succ, List.getD_nil]
    rw [if_pos (ainN rfl hi6 (by decide)), nI_clamp (by omega), c1]; rfl
  · simp only [List.getD_cons_zero, List.getD_cons_succ, List.getD_nil]
    rw [if_pos (ainN rfl hi6 (by decide)), nI_clamp (by omega), c4]; rfl
  · simp only [List.getD_cons_zero, List.getD_cons_succ, List.getD_nil]
    rw [if_pos (ainN rfl hi6 (by decide)), nI_clamp (by omega), c2]; rfl
  · simp only [List.getD_cons_zero, List.getD_cons_succ, List.getD_nil]
    rw [if_pos (ainN rfl hi6 (by decide)), nI_clamp (by omega), c3]; rfl
  · simp only [List.getD_cons_zero, List.getD_cons_succ, List.getD_nil]
    rw [if_pos (ainN rfl hi6 (by decide)), if_pos (ainN rfl hi6 (by decide)), nI_clamp (by omega), c1, c2, hC.2.2.2.1, drift4 hC hP hS o1 o2 (by omega)]; rfl
theorem told5 {u : XM} {P : CP} {S : PS} (hM : curM u P S) (hP : okP P) (hS : okS P S) (hy : S.2.2 ≤ 40) {i w : Nat} (hi : i < pT P) (hw : w < 5) : F_X5_told (nI i) (nI w) u = some (factI P S i w, u) := by
  have hT := hP.1
  have hl := hS.2
  obtain ⟨o1, o2, o3⟩ := hP.2.2 i hi
  obtain ⟨c1, c2, c3, c4⟩ := hM.2.2.2.2 i hi
  have hi6 : i < 6 := by omega
  have hw2 : w = 0 ∨ w = 1 ∨ w = 2 ∨ w = 3 ∨ w = 4 := by omega
  unfold F_X5_told
  rw [tswN w (by omega)]
  rcases hw2 with rfl | rfl | rfl | rfl | rfl
  · simp only [List.getD_cons_zero, List.getD_cons_succ, List.getD_nil]
    rw [if_pos (ainN rfl hi6 (by decide)), nI_clamp (by omega), c1]; rfl
  · simp only [List.getD_cons_zero, List.getD_cons_succ, List.getD_nil]
    rw [z_add, if_pos (ainN rfl (show i < 8 by omega) (by decide)), nI_clamp (by omega), c4]; rfl
  · simp only [List.getD_cons_zero, List.getD_cons_succ, List.getD_nil]
    rw [if_pos (ainN rfl hi6 (by decide)), nI_clamp (by omega), c2]; rfl
  · simp only [List.getD_cons_zero, List.getD_cons_succ, List.getD_nil]
    rw [if_pos (ainN rfl hi6 (by decide)), nI_clamp (by omega), c3]; rfl
  · simp only [List.getD_cons_zero, List.getD_cons_succ, List.getD_nil]
    rw [if_pos (by decide), show Int32.toNatClampNeg 6 = 6 from by decide, hM.2.2.1]
    unfold factI
    by_cases h0 : S.2.1 = 0
    · rw [h0]; rfl
    · rw [if_neg (nI_ne0 (by omega) (by omega)), if_pos (ainN rfl hi6 (by decide)), if_pos (ainN rfl hi6 (by decide)), if_pos (by decide), nI_clamp (by omega), c1, c2, show Int32.toNatClampNeg 7 = 7 from by decide, hM.2.2.2.1, drifts5 hM hP o1 o2 (by omega), Option.bind_some]
      simp only [h0, if_false]
theorem e_5 : (5 : Int32).toInt = 5 := by decide
theorem curM.tell {u : XM} {P : CP} {S : PS} (h : curM u P S) (v : Int32) : curM (wi u 0 12 v) P S := by
  unfold curM
  rw [xmi_ne (by decide), xmi_ne (by decide), xmi_ne (by decide), xmi_ne (by decide), xmi_ne (by decide)]
  exact h
theorem ST_thing (v1 v2 : Int32) (u : XM) (h : REL u) : PRI (F_X4_thing v1 v2) (F_X5_thing v1 v2) u := by
  obtain ⟨P, S, hP, hS, hy, hC, hM⟩ := h.cur
  have hT := hP.1
  unfold PRI F_X4_thing F_X5_thing
  simp only [has4 hC hP, Option.bind_some, rngLt e_5]
  by_cases hi : 0 ≤ v1.toInt ∧ v1.toInt < pT P
  · obtain ⟨i, hi', rfl⟩ := i_nat (n := pT P) hi (by omega)
    simp only [hi, and_self, if_true, ne10, if_false]
    by_cases hw : 0 ≤ v2.toInt ∧ v2.toInt < 5
    · obtain ⟨w, hw', rfl⟩ := i_nat (n := 5) hw (by decide)
      rw [if_pos hw, fact4 hC hP hS hy hi' hw', Option.bind_some]
      refine ⟨1, wi u 0 12 (factI P S i w), wi (wi u 0 12 (factI P S i w)) 35 14 (factI P S i w), rfl, ?_, REL_tell h _⟩
      have hM2 := hM.tell (factI P S i w)
      simp only [isThing5 hM2 hP, hi, and_self, if_true, ne10, if_false, Option.bind_some, in5i (nI w) 0 4 _ (lo := 0) (hi := 5) (by decide) (by decide), hw, told5 hM2 hP hS hy hi' hw']
      rfl
    · rw [if_neg hw]
      refine ⟨-1, u, u, rfl, ?_, h⟩
      simp only [isThing5 hM hP, hi, and_self, if_true, ne10, if_false, Option.bind_some, in5i v2 0 4 _ (lo := 0) (hi := 5) (by decide) (by decide), hw]
  · refine ⟨-1, u, u, ?_, ?_, h⟩
    · simp only [hi, if_false, if_true]
    · simp only [isThing5 hM hP, hi, if_false, if_true, Option.bind_some]
