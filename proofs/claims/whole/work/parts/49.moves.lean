/-! ===== the fewest moves by night ===== -/
def mvF (P : CP) (S : PS) (i n c c0 : Nat) : Nat → Nat → Nat → Nat
  | _, 0, acc => acc
  | a, m + 1, acc => mvF P S i n c c0 (a + 1) m (if inY P S i n a = c ∧ (a - c0) + (c0 - a) < acc then (a - c0) + (c0 - a) else acc)
def eF (acc : Nat) : Int32 := if acc = 1000000 then -9 else nI acc
theorem mvF_ok (P : CP) (S : PS) (i n c c0 : Nat) (h0 : c0 < 8) : ∀ (m a acc : Nat), a + m = 8 → (acc < 8 ∨ acc = 1000000) → (mvF P S i n c c0 a m acc < 8 ∨ mvF P S i n c c0 a m acc = 1000000)
  | 0, a, acc, ha, h => h
  | m + 1, a, acc, ha, h => by
    refine mvF_ok P S i n c c0 h0 m (a + 1) _ (by omega) ?_
    split
    · omega
    · exact h
theorem fewest_l {u : XM} {P : CP} {S : PS} (hC : curC u P S) (hP : okP P) (hS : okS P S) (hy : S.2.2 ≤ 40) {i n c : Nat} (hi : i < pT P) (hn : n < 900) (hc : c < 8) (h7 : S.1 i ≤ 7) : ∀ (m a acc : Nat), a + m = 8 → (acc < 8 ∨ acc = 1000000) → ∀ fuel, m < fuel → F_X0_fewestMoves_7 fuel (nI i) (nI c) (nI n) (eF acc) (nI a) u = some (eF (mvF P S i n c (S.1 i) a m acc), u)
  | 0, a, acc, ha, h, fuel + 1, _ => by
    unfold F_X0_fewestMoves_7
    rw [if_pos (show (8 : Int32) ≤ nI a from nI_le (a := 8) (by omega) (by omega))]
    rfl
  | m + 1, a, acc, ha, h, fuel + 1, hf => by
    unfold F_X0_fewestMoves_7
    have hT := hP.1
    have ih := fun x hx => fewest_l hC hP hS hy hi hn hc h7 m (a + 1) x (by omega) hx fuel (by omega)
    have hle := inY_le (P := P) (S := S) (i := i) (n := n) (c := a) (by omega)
    rw [if_neg (show ¬ (8 : Int32) ≤ nI a from nI_ge (b := 8) (by omega) (by omega)), cellAfter4 hC hP hS hy hi hn (by omega), Option.bind_some]
    unfold mvF
    by_cases hq : inY P S i n a = c
    · rw [if_pos (by rw [hq]), if_pos (ainN rfl (show i < 6 by omega) (by decide)), nI_clamp (by omega), (hC.2.2.2.2 i hi).2.2.2, eC_n h7, abs4 u (by omega) (by omega), Option.bind_some]
      unfold F_X0_fewestMoves_57 F_X0_fewestMoves_61
      rw [nI_1]
      by_cases h9 : acc = 1000000
      · rw [show eF acc = -9 from if_pos h9, if_pos rfl, if_pos (by omega)]
        show F_X0_fewestMoves_7 fuel (nI i) (nI c) (nI n) (nI _) (nI (a + 1)) u = _
        rw [show nI ((a - S.1 i) + (S.1 i - a)) = eF ((a - S.1 i) + (S.1 i - a)) from (if_neg (by omega)).symm]
        exact ih _ (by omega)
      · rw [show eF acc = nI acc from if_neg h9, if_neg (n_neg9 (by omega))]
        by_cases hl : (a - S.1 i) + (S.1 i - a) < acc
        · rw [if_neg (show ¬ nI acc ≤ nI _ from nI_ge hl (by omega)), if_pos ⟨hq, hl⟩]
          show F_X0_fewestMoves_7 fuel (nI i) (nI c) (nI n) (nI _) (nI (a + 1)) u = _
          rw [show nI ((a - S.1 i) + (S.1 i - a)) = eF ((a - S.1 i) + (S.1 i - a)) from (if_neg (by omega)).symm]
          exact ih _ (by omega)
        · rw [if_pos (show nI acc ≤ nI _ from nI_le (by omega) (by omega)), if_neg (fun q => hl q.2), ← show eF acc = nI acc from if_neg h9]
          exact ih _ h
    · rw [if_neg (fun q => hq (n_inj q (by omega) (by omega))), if_neg (fun q => hq q.1)]
      unfold F_X0_fewestMoves_61
      rw [nI_1]
      exact ih _ h
theorem fewest4 {u : XM} {P : CP} {S : PS} (hC : curC u P S) (hP : okP P) (hS : okS P S) (hy : S.2.2 ≤ 40) {i n c : Nat} (hi : i < pT P) (hn : n < 900) (hc : c < 8) (h7 : S.1 i ≤ 7) : F_X0_fewestMoves (nI i) (nI c) (nI n) u = some (eF (mvF P S i n c (S.1 i) 0 8 1000000), u) := fewest_l hC hP hS hy hi hn hc h7 8 0 1000000 (by omega) (Or.inr rfl) FU (by decide)
theorem movesOf_l {u : XM} {P : CP} {S : PS} (hM : curM u P S) (hP : okP P) (hS : okS P S) (hy : S.2.2 ≤ 40) {i n c : Nat} (hi : i < pT P) (hn : n < 900) (hc : c < 8) (h7 : S.1 i ≤ 7) : ∀ (m a acc : Nat), a + m = 8 → (acc < 8 ∨ acc = 1000000) → ∀ fuel, m < fuel → F_X5_movesOf_7 fuel (nI i) (nI c) (nI n) (nI acc) (nI a) u = some (nI (mvF P S i n c (S.1 i) a m acc), u)
  | 0, a, acc, ha, h, fuel + 1, _ => by
    unfold F_X5_movesOf_7
    rw [if_pos (show (8 : Int32) ≤ nI a from nI_le (a := 8) (by omega) (by omega))]
    rfl
  | m + 1, a, acc, ha, h, fuel + 1, hf => by
    unfold F_X5_movesOf_7
    have hT := hP.1
    have ih := fun x hx => movesOf_l hM hP hS hy hi hn hc h7 m (a + 1) x (by omega) hx fuel (by omega)
    have hle := inY_le (P := P) (S := S) (i := i) (n := n) (c := a) (by omega)
    rw [if_neg (show ¬ (8 : Int32) ≤ nI a from nI_ge (b := 8) (by omega) (by omega)), z_add, if_pos (ainN rfl (show i < 8 by omega) (by decide)), nI_clamp (by omega), (hM.2.2.2.2 i hi).2.2.2, eC_n h7, abs5 u (by omega) (by omega), Option.bind_some]
    unfold mvF F_X5_movesOf_54 F_X5_movesOf_56
    rw [nI_1]
    by_cases hl : (a - S.1 i) + (S.1 i - a) < acc
    · rw [if_neg (show ¬ nI acc ≤ nI _ from nI_ge hl (by omega))]
      show Option.bind (F_X5_afterOf (nI i) (nI a) (nI n) u) _ = _
      rw [afterOf5 hM hP hS hy hi hn (by omega), Option.bind_some]
      by_cases hq : inY P S i n a = c
      · rw [if_pos (show nI (inY P S i n a) = nI c by rw [hq]), if_pos ⟨hq, hl⟩]
        exact ih _ (by omega)
      · rw [if_neg (show ¬ nI (inY P S i n a) = nI c from fun q => hq (n_inj q (by omega) (by omega))), if_neg (fun q => hq q.1)]
        exact ih _ h
    · rw [if_pos (show nI acc ≤ nI _ from nI_le (by omega) (by omega)), if_neg (fun q => hl q.2)]
      exact ih _ h
theorem movesOf5 {u : XM} {P : CP} {S : PS} (hM : curM u P S) (hP : okP P) (hS : okS P S) (hy : S.2.2 ≤ 40) {i n c : Nat} (hi : i < pT P) (hn : n < 900) (hc : c < 8) (h7 : S.1 i ≤ 7) : F_X5_movesOf (nI i) (nI c) (nI n) u = some (nI (mvF P S i n c (S.1 i) 0 8 1000000), u) := movesOf_l hM hP hS hy hi hn hc h7 8 0 1000000 (by omega) (Or.inr rfl) FU (by decide)
theorem ST_moves (v1 v2 v3 : Int32) (u : XM) (h : REL u) : PRI (F_X4_moves v1 v2 v3) (F_X5_moves v1 v2 v3) u := by
  obtain ⟨P, S, hP, hS, hy, hC, hM⟩ := h.cur
  have hT := hP.1
  unfold PRI F_X4_moves F_X5_moves
  simp only [has4 hC hP, Option.bind_some, rngLe e_20n, isCell4]
  by_cases hi : 0 ≤ v1.toInt ∧ v1.toInt < pT P
  · obtain ⟨i, hi', rfl⟩ := i_nat (n := pT P) hi (by omega)
    simp only [hi, and_self, if_true, ne10, if_false]
    have b1 : F_X5_isThing (nI i) u = some (1, u) := by rw [isThing5 hM hP, if_pos hi]
    by_cases hc : 0 ≤ v2.toInt ∧ v2.toInt < 8
    · obtain ⟨c, hc', rfl⟩ := i_nat (n := 8) hc (by decide)
      have b2 : F_X5_isCell (nI c) u = some (1, u) := by rw [isCell5, if_pos hc]
      simp only [hc, and_self, if_true, ne10, if_false]
      by_cases hn : 0 ≤ v3.toInt ∧ v3.toInt < 21
      · obtain ⟨n, hn', rfl⟩ := i_nat (n := 21) hn (by decide)
        have b3 : F_X5_in (nI n).toInt64 0 20 u = some (1, u) := by rw [in5i (nI n) 0 20 u (lo := 0) (hi := 21) (by decide) (by decide), if_pos hn]
        rw [if_pos hn, isTaken4 hC hP hS hi']
        by_cases h8 : S.1 i = 8
        · refine ⟨-4, u, u, ?_, ?_, h⟩
          · rw [if_pos h8]; rfl
          · rw [b1, bd1, b2, bd1, b3, bd1, isTaken5 hM hP hS hi', if_pos h8]; rfl
        · have hs := hS.1 i hi'
          have h7 : S.1 i ≤ 7 := by omega
          refine ⟨eF (mvF P S i n c (S.1 i) 0 8 1000000), u, u, ?_, ?_, h⟩
          · rw [if_neg h8, bd0]
            show Option.bind (F_X0_fewestMoves (nI i) (nI c) (nI n) u) _ = _
            rw [fewest4 hC hP hS hy hi' (by omega) hc' h7]
            rfl
          · rw [b1, bd1, b2, bd1, b3, bd1, isTaken5 hM hP hS hi', if_neg h8, bd0]
            show Option.bind (F_X5_movesOf (nI i) (nI c) (nI n) u) _ = _
            rw [movesOf5 hM hP hS hy hi' (by omega) hc' h7, Option.bind_some]
            have := mvF_ok P S i n c (S.1 i) (by omega) 8 0 1000000 (by omega) (Or.inr rfl)
            generalize mvF P S i n c (S.1 i) 0 8 1000000 = r at *
            show (if nI r = 1000000 then _ else _) = _
            by_cases q : r = 1000000
            · rw [q]; rfl
            · rw [if_neg (show ¬ nI r = 1000000 from fun z => q (n_inj (b := 1000000) z (by omega) (by omega))), show eF r = nI r from if_neg q]
      · rw [if_neg hn]
        refine ⟨-1, u, u, rfl, ?_, h⟩
        simp only [isThing5 hM hP, hi, and_self, if_true, ne10, if_false, Option.bind_some, isCell5, hc, in5i v3 0 20 _ (lo := 0) (hi := 21) (by decide) (by decide), hn]
    · refine ⟨-1, u, u, ?_, ?_, h⟩
      · simp only [hc, if_false, if_true]
      · simp only [isThing5 hM hP, hi, and_self, if_true, ne10, if_false, Option.bind_some, isCell5, hc]
  · refine ⟨-1, u, u, ?_, ?_, h⟩
    · simp only [hi, if_false, if_true]
    · simp only [isThing5 hM hP, hi, if_false, if_true, Option.bind_some]
