def ow (P : CP) (S : PS) (n : Nat) : Nat → Nat → Nat → Nat
  | _, 0, acc => acc
  | i, m + 1, acc => ow P S n (i + 1) m (if S.1 i = 8 then acc else acc + mvF P S i n (pG P i) (S.1 i) 0 8 1000000)
theorem ow_ge (P : CP) (S : PS) (n : Nat) : ∀ (m i acc : Nat), acc ≤ ow P S n i m acc
  | 0, _, _ => Nat.le_refl _
  | m + 1, i, acc => by
    refine Nat.le_trans ?_ (ow_ge P S n m (i + 1) _)
    split <;> omega
def oA (t : Nat) : Int32 := if t < 1000000 then nI t else -9
theorem owned4_l {u : XM} {P : CP} {S : PS} (hC : curC u P S) (hP : okP P) (hS : okS P S) (hy : S.2.2 ≤ 40) {n : Nat} (hn : n < 900) : ∀ (m i acc : Nat), i + m = pT P → acc ≤ 8 * i → ∀ fuel, m < fuel → F_X4_owned_29 fuel (nI n) (nI acc) (nI i) u = some (oA (ow P S n i m acc), u)
  | 0, i, acc, hi, h, fuel + 1, _ => by
    have hT := hP.1
    unfold F_X4_owned_29
    rw [hC.1, if_pos (nI_le (by omega) (by omega))]
    rw [show oA (ow P S n i 0 acc) = nI acc from if_pos (by show acc < _; omega)]
  | m + 1, i, acc, hi, h, fuel + 1, hf => by
    have hT := hP.1
    have hi' : i < pT P := by omega
    have hs := hS.1 i hi'
    have hg := (hP.2.2 i hi').2.2
    unfold F_X4_owned_29 ow
    rw [hC.1, if_neg (nI_ge (by omega) (by omega)), isTaken4 hC hP hS hi']
    unfold F_X4_owned_89
    by_cases h8 : S.1 i = 8
    · rw [if_pos h8, bd1, if_pos h8, nI_1]
      exact owned4_l hC hP hS hy hn m (i + 1) acc (by omega) (by omega) fuel (by omega)
    · rw [if_neg h8, bd0, if_neg h8, if_pos (ainN rfl (show i < 6 by omega) (by decide)), nI_clamp (by omega)]
      show Option.bind (F_X0_fewestMoves (nI i) (mi u 27 i) (nI n) u) _ = _
      rw [(hC.2.2.2.2 i hi').2.2.1, fewest4 hC hP hS hy hi' hn (by omega) (by omega), Option.bind_some]
      have := mvF_ok P S i n (pG P i) (S.1 i) (by omega) 8 0 1000000 (by omega) (Or.inr rfl)
      generalize mvF P S i n (pG P i) (S.1 i) 0 8 1000000 = r at *
      show (if eF r = -9 then some (-9, u) else F_X4_owned_29 fuel (nI n) (nI acc + eF r) (nI i + 1) u) = _
      rcases this with q | q
      · rw [show eF r = nI r from if_neg (by omega), if_neg (n_neg9 (by omega)), nI_add, nI_1]
        exact owned4_l hC hP hS hy hn m (i + 1) (acc + r) (by omega) (by omega) fuel (by omega)
      · rw [show eF r = -9 from if_pos q, if_pos rfl]
        have := ow_ge P S n m (i + 1) (acc + r)
        rw [show oA _ = -9 from if_neg (show ¬ ow P S n (i + 1) m (acc + r) < 1000000 by omega)]
theorem owned5_l {u : XM} {P : CP} {S : PS} (hM : curM u P S) (hP : okP P) (hS : okS P S) (hy : S.2.2 ≤ 40) {n : Nat} (hn : n < 900) : ∀ (m i acc : Nat), i + m = pT P → acc ≤ 1000000 * i → ∀ fuel, m < fuel → F_X5_owned_28 fuel (nI n) (nI acc) (nI i) u = some (oA (ow P S n i m acc), u)
  | 0, i, acc, hi, h, fuel + 1, _ => by
    have hT := hP.1
    unfold F_X5_owned_28
    rw [hM.1, if_pos (nI_le (by omega) (by omega))]
    show _ = some (oA acc, u)
    unfold oA
    by_cases q : acc < 1000000
    · rw [if_pos q, if_pos (show nI acc < (1000000 : Int32) from nI_lt (b := 1000000) q (by decide))]
    · rw [if_neg q, if_neg (show ¬ nI acc < (1000000 : Int32) from nI_nlt (b := 1000000) (by omega) (by omega))]
  | m + 1, i, acc, hi, h, fuel + 1, hf => by
    have hT := hP.1
    have hi' : i < pT P := by omega
    have hs := hS.1 i hi'
    have hg := (hP.2.2 i hi').2.2
    unfold F_X5_owned_28 ow
    rw [hM.1, if_neg (nI_ge (by omega) (by omega)), isTaken5 hM hP hS hi']
    unfold F_X5_owned_61
    by_cases h8 : S.1 i = 8
    · rw [if_pos h8, bd1, if_pos h8, nI_1]
      show F_X5_owned_28 fuel (nI n) (nI acc + nI 0) (nI (i + 1)) u = _
      rw [nI_add]
      exact owned5_l hM hP hS hy hn m (i + 1) acc (by omega) (by omega) fuel (by omega)
    · rw [if_neg h8, bd0, if_neg h8, if_pos (ainN rfl (show i < 6 by omega) (by decide)), nI_clamp (by omega)]
      show Option.bind (F_X5_movesOf (nI i) (mi u 42 i) (nI n) u) _ = _
      rw [(hM.2.2.2.2 i hi').2.2.1, movesOf5 hM hP hS hy hi' hn (by omega) (by omega), Option.bind_some]
      have := mvF_ok P S i n (pG P i) (S.1 i) (by omega) 8 0 1000000 (by omega) (Or.inr rfl)
      generalize mvF P S i n (pG P i) (S.1 i) 0 8 1000000 = r at *
      show F_X5_owned_28 fuel (nI n) (nI acc + nI r) (nI i + 1) u = _
      rw [nI_add, nI_1]
      exact owned5_l hM hP hS hy hn m (i + 1) (acc + r) (by omega) (by omega) fuel (by omega)
theorem ST_owned (v1 : Int32) (u : XM) (h : REL u) : PRI (F_X4_owned v1) (F_X5_owned v1) u := by
  obtain ⟨P, S, hP, hS, hy, hC, hM⟩ := h.cur
  have hT := hP.1
  unfold PRI F_X4_owned F_X5_owned
  rw [rngLe e_20n]
  have b1 := fun w => in5i v1 0 20 w (lo := 0) (hi := 21) (by decide) (by decide)
  by_cases hn : 0 ≤ v1.toInt ∧ v1.toInt < 21
  · have k1 : F_X5_in (Int32.toInt64 v1) 0 20 u = some (1, u) := by rw [b1, if_pos hn]
    obtain ⟨n, hn', rfl⟩ := i_nat (n := 21) hn (by decide)
    rw [if_pos hn, hC.1]
    by_cases h0 : pT P = 0
    · refine ⟨-4, u, u, by rw [h0]; rfl, ?_, h⟩
      rw [k1, bd1]
      show (if mi u 35 4 = 0 then _ else _) = _
      rw [hM.1, h0]
      rfl
    · rw [if_neg (nI_ne0 (by omega) (by omega))]
      refine ⟨oA (ow P S n 0 (pT P) 0), u, u, ?_, ?_, h⟩
      · exact owned4_l hC hP hS hy (n := n) (by omega) (pT P) 0 0 (by omega) (by omega) FU (by show pT P < 1000; omega)
      · rw [k1, bd1]
        show (if mi u 35 4 = 0 then _ else _) = _
        rw [hM.1, if_neg (nI_ne0 (by omega) (by omega))]
        exact owned5_l hM hP hS hy (n := n) (by omega) (pT P) 0 0 (by omega) (by omega) FU (by show pT P < 1000; omega)
  · refine ⟨-1, u, u, by rw [if_neg hn], ?_, h⟩
    rw [b1, if_neg hn]
    rfl
