/-! ===== who bars the way ===== -/
def brC (S : PS) (i : Nat) (ab : Nat → Bool) : Nat → Nat → Nat → Nat
  | _, 0, acc => acc
  | e, m + 1, acc => brC S i ab (e + 1) m (if e = i ∨ ab e = true ∨ S.1 e = 8 then acc else acc ||| 2 ^ rho (plc S e))
def brM (S : PS) (i : Nat) (ab : Nat → Bool) : Nat → Nat → Nat → Nat
  | _, 0, acc => acc
  | e, m + 1, acc => brM S i ab (e + 1) m (if e = i ∨ ab e = true ∨ S.1 e = 8 then acc else acc ||| 2 ^ plc S e)
theorem plc_lt {S : PS} {i : Nat} (h : S.1 i ≤ 7) : plc S i < 16 := by unfold plc; omega
theorem or16 {a x : Nat} (ha : a < 65536) (hx : x < 16) : a ||| 2 ^ x < 65536 := Nat.or_lt_two_pow (n := 16) ha (Nat.pow_lt_pow_right (by decide) hx)
theorem br_rel {S : PS} {i : Nat} {ab : Nat → Bool} : ∀ (m e a b : Nat), a < 65536 → b < 65536 → (∀ q, q < 16 → a.testBit (rho q) = b.testBit q) → (∀ j, e ≤ j → j < e + m → S.1 j ≤ 8) → brC S i ab e m a < 65536 ∧ brM S i ab e m b < 65536 ∧ ∀ q, q < 16 → (brC S i ab e m a).testBit (rho q) = (brM S i ab e m b).testBit q
  | 0, _, _, _, h1, h2, h3, _ => ⟨h1, h2, h3⟩
  | m + 1, e, a, b, h1, h2, h3, h4 => by
    unfold brC brM
    by_cases c : e = i ∨ ab e = true ∨ S.1 e = 8
    · rw [if_pos c, if_pos c]
      exact br_rel m (e + 1) a b h1 h2 h3 (fun j j1 j2 => h4 j (by omega) (by omega))
    · rw [if_neg c, if_neg c]
      have e7 : S.1 e ≤ 7 := by
        have := h4 e (Nat.le_refl _) (by omega)
        have : ¬ S.1 e = 8 := fun z => c (Or.inr (Or.inr z))
        omega
      have pl := plc_lt e7
      refine br_rel m (e + 1) _ _ (or16 h1 (rho_lt pl)) (or16 h2 pl) (fun q hq => ?_) (fun j j1 j2 => h4 j (by omega) (by omega))
      rw [Nat.testBit_or, Nat.testBit_or, h3 q hq, Nat.testBit_two_pow, Nat.testBit_two_pow]
      have : (rho (plc S e) = rho q) = (plc S e = q) := propext (rho_inj pl hq)
      simp only [this]
theorem street4 (u : XM) {S : PS} {e : Nat} (h7 : S.1 e ≤ 7) : F_X4_streetPlace (nI (e % 2)) (nI (S.1 e)) u = some (nI (rho (plc S e)), u) := by
  unfold F_X4_streetPlace plc
  rcases p01 e with h | h
  · rw [h, if_pos (show nI 0 = 0 from rfl), rho_8 (show 8 * 0 + S.1 e < 8 by omega), show 8 * 0 + S.1 e = S.1 e by omega]
  · rw [h, if_neg (show ¬ nI 1 = 0 by decide), show (15 : Int32) - nI (S.1 e) = nI (15 - S.1 e) from pk_sub (a := 15) (by omega)]
    unfold rho
    rw [if_neg (by omega), show 23 - (8 * 1 + S.1 e) = 15 - S.1 e by omega]
theorem sh5_l {u : XM} {P : CP} {S : PS} (hC : curC u P S) (hP : okP P) (hS : okS P S) {i : Nat} (hi : i < pT P) (h7 : S.1 i ≤ 7) {v2 : Int32} {ab : Nat → Bool} (hab : ∀ e, e < 6 → (nI e = v2 ↔ ab e = true)) : ∀ (m e acc : Nat), e + m = pT P → acc < 65536 → ∀ fuel, m < fuel → F_X4_stepsHome_5 fuel (nI i) v2 (nI acc) (nI e) u = some (ansH (brC S i ab e m acc) (plc S i) (pG P i), u)
  | 0, e, acc, he, ha, fuel + 1, _ => by
    have hT := hP.1
    have hg := (hP.2.2 i hi).2.2
    obtain ⟨c1, c2, c3, c4⟩ := hC.2.2.2.2 i hi
    have pl := plc_lt h7
    rw [F_X4_stepsHome_5, hC.1, if_pos (nI_le (by omega) (by omega)), if_pos (ainN rfl (show i < 6 by omega) (by decide)), nI_clamp (by omega), c4, eC_n h7, n_rem2 (by omega), street4 u h7, Option.bind_some, if_pos (ainN rfl (show i < 6 by omega) (by decide))]
    show Option.bind (F_X4_streetPlace 0 (mi u 27 i) u) _ = _
    rw [c3, show F_X4_streetPlace 0 (nI (pG P i)) u = some (nI (pG P i), u) from rfl, Option.bind_some]
    show Option.bind (F_X4_stepsAround (nI (rho (plc S i))) (nI (pG P i)) 1 (nI acc) u) _ = _
    rw [arUp (by omega) pl (by omega), Option.bind_some]
    show Option.bind (F_X4_stepsAround (nI (rho (plc S i))) (nI (pG P i)) (-1) (nI acc) u) _ = _
    rw [arDn (by omega) pl (by omega), Option.bind_some]
    show _ = some (ansH acc (plc S i) (pG P i), u)
    unfold ansH
    generalize (if al (fun e => !acc.testBit ((rho (plc S i) + e) % 16)) 1 (ofs (plc S i) (pG P i)) = true then nI (ofs (plc S i) (pG P i)) else -9) = x
    generalize (if al (fun e => !acc.testBit ((rho (plc S i) + (16 - e)) % 16)) 1 ((16 - ofs (plc S i) (pG P i)) % 16) = true then nI ((16 - ofs (plc S i) (pG P i)) % 16) else -9) = y
    show (if x = -9 then some (y, u) else if y = -9 then some (x, u) else Option.bind (F_J9_min_7cf53 YY x y u) (fun x5 => some (x5.1, x5.2))) = _
    rw [min4, Option.bind_some]
    unfold mnI
    by_cases q1 : x = -9
    · rw [if_pos q1, if_pos q1]
    · rw [if_neg q1, if_neg q1]
      by_cases q2 : y = -9
      · rw [if_pos q2, if_pos q2]
      · rw [if_neg q2, if_neg q2]
  | m + 1, e, acc, he, ha, fuel + 1, hf => by
    have hT := hP.1
    have ih := fun a h => sh5_l hC hP hS hi h7 hab m (e + 1) a (by omega) h fuel (by omega)
    rw [F_X4_stepsHome_5, hC.1, if_neg (nI_ge (by omega) (by omega))]
    unfold F_X4_stepsHome_66 brC
    by_cases q1 : e = i
    · rw [if_pos (show nI e = nI i by rw [q1]), nI_1, if_pos (Or.inl q1)]
      exact ih acc ha
    · rw [if_neg (show ¬ nI e = nI i from fun z => q1 (n_inj z (by omega) (by omega)))]
      by_cases q2 : ab e = true
      · rw [if_pos ((hab e (by omega)).mpr q2), nI_1, if_pos (Or.inr (Or.inl q2))]
        exact ih acc ha
      · rw [if_neg (fun z => q2 ((hab e (by omega)).mp z)), isTaken4 hC hP hS (show e < pT P by omega)]
        by_cases q3 : S.1 e = 8
        · rw [if_pos q3, bd1, nI_1, if_pos (Or.inr (Or.inr q3))]
          exact ih acc ha
        · have e7 : S.1 e ≤ 7 := by have := hS.1 e (by omega); omega
          have pl := plc_lt e7
          rw [if_neg q3, bd0, if_neg (show ¬ (e = i ∨ ab e = true ∨ S.1 e = 8) from fun z => z.elim q1 (fun z => z.elim q2 q3))]
          show (if ain YY 0 25 (nI e) = true then Option.bind (F_X4_streetPlace (nI e - nI e / 2 * 2) (mi u 25 (Int32.toNatClampNeg (nI e))) u) _ else none) = _
          rw [if_pos (ainN rfl (show e < 6 by omega) (by decide)), nI_clamp (by omega), (hC.2.2.2.2 e (by omega)).2.2.2, eC_n e7, n_rem2 (by omega), street4 u e7, Option.bind_some]
          show F_X4_stepsHome_5 fuel (nI i) v2 (nI acc ||| ((1 : Int32) <<< (nI (rho (plc S e)) &&& 31))) (nI e + 1) u = _
          rw [shl1 _ (by have := rho_lt pl; omega), nI_or, nI_1]
          exact ih _ (or16 ha (rho_lt pl))
theorem hb5_l {u : XM} {P : CP} {S : PS} (hM : curM u P S) (hP : okP P) (hS : okS P S) {i : Nat} (hi : i < pT P) {gone : Int32} {ab : Nat → Bool} (hab : ∀ e, e < 6 → F_X5_has gone (nI e) u = some (if ab e = true then 1 else 0, u)) : ∀ (m e acc : Nat), e + m = pT P → ∀ fuel, m < fuel → F_X5_homeBut_5 fuel (nI i) gone (nI acc) (nI e) u = F_X5_homeBut_62 FU (nI i) (nI (brM S i ab e m acc)) 0 u
  | 0, e, acc, he, fuel + 1, _ => by
    have hT := hP.1
    rw [F_X5_homeBut_5, hM.1, if_pos (nI_le (by omega) (by omega))]
    rfl
  | m + 1, e, acc, he, fuel + 1, hf => by
    have hT := hP.1
    have ih := fun a => hb5_l hM hP hS hi hab m (e + 1) a (by omega) fuel (by omega)
    rw [F_X5_homeBut_5, hM.1, if_neg (nI_ge (by omega) (by omega))]
    unfold F_X5_homeBut_39 F_X5_homeBut_51 brM
    by_cases q1 : e = i
    · rw [if_pos (show nI e = nI i by rw [q1]), nI_1, or_z, if_pos (Or.inl q1)]
      exact ih acc
    · rw [if_neg (show ¬ nI e = nI i from fun z => q1 (n_inj z (by omega) (by omega))), isTaken5 hM hP hS (show e < pT P by omega)]
      by_cases q3 : S.1 e = 8
      · rw [if_pos q3, bd1, nI_1, or_z, if_pos (Or.inr (Or.inr q3))]
        exact ih acc
      · have e7 : S.1 e ≤ 7 := by have := hS.1 e (by omega); omega
        rw [if_neg q3, bd0]
        show Option.bind (F_X5_has gone (nI e) u) _ = _
        rw [hab e (by omega)]
        by_cases q2 : ab e = true
        · rw [if_pos q2, bd1, nI_1, or_z, if_pos (Or.inr (Or.inl q2))]
          exact ih acc
        · rw [if_neg q2, bd0, if_neg (show ¬ (e = i ∨ ab e = true ∨ S.1 e = 8) from fun z => z.elim q1 (fun z => z.elim q2 q3))]
          show Option.bind (F_X5_placeOf (nI e) u) _ = _
          rw [placeOf5 hM hP (by omega) e7, Option.bind_some]
          show F_X5_homeBut_5 fuel (nI i) gone (nI acc ||| ((1 : Int32) <<< (nI (plc S e) &&& 31))) (nI e + 1) u = _
          rw [shl1 _ (by have := plc_lt e7; omega), nI_or, nI_1]
          exact ih _
/-- the way home, if those of ab are away -/
def hmA (P : CP) (S : PS) (i : Nat) (ab : Nat → Bool) : Int32 := hvI ((HL (brM S i ab 0 (pT P) 0) (plc S i)).getD (pG P i) 0)
def hmL (P : CP) (S : PS) (i : Nat) (ab : Nat → Bool) : List Nat := HL (brM S i ab 0 (pT P) 0) (plc S i)
theorem br_0 {P : CP} {S : PS} (hS : okS P S) (i : Nat) (ab : Nat → Bool) : brC S i ab 0 (pT P) 0 < 65536 ∧ brM S i ab 0 (pT P) 0 < 65536 ∧ ∀ q, q < 16 → (brC S i ab 0 (pT P) 0).testBit (rho q) = (brM S i ab 0 (pT P) 0).testBit q :=
  br_rel (pT P) 0 0 0 (by decide) (by decide) (fun q _ => by rw [Nat.zero_testBit, Nat.zero_testBit]) (fun j _ h => hS.1 j (by omega))
theorem stepsHome4 {u : XM} {P : CP} {S : PS} (hC : curC u P S) (hP : okP P) (hS : okS P S) {i : Nat} (hi : i < pT P) (h7 : S.1 i ≤ 7) {v2 : Int32} {ab : Nat → Bool} (hab : ∀ e, e < 6 → (nI e = v2 ↔ ab e = true)) : F_X4_stepsHome (nI i) v2 u = some (hmA P S i ab, u) := by
  have hT := hP.1
  have hg := (hP.2.2 i hi).2.2
  have := sh5_l hC hP hS hi h7 hab (pT P) 0 0 (by omega) (by decide) FU (show pT P < 1000 by omega)
  rw [ans_eq (plc_lt h7) (by omega) (br_0 hS i ab).2.2] at this
  exact this
theorem homeBut5 {u : XM} {P : CP} {S : PS} (hM : curM u P S) (hP : okP P) (hS : okS P S) {i : Nat} (hi : i < pT P) (h7 : S.1 i ≤ 7) {gone : Int32} {ab : Nat → Bool} (hab : ∀ e, e < 6 → F_X5_has gone (nI e) u = some (if ab e = true then 1 else 0, u)) : F_X5_homeBut (nI i) gone u = some (hmA P S i ab, sl u 53 (hmL P S i ab)) := by
  have hT := hP.1
  have h1 := hb5_l hM hP hS hi hab (pT P) 0 0 (by omega) FU (show pT P < 1000 by omega)
  have hb := (br_0 hS i ab).2.1
  have h2 := h62_l hM hP hi h7 (show brM S i ab 0 (pT P) 0 < 2 ^ 31 by omega) 16 0 (by omega) FU (by decide)
  rw [pfH_0] at h2
  exact h1.trans h2
theorem has5_0 (e : Nat) (he : e < 6) (u : XM) : F_X5_has 0 (nI e) u = some (if (fun _ : Nat => false) e = true then 1 else 0, u) := by
  have := has5 (b := 0) (q := e) (by decide) (by omega) u
  rw [Nat.zero_testBit] at this
  exact this
theorem has5_1 {k : Nat} (hk : k < 6) (e : Nat) (he : e < 6) (u : XM) : F_X5_has ((1 : Int32) <<< (nI k &&& 31)) (nI e) u = some (if (fun j : Nat => decide (j = k)) e = true then 1 else 0, u) := by
  have hb : 2 ^ k < 2 ^ 31 := Nat.pow_lt_pow_right (by decide) (by omega)
  have := has5 (b := 2 ^ k) (q := e) hb (by omega) u
  rw [Nat.testBit_two_pow] at this
  rw [shl1 k (by omega), this]
  congr 2
  by_cases q : e = k
  · simp [q]
  · simp [q, Ne.symm q, show ¬ k = e from fun z => q z.symm]
