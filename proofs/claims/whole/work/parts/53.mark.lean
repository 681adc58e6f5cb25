/-! ===== marks ===== -/
theorem sb_step : ∀ i, i < 6 → ∀ q, q < 64 → nI q ||| (1 <<< (nI i &&& 31)) = nI (q ||| 2 ^ i) ∧ q ||| 2 ^ i < 64 := by decide +kernel
theorem sb_64 (p : Nat → Bool) : ∀ (m i q : Nat), i + m ≤ 6 → q < 64 → ∃ q', q' < 64 ∧ sb p i m (nI q) = nI q'
  | 0, i, q, hi, hq => ⟨q, hq, rfl⟩
  | m + 1, i, q, hi, hq => by
    unfold sb
    by_cases h : p i = true
    · rw [if_pos h, (sb_step i (by omega) q hq).1]
      exact sb_64 p m (i + 1) _ (by omega) (sb_step i (by omega) q hq).2
    · rw [if_neg h]
      exact sb_64 p m (i + 1) q (by omega) hq
def popF : Nat → Int32 → Int32 → Option Int32
  | 0, _, _ => none
  | n + 1, a, v => if v = 0 then some a else popF n (a + 1) (v &&& (v - 1))
theorem bits_pop : ∀ (fuel : Nat) (a v : Int32) (u : XM), F_X5_bits_4 fuel a v u = (popF fuel a v).map (fun r => (r, u))
  | 0, _, _, _ => rfl
  | fuel + 1, a, v, u => by
    unfold F_X5_bits_4 popF
    by_cases h : v = 0
    · rw [if_pos h, if_pos h]; rfl
    · rw [if_neg h, if_neg h]; exact bits_pop fuel _ _ u
def bcF (v : Int32) : Int32 := ((F_J6_bitCount_0f7a4 YY v U_X5_init).map Prod.fst).getD 0
theorem bc_u (v : Int32) (u : XM) : F_J6_bitCount_0f7a4 YY v u = some (bcF v, u) := rfl
theorem pop_bc : ∀ q, q < 64 → popF FU 0 (nI q) = some (bcF (nI q)) := by decide +kernel
theorem bits5 (u : XM) {q : Nat} (hq : q < 64) : F_X5_bits (nI q) u = some (bcF (nI q), u) := by
  unfold F_X5_bits
  rw [bits_pop, pop_bc q hq]
  rfl
theorem ring_q : ∀ w, w < 10 → ∀ f, f < 10 → (if (0 : Int32) < nI w + 1 - nI f then nI w + 1 - nI f else 0) = (if nI f ≤ nI w then nI w + 1 - nI f else 0) := by decide +kernel
theorem mark_v4 {v2 : Int32} {A B : Option (Int32 × XM)} : (if v2 ≤ 0 then A else if v2 < 6 then B else A) = if 1 ≤ v2.toInt ∧ v2.toInt < 6 then B else A := by
  have e6 : (6 : Int32).toInt = 6 := by decide
  by_cases h1 : v2 ≤ 0
  · rw [if_pos h1, if_neg]; rw [i_le, e_0] at h1; omega
  · rw [if_neg h1]
    rw [i_le, e_0] at h1
    by_cases h2 : v2 < 6
    · rw [if_pos h2, if_pos]; rw [i_lt, e6] at h2; omega
    · rw [if_neg h2, if_neg]; rw [i_lt, e6] at h2; omega
theorem tswN1 {α : Type} (w : Nat) (hw : w < 2 ^ 31) (h1 : 1 ≤ w) (l : List α) (z : α) : tsw (nI w) 1 l z = l.getD (w - 1) z := by
  have e : (nI w).toInt = (w : Int) := nI_toInt hw
  by_cases h : w - 1 < l.length
  · refine tsw_in (nI w) z l 1 _ (by omega) ?_
    rw [e, show ((w : Int) - 1).toNat = w - 1 by omega, List.getElem?_eq_getElem h, List.getD_eq_getElem?_getD, List.getElem?_eq_getElem h]
    rfl
  · rw [tsw_out (nI w) z l 1 (by right; omega), List.getD_eq_getElem?_getD, List.getElem?_eq_none (by omega)]
    rfl
theorem ST_mark (v1 v2 : Int32) (u : XM) (h : REL u) : PRI (F_X4_mark v1 v2) (F_X5_mark v1 v2) u := by
  obtain ⟨P, S, hP, hS, hy, hC, hM⟩ := h.cur
  have hT := hP.1
  unfold PRI F_X4_mark F_X5_mark
  rw [has4 hC hP]
  by_cases hi : 0 ≤ v1.toInt ∧ v1.toInt < pT P
  · obtain ⟨i, hi', rfl⟩ := i_nat (n := pT P) hi (by omega)
    have b1 : F_X5_isThing (nI i) u = some (1, u) := by rw [isThing5 hM hP, if_pos hi]
    have hi6 : i < 6 := by omega
    obtain ⟨o1, o2, o3⟩ := hP.2.2 i hi'
    obtain ⟨c1, c2, c3, c4⟩ := hC.2.2.2.2 i hi'
    obtain ⟨m1, m2, m3, m4⟩ := hM.2.2.2.2 i hi'
    have hs := hS.1 i hi'
    have hf := hP.2.1
    rw [if_pos hi, bd1, mark_v4]
    have b2 := fun w => in5i v2 1 5 w (lo := 1) (hi := 6) (by decide) (by decide)
    by_cases hv : 1 ≤ v2.toInt ∧ v2.toInt < 6
    · obtain ⟨w, hw, rfl⟩ := i_nat (v := v2) (n := 6) (by omega) (by decide)
      have hw1 : 1 ≤ w := by have := hv.1; rw [nI_toInt (by omega)] at this; omega
      have k2 : ∀ w', F_X5_in (Int32.toInt64 (nI w)) 1 5 w' = some (1, w') := fun w' => by rw [b2, if_pos hv]
      rw [if_pos hv, if_pos (ainN rfl hi6 (by decide)), nI_clamp (by omega)]
      show ∃ r u1 u2, Option.bind (F_X4_isOfKind (mi u 23 i) (nI w) u) _ = _ ∧ _
      rw [c1, ofk4 u o1 (by omega) (by omega)]
      by_cases hk : ofk (pK P i) w = true
      · rw [if_pos hk, bd1]
        have hcase : ∃ r, F_X0_markAs (nI i) (nI w) u = some (r, u) ∧ F_X5_mark (nI i) (nI w) u = some (r, u) := by
          unfold F_X0_markAs F_X5_mark
          rw [b1, bd1, k2, bd1, if_pos (ainN (k := 40) (t := 0) rfl hi6 (by decide)), nI_clamp (by omega)]
          show ∃ r, _ ∧ Option.bind (F_X5_isOf (mi u 40 i) (nI w) u) _ = _
          rw [m1, ofk5 u o1 (by omega) (by omega), if_pos hk, bd1, tswN1 w (by omega) hw1, tswN1 w (by omega) hw1]
          have hw2 : w = 1 ∨ w = 2 ∨ w = 3 ∨ w = 4 ∨ w = 5 := by omega
          have a25 : ain YY 0 25 (nI i) = true := ainN rfl hi6 (by decide)
          have a26 : ain YY 0 26 (nI i) = true := ainN rfl hi6 (by decide)
          have a41 : ain YY 0 41 (nI i) = true := ainN rfl hi6 (by decide)
          have a43 : ain YY 0 43 (nI i) = true := ainN rfl (show i < 8 by omega) (by decide)
          rcases hw2 with rfl | rfl | rfl | rfl | rfl
          · refine ⟨if nI (pF P) ≤ nI (pW P i) then nI (pW P i) + 1 - nI (pF P) else 0, ?_, ?_⟩
            rotate_left
            · show (if ain YY 0 41 (nI i) = true then (if mi u 35 5 ≤ mi u 41 i then (if ain YY 0 41 (nI i) = true then some (mi u 41 i + 1 - mi u 35 5, u) else none) else some (0, u)) else none) = some (if nI (pF P) ≤ nI (pW P i) then nI (pW P i) + 1 - nI (pF P) else 0, u)
              rw [if_pos a41, if_pos a41, hM.2.1, m2]
              split <;> rfl
            · show (if ain YY 0 26 (nI i) = true then Option.bind (F_J9_max_7cf53 YY 0 (mi u 26 i + 1 - mi u 22 7) u) _ else none) = _
              rw [if_pos a26, c2, hC.2.1, max4, Option.bind_some, ← ring_q _ (by omega) _ (by omega)]
          · by_cases h8 : S.1 i = 8
            · refine ⟨0, ?_, ?_⟩
              · show Option.bind (F_X0_isTaken (nI i) u) _ = _
                rw [isTaken4 hC hP hS hi', if_pos h8]; rfl
              · show Option.bind (F_X5_isTaken (nI i) u) _ = _
                rw [isTaken5 hM hP hS hi', if_pos h8]; rfl
            · obtain ⟨q, hq, eq⟩ := sb_64 (fun j => decide (eC (S.1 j) = eC (S.1 i))) (pT P) 0 0 (by omega) (by omega)
              have eq : sb (fun j => decide (eC (S.1 j) = eC (S.1 i))) 0 (pT P) 0 = nI q := eq
              refine ⟨bcF (nI q) - 1, ?_, ?_⟩
              · show Option.bind (F_X0_isTaken (nI i) u) _ = _
                rw [isTaken4 hC hP hS hi', if_neg h8, bd0, if_pos a25]
                show Option.bind (F_X0_lyingIn (mi u 25 i) u) _ = _
                rw [c4, lyingIn4 hC hP, eq]
                rfl
              · show Option.bind (F_X5_isTaken (nI i) u) _ = _
                rw [isTaken5 hM hP hS hi', if_neg h8, bd0, z_add, if_pos a43, nI_clamp (by omega)]
                show Option.bind (F_X5_cellOf (mi u 43 i) u) _ = _
                rw [m4, cellOf5 hM hP, eq, Option.bind_some, bits5 u hq]
                rfl
          · refine ⟨nI (S.2.2 % 2), ?_, ?_⟩
            · show some (mi u 22 10 - mi u 22 10 / 2 * 2, u) = _
              rw [hC.2.2.2.1, n_rem2 (by omega)]
            · show some (mi u 43 7 - mi u 43 7 / 2 * 2, u) = _
              rw [hM.2.2.2.1, n_rem2 (by omega)]
          · refine ⟨nI (ckN P 1 0 (pT P) 0), ?_, ?_⟩
            · show Option.bind (F_X0_countOfKind (nI 1) u) _ = _
              rw [ck4 hC hP (by decide) (by decide)]; rfl
            · show Option.bind (F_X5_kindsOf (nI 1) u) _ = _
              rw [ck5 hM hP (by decide) (by decide)]; rfl
          · by_cases h8 : S.1 i = 8
            · refine ⟨0, ?_, ?_⟩
              · show Option.bind (F_X0_isTaken (nI i) u) _ = _
                rw [isTaken4 hC hP hS hi', if_pos h8]; rfl
              · show Option.bind (F_X5_isTaken (nI i) u) _ = _
                rw [isTaken5 hM hP hS hi', if_pos h8]; rfl
            · refine ⟨7 - eC (S.1 i), ?_, ?_⟩
              · show Option.bind (F_X0_isTaken (nI i) u) _ = _
                rw [isTaken4 hC hP hS hi', if_neg h8, bd0, if_pos a25]
                show some (7 - mi u 25 i, u) = _
                rw [c4]
              · show Option.bind (F_X5_isTaken (nI i) u) _ = _
                rw [isTaken5 hM hP hS hi', if_neg h8, bd0, z_add, if_pos a43, nI_clamp (by omega)]
                show some (7 - mi u 43 i, u) = _
                rw [m4]
        obtain ⟨r, e1, e2⟩ := hcase
        refine ⟨r, u, u, ?_, ?_, h⟩
        · show Option.bind (F_X0_markAs (nI i) (nI w) u) _ = _
          rw [e1]; rfl
        · unfold F_X5_mark at e2
          rw [nI_clamp (by omega)] at e2
          exact e2
      · rw [if_neg hk, bd0]
        show ∃ r u1 u2, Option.bind (F_X4_found 3 u) _ = _ ∧ _
        rw [fX4_3]
        refine ⟨-3, _, _, rfl, ?_, REL_found h (f := 3) (by decide)⟩
        have hM2 : curM (fC u 3) P S := by
          unfold curM
          rw [fC_ne u 3 35 (by decide) (by decide), fC_ne u 3 43 (by decide) (by decide), fC_ne u 3 40 (by decide) (by decide), fC_ne u 3 41 (by decide) (by decide), fC_ne u 3 42 (by decide) (by decide)]
          exact hM
        rw [isThing5 hM2 hP, if_pos hi, bd1, k2, bd1, if_pos (ainN (k := 40) (t := 0) rfl hi6 (by decide))]
        show Option.bind (F_X5_isOf (mi (fC u 3) 40 i) (nI w) (fC u 3)) _ = _
        rw [fC_ne u 3 40 (by decide) (by decide), m1, ofk5 _ o1 (by omega) (by omega), if_neg hk, bd0]
        show Option.bind (F_X5_found 3 (fC u 3)) _ = _
        rw [fX5_3]
        rfl
    · rw [if_neg hv]
      refine ⟨-1, u, u, rfl, ?_, h⟩
      rw [b1, bd1, b2, if_neg hv]
      rfl
  · refine ⟨-1, u, u, by rw [if_neg hi]; rfl, ?_, h⟩
    rw [isThing5 hM hP, if_neg hi]
    rfl
