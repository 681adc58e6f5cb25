/-! ===== the digest ===== -/
theorem dg6 {u : XM} (h : REL u) : ∀ (m i : Nat) (acc : Int64), i + m = 11 → ∀ fuel, m < fuel → ∃ H, F_X4_digest_6 fuel acc (nI i) u = F_X4_digest_33 FU H 0 u ∧ F_X5_digest_6 fuel acc (nI i) u = F_X5_digest_33 FU H 0 u
  | 0, i, acc, hi, fuel + 1, _ => by
    unfold F_X4_digest_6 F_X5_digest_6
    rw [if_pos (show (11 : Int32) ≤ nI i from nI_le (a := 11) (by omega) (by omega)), if_pos (show (11 : Int32) ≤ nI i from nI_le (a := 11) (by omega) (by omega))]
    exact ⟨acc, rfl, rfl⟩
  | m + 1, i, acc, hi, fuel + 1, hf => by
    unfold F_X4_digest_6 F_X5_digest_6
    obtain ⟨r, e1, e2⟩ := count45 h (w := i) (by omega)
    rw [if_neg (show ¬ (11 : Int32) ≤ nI i from nI_ge (b := 11) (by omega) (by omega)), if_neg (show ¬ (11 : Int32) ≤ nI i from nI_ge (b := 11) (by omega) (by omega)), e1, e2, Option.bind_some, Option.bind_some, nI_1]
    exact dg6 h m (i + 1) _ (by omega) fuel (by omega)
theorem dg47 {u : XM} {P : CP} {S : PS} (hC : curC u P S) (hM : curM u P S) (hP : okP P) (hS : okS P S) (hy : S.2.2 ≤ 40) {i : Nat} (hi : i < pT P) (k k' : Int64 → Int32 → XM → Option (Int64 × XM)) : ∀ (m w : Nat) (acc : Int64), w + m = 5 → ∀ fuel, m < fuel → ∃ H, F_X4_digest_47 k fuel acc (nI i) (nI w) u = k H (nI (i + 1)) u ∧ F_X5_digest_44 k' fuel acc (nI i) (nI w) u = k' H (nI (i + 1)) u
  | 0, w, acc, hw, fuel + 1, _ => by
    unfold F_X4_digest_47 F_X5_digest_44
    rw [if_pos (show (5 : Int32) ≤ nI w from nI_le (a := 5) (by omega) (by omega)), if_pos (show (5 : Int32) ≤ nI w from nI_le (a := 5) (by omega) (by omega)), nI_1]
    exact ⟨acc, rfl, rfl⟩
  | m + 1, w, acc, hw, fuel + 1, hf => by
    unfold F_X4_digest_47 F_X5_digest_44
    rw [if_neg (show ¬ (5 : Int32) ≤ nI w from nI_ge (b := 5) (by omega) (by omega)), if_neg (show ¬ (5 : Int32) ≤ nI w from nI_ge (b := 5) (by omega) (by omega)), fact4 hC hP hS hy hi (by omega), told5 hM hP hS hy hi (by omega), Option.bind_some, Option.bind_some, nI_1]
    exact dg47 hC hM hP hS hy hi k k' m (w + 1) _ (by omega) fuel (by omega)
theorem dg33 {u : XM} {P : CP} {S : PS} (hC : curC u P S) (hM : curM u P S) (hP : okP P) (hS : okS P S) (hy : S.2.2 ≤ 40) : ∀ (m i : Nat) (acc : Int64), i + m = pT P → ∀ fuel, m < fuel → ∃ H, F_X4_digest_33 fuel acc (nI i) u = F_X4_digest_85 FU H 0 u ∧ F_X5_digest_33 fuel acc (nI i) u = F_X5_digest_79 FU H 0 u
  | 0, i, acc, hi, fuel + 1, _ => by
    have hT := hP.1
    unfold F_X4_digest_33 F_X5_digest_33
    rw [hC.1, hM.1, if_pos (nI_le (by omega) (by omega)), if_pos (nI_le (by omega) (by omega))]
    exact ⟨acc, rfl, rfl⟩
  | m + 1, i, acc, hi, fuel + 1, hf => by
    have hT := hP.1
    unfold F_X4_digest_33 F_X5_digest_33
    rw [hC.1, hM.1, if_neg (nI_ge (by omega) (by omega)), if_neg (nI_ge (by omega) (by omega))]
    obtain ⟨H, e1, e2⟩ := dg47 hC hM hP hS hy (i := i) (by omega) (F_X4_digest_33 fuel) (F_X5_digest_33 fuel) 5 0 acc (by omega) FU (by decide)
    rw [show (0 : Int32) = nI 0 from rfl, e1, e2]
    exact dg33 hC hM hP hS hy m (i + 1) H (by omega) fuel (by omega)
theorem dg85 {u : XM} {P : CP} {s0 : PS} (hk : ∀ k, k < 3 → kep u P s0 k) : ∀ (m i : Nat) (acc : Int64), i + m = 3 → ∀ fuel, m < fuel → ∃ H, F_X4_digest_85 fuel acc (nI i) u = F_X4_digest_112 FU H 0 u ∧ F_X5_digest_79 fuel acc (nI i) u = F_X5_digest_127 FU H 0 u
  | 0, i, acc, hi, fuel + 1, _ => by
    unfold F_X4_digest_85 F_X5_digest_79
    rw [if_pos (show (3 : Int32) ≤ nI i from nI_le (a := 3) (by omega) (by omega)), if_pos (show (3 : Int32) ≤ nI i from nI_le (a := 3) (by omega) (by omega))]
    exact ⟨acc, rfl, rfl⟩
  | m + 1, i, acc, hi, fuel + 1, hf => by
    have hi3 : i < 3 := by omega
    unfold F_X4_digest_85 F_X5_digest_79 F_X5_digest_116
    rw [if_neg (show ¬ (3 : Int32) ≤ nI i from nI_ge (b := 3) (by omega) (by omega)), if_neg (show ¬ (3 : Int32) ≤ nI i from nI_ge (b := 3) (by omega) (by omega)), if_pos (ainN rfl hi3 (by decide)), if_pos (ainN rfl hi3 (by decide)), nI_clamp (by omega), nI_1]
    rcases hk i hi3 with ⟨q1, q2⟩ | ⟨ds', n', q0, q1, q2, q3, q4, -⟩
    · rw [q1, q2, if_pos rfl]
      exact dg85 hk m (i + 1) _ (by omega) fuel (by omega)
    · rw [q1, q2, if_neg ne10, show (329 : Int32) * nI i + 328 = nI (329 * i + 328) from n329 i 328, if_pos (ainN rfl (show 329 * i + 328 < 987 by omega) (by decide)), nI_clamp (by omega), q4]
      exact dg85 hk m (i + 1) _ (by omega) fuel (by omega)
theorem dg135 {u : XM} {r n : Nat} (hr : r < 6) (hn : n ≤ 40) (e8 : mi u 8 r = nI n) (e36 : mi u 36 r = nI n) (hrow : ∀ i, i < n → mi u (2 + r) i = mi u 37 (40 * r + i)) (k k' : Int64 → Int32 → XM → Option (Int64 × XM)) : ∀ (m i : Nat) (acc : Int64), i + m = n → ∀ fuel, m < fuel → ∃ H, F_X4_digest_135 k fuel acc (nI r) (nI i) u = k H (nI (r + 1)) u ∧ F_X5_digest_150 k' fuel acc (nI r) (nI i) u = k' H (nI (r + 1)) u
  | 0, i, acc, hi, fuel + 1, _ => by
    unfold F_X4_digest_135 F_X5_digest_150
    rw [if_pos (ainN (k := 8) (t := 0) rfl hr (by decide)), if_pos (ainN (k := 36) (t := 0) rfl hr (by decide)), nI_clamp (by omega), e8, e36, if_pos (nI_le (by omega) (by omega)), if_pos (nI_le (by omega) (by omega)), nI_1]
    exact ⟨acc, rfl, rfl⟩
  | m + 1, i, acc, hi, fuel + 1, hf => by
    unfold F_X4_digest_135 F_X5_digest_150
    rw [if_pos (ainN (k := 8) (t := 0) rfl hr (by decide)), if_pos (ainN (k := 36) (t := 0) rfl hr (by decide)), nI_clamp (show r < 2 ^ 31 by omega), e8, e36, if_neg (nI_ge (by omega) (by omega)), if_neg (nI_ge (by omega) (by omega)), if_pos (ainN rfl hr (by decide)), if_pos (ainN (YY_row hr) (show i < 40 by omega) (by decide)), n40, if_pos (ainN rfl (show 40 * r + i < 240 by omega) (by decide)), nI_clamp (show i < 2 ^ 31 by omega), nI_clamp (show 40 * r + i < 2 ^ 31 by omega), nI_1, hrow i (by omega)]
    exact dg135 hr hn e8 e36 hrow k k' m (i + 1) _ (by omega) fuel (by omega)
theorem dg112 {u : XM} (h : RROW u) : ∀ (m r : Nat) (acc : Int64), r + m = 6 → ∀ fuel, m < fuel → ∃ H, F_X4_digest_112 fuel acc (nI r) u = F_X4_digest_177 FU H 0 u ∧ F_X5_digest_127 fuel acc (nI r) u = F_X5_digest_195 FU H 0 u
  | 0, r, acc, hr, fuel + 1, _ => by
    unfold F_X4_digest_112 F_X5_digest_127
    rw [if_pos (show (6 : Int32) ≤ nI r from nI_le (a := 6) (by omega) (by omega)), if_pos (show (6 : Int32) ≤ nI r from nI_le (a := 6) (by omega) (by omega))]
    exact ⟨acc, rfl, rfl⟩
  | m + 1, r, acc, hr, fuel + 1, hf => by
    have hr6 : r < 6 := by omega
    obtain ⟨e8, hs⟩ := h r hr6
    unfold F_X4_digest_112 F_X5_digest_127
    rw [if_neg (show ¬ (6 : Int32) ≤ nI r from nI_ge (b := 6) (by omega) (by omega)), if_neg (show ¬ (6 : Int32) ≤ nI r from nI_ge (b := 6) (by omega) (by omega)), if_pos (ainN (k := 8) (t := 0) rfl hr6 (by decide)), if_pos (ainN (k := 36) (t := 0) rfl hr6 (by decide)), nI_clamp (by omega)]
    rcases hs with hs | ⟨n, hn, hs, hrow⟩
    · rw [hs] at e8
      rw [← e8, hs]
      show ∃ H, F_X4_digest_135 (F_X4_digest_112 fuel) (999 + 1) _ (nI r) 0 u = _ ∧ F_X5_digest_150 (F_X5_digest_127 fuel) (999 + 1) _ (nI r) 0 u = _
      unfold F_X4_digest_135 F_X5_digest_150
      rw [if_pos (ainN (k := 8) (t := 0) rfl hr6 (by decide)), if_pos (ainN (k := 36) (t := 0) rfl hr6 (by decide)), nI_clamp (by omega), ← e8, hs, if_pos (by decide), if_pos (by decide), nI_1]
      exact dg112 h m (r + 1) _ (by omega) fuel (by omega)
    · rw [hs] at e8
      rw [← e8, hs]
      obtain ⟨H, e1, e2⟩ := dg135 hr6 hn hs e8.symm hrow (F_X4_digest_112 fuel) (F_X5_digest_127 fuel) n 0 (31 * acc + Int32.toInt64 (nI n)) (by omega) FU (by show n < 1000; omega)
      rw [show (0 : Int32) = nI 0 from rfl, e1, e2]
      exact dg112 h m (r + 1) H (by omega) fuel (by omega)
theorem dg199 {u : XM} {r n : Nat} (hr : r < 4) (hn : n ≤ 60) (e8 : mi u 14 r = nI n) (e36 : mi u 38 r = nI n) (hrow : ∀ i, i < n → mi u (10 + r) i = mi u 39 (60 * r + i)) (k k' : Int64 → Int32 → XM → Option (Int64 × XM)) : ∀ (m i : Nat) (acc : Int64), i + m = n → ∀ fuel, m < fuel → ∃ H, F_X4_digest_199 k fuel acc (nI r) (nI i) u = k H (nI (r + 1)) u ∧ F_X5_digest_217 k' fuel acc (nI r) (nI i) u = k' H (nI (r + 1)) u
  | 0, i, acc, hi, fuel + 1, _ => by
    unfold F_X4_digest_199 F_X5_digest_217
    rw [if_pos (ainN (k := 14) (t := 0) rfl hr (by decide)), if_pos (ainN (k := 38) (t := 0) rfl hr (by decide)), nI_clamp (by omega), e8, e36, if_pos (nI_le (by omega) (by omega)), if_pos (nI_le (by omega) (by omega)), nI_1]
    exact ⟨acc, rfl, rfl⟩
  | m + 1, i, acc, hi, fuel + 1, hf => by
    unfold F_X4_digest_199 F_X5_digest_217
    rw [if_pos (ainN (k := 14) (t := 0) rfl hr (by decide)), if_pos (ainN (k := 38) (t := 0) rfl hr (by decide)), nI_clamp (show r < 2 ^ 31 by omega), e8, e36, if_neg (nI_ge (by omega) (by omega)), if_neg (nI_ge (by omega) (by omega)), if_pos (ainN rfl hr (by decide)), if_pos (ainN (YY_txt hr) (show i < 60 by omega) (by decide)), n60, if_pos (ainN rfl (show 60 * r + i < 240 by omega) (by decide)), nI_clamp (show i < 2 ^ 31 by omega), nI_clamp (show 60 * r + i < 2 ^ 31 by omega), nI_1, hrow i (by omega)]
    exact dg199 hr hn e8 e36 hrow k k' m (i + 1) _ (by omega) fuel (by omega)
theorem dg177 {u : XM} (h : RTXT u) : ∀ (m r : Nat) (acc : Int64), r + m = 4 → ∀ fuel, m < fuel → ∃ H, F_X4_digest_177 fuel acc (nI r) u = some (H, u) ∧ F_X5_digest_195 fuel acc (nI r) u = some (H, u)
  | 0, r, acc, hr, fuel + 1, _ => by
    unfold F_X4_digest_177 F_X5_digest_195
    rw [if_pos (show (4 : Int32) ≤ nI r from nI_le (a := 4) (by omega) (by omega)), if_pos (show (4 : Int32) ≤ nI r from nI_le (a := 4) (by omega) (by omega))]
    exact ⟨acc, rfl, rfl⟩
  | m + 1, r, acc, hr, fuel + 1, hf => by
    have hr6 : r < 4 := by omega
    obtain ⟨e8, hs⟩ := h r hr6
    unfold F_X4_digest_177 F_X5_digest_195
    rw [if_neg (show ¬ (4 : Int32) ≤ nI r from nI_ge (b := 4) (by omega) (by omega)), if_neg (show ¬ (4 : Int32) ≤ nI r from nI_ge (b := 4) (by omega) (by omega)), if_pos (ainN (k := 14) (t := 0) rfl hr6 (by decide)), if_pos (ainN (k := 38) (t := 0) rfl hr6 (by decide)), nI_clamp (by omega)]
    rcases hs with hs | ⟨n, hn, hs, hrow⟩
    · rw [hs] at e8
      rw [← e8, hs]
      show ∃ H, F_X4_digest_199 (F_X4_digest_177 fuel) (999 + 1) _ (nI r) 0 u = _ ∧ F_X5_digest_217 (F_X5_digest_195 fuel) (999 + 1) _ (nI r) 0 u = _
      unfold F_X4_digest_199 F_X5_digest_217
      rw [if_pos (ainN (k := 14) (t := 0) rfl hr6 (by decide)), if_pos (ainN (k := 38) (t := 0) rfl hr6 (by decide)), nI_clamp (by omega), ← e8, hs, if_pos (by decide), if_pos (by decide), nI_1]
      exact dg177 h m (r + 1) _ (by omega) fuel (by omega)
    · rw [hs] at e8
      rw [← e8, hs]
      obtain ⟨H, e1, e2⟩ := dg199 hr6 hn hs e8.symm hrow (F_X4_digest_177 fuel) (F_X5_digest_195 fuel) n 0 (31 * acc + Int32.toInt64 (nI n)) (by omega) FU (by show n < 1000; omega)
      rw [show (0 : Int32) = nI 0 from rfl, e1, e2]
      exact dg177 h m (r + 1) H (by omega) fuel (by omega)
theorem ST_digest (u : XM) (h : REL u) : PRL F_X4_digest F_X5_digest u := by
  have hh := h
  obtain ⟨P, S, hP, hS, hy, hC, hM⟩ := h.cur
  obtain ⟨h1, h2, h3, h4, P', s0, ds, n, g1, g2, g3, g4, g5, g6, g7, g8, g9⟩ := h
  have hT := hP.1
  obtain ⟨H1, a1, a2⟩ := dg6 hh 11 0 17 (by omega) FU (by decide)
  obtain ⟨H2, b1, b2⟩ := dg33 hC hM hP hS hy (pT P) 0 H1 (by omega) FU (by show pT P < 1000; omega)
  obtain ⟨H3, c1, c2⟩ := dg85 g9 3 0 H2 (by omega) FU (by decide)
  obtain ⟨H4, d1, d2⟩ := dg112 h1 6 0 H3 (by omega) FU (by decide)
  obtain ⟨H5, e1, e2⟩ := dg177 h2 4 0 H4 (by omega) FU (by decide)
  refine ⟨H5, u, u, ?_, ?_, hh⟩
  · exact a1.trans (b1.trans (c1.trans (d1.trans e1)))
  · exact a2.trans (b2.trans (c2.trans (d2.trans e2)))
