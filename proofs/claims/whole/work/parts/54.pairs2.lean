def fitq (P : CP) (S : PS) (k w s : Nat) (Y C : Nat → Nat) (j : Nat) : Bool := decide (nxs S.2.1 (pF P) k w S.2.2 (Y j) s = C j)
theorem fits_l {u : XM} {P : CP} {S : PS} (hC : curC u P S) (hP : okP P) (hS : okS P S) (hy : S.2.2 ≤ 40) {r h : Nat} {Y C : Nat → Nat} (hr : r < 6) (hO : prOK u r h Y C) {k w s : Nat} (hk : k ≤ 5) (hw : w ≤ 9) (hs : s ≤ 7) : ∀ (m j : Nat), j + m = h → ∀ fuel, m < fuel → F_X4_fitsPairs_3 fuel (nI k) (nI w) (nI s) (nI r) (nI (2 * j)) u = some (if al (fitq P S k w s Y C) j m = true then 1 else 0, u)
  | 0, j, hj, fuel + 1, _ => by
    obtain ⟨o1, o2, o3, o4⟩ := hO
    unfold F_X4_fitsPairs_3
    rw [if_pos (ainN rfl hr (by decide)), nI_clamp (by omega), o2, nI_1, if_pos (nI_le (by omega) (by omega))]
    rfl
  | m + 1, j, hj, fuel + 1, hf => by
    have ih := fits_l hC hP hS hy hr hO hk hw hs m (j + 1) (by omega) fuel (by omega)
    obtain ⟨o1, o2, o3, o4⟩ := hO
    obtain ⟨y20, c7, e1, e2, -, -⟩ := o4 j (by omega)
    have a1 : ain YY 3 1 (nI r) = true := ainN rfl hr (by decide)
    have a2 : ain YY 0 (2 + r) (nI (2 * j)) = true := ainN (YY_row hr) (by omega) (by decide)
    have a3 : ain YY 0 (2 + r) (nI (2 * j + 1)) = true := ainN (YY_row hr) (by omega) (by decide)
    have hle := nxs_le (lv := S.2.1) (fl := pF P) (k := k) (w := w) (Y j) S.2.2 s hs
    unfold F_X4_fitsPairs_3 al
    rw [if_pos (ainN (k := 8) (t := 0) rfl hr (by decide)), nI_clamp (show r < 2 ^ 31 by omega), o2, nI_1, if_neg (nI_ge (by omega) (by omega)), if_pos a1, if_pos a2, nI_clamp (show 2 * j < 2 ^ 31 by omega), e1, drifted4 hC hP hS hy hk hw (by omega) hs, Option.bind_some, if_pos a1, if_pos a3, nI_clamp (show 2 * j + 1 < 2 ^ 31 by omega)]
    show (if nI (nxs S.2.1 (pF P) k w S.2.2 (Y j) s) = mi u (2 + r) (2 * j + 1) then F_X4_fitsPairs_3 fuel (nI k) (nI w) (nI s) (nI r) (nI (2 * j) + 2) u else some (0, u)) = _
    rw [e2, nI_2]
    unfold fitq
    by_cases q : nxs S.2.1 (pF P) k w S.2.2 (Y j) s = C j
    · rw [if_pos (by rw [q]), decide_eq_true q, Bool.true_and]
      exact ih
    · rw [if_neg (fun z => q (n_inj z (by omega) (by omega))), decide_eq_false q, Bool.false_and]
      rfl
theorem fits4 {u : XM} {P : CP} {S : PS} (hC : curC u P S) (hP : okP P) (hS : okS P S) (hy : S.2.2 ≤ 40) {r h : Nat} {Y C : Nat → Nat} (hr : r < 6) (hO : prOK u r h Y C) {k w s : Nat} (hk : k ≤ 5) (hw : w ≤ 9) (hs : s ≤ 7) : F_X4_fitsPairs (nI k) (nI w) (nI s) (nI r) u = some (if al (fitq P S k w s Y C) 0 h = true then 1 else 0, u) := fits_l hC hP hS hy hr hO hk hw hs h 0 (by omega) FU (by have := hO.1; show h < 1000; omega)
theorem so_l {u : XM} {P : CP} {S : PS} (hM : curM u P S) (hP : okP P) (hS : okS P S) (hy : S.2.2 ≤ 40) {r h : Nat} {Y C : Nat → Nat} (hr : r < 6) (hO : prOK u r h Y C) {k w s : Nat} (hk : k ≤ 5) (hw : w ≤ 9) (hs : s ≤ 7) : ∀ (m j : Nat) (b : Bool), j + m = h → ∀ fuel, m < fuel → F_X5_isSo_6 fuel (nI r) (nI k) (nI w) (nI s) (if b = true then 1 else 0) (nI (2 * j)) u = some (if (b && al (fitq P S k w s Y C) j m) = true then 1 else 0, u)
  | 0, j, b, hj, fuel + 1, _ => by
    obtain ⟨o1, o2, o3, o4⟩ := hO
    unfold F_X5_isSo_6
    rw [if_pos (ainN rfl hr (by decide)), nI_clamp (by omega), o3, if_pos (nI_le (by omega) (by omega))]
    cases b <;> rfl
  | m + 1, j, b, hj, fuel + 1, hf => by
    have ih := fun b => so_l hM hP hS hy hr hO hk hw hs m (j + 1) b (by omega) fuel (by omega)
    obtain ⟨o1, o2, o3, o4⟩ := hO
    obtain ⟨y20, c7, -, -, e1, e2⟩ := o4 j (by omega)
    have a2 : ain YY 0 37 (nI (40 * r + 2 * j)) = true := ainN rfl (show 40 * r + 2 * j < 240 by omega) (by decide)
    have a3 : ain YY 0 37 (nI (40 * r + 2 * j + 1)) = true := ainN rfl (show 40 * r + 2 * j + 1 < 240 by omega) (by decide)
    have hle := nxs_le (lv := S.2.1) (fl := pF P) (k := k) (w := w) (Y j) S.2.2 s hs
    have i0 : F_X5_isSo_6 fuel (nI r) (nI k) (nI w) (nI s) 0 (nI (2 * (j + 1))) u = some (0, u) := ih false
    have i1 : F_X5_isSo_6 fuel (nI r) (nI k) (nI w) (nI s) 1 (nI (2 * (j + 1))) u = some (if al (fitq P S k w s Y C) (j + 1) m = true then 1 else 0, u) := by
      have := ih true
      rw [Bool.true_and] at this
      exact this
    unfold F_X5_isSo_6 al
    unfold F_X5_isSo_63 F_X5_isSo_64
    rw [if_pos (ainN (k := 36) (t := 0) rfl hr (by decide)), nI_clamp (show r < 2 ^ 31 by omega), o3, if_neg (nI_ge (by omega) (by omega)), nI_2, n40, nI_1, if_pos a2, nI_clamp (show 40 * r + 2 * j < 2 ^ 31 by omega)]
    cases b
    · rw [Bool.false_and, if_pos (show (if false = true then (1 : Int32) else 0) = 0 by decide)]
      exact i0
    · rw [Bool.true_and, if_neg (show ¬ (if true = true then (1 : Int32) else 0) = 0 by decide), e1, after5 hM hP hS hy hk hw (by omega) hs, Option.bind_some, if_pos a3, nI_clamp (show 40 * r + 2 * j + 1 < 2 ^ 31 by omega)]
      show (if nI (nxs S.2.1 (pF P) k w S.2.2 (Y j) s) = mi u 37 (40 * r + 2 * j + 1) then F_X5_isSo_6 fuel (nI r) (nI k) (nI w) (nI s) 1 (nI (2 * j + 2)) u else F_X5_isSo_6 fuel (nI r) (nI k) (nI w) (nI s) 0 (nI (2 * j + 2)) u) = _
      rw [e2]
      unfold fitq
      by_cases q : nxs S.2.1 (pF P) k w S.2.2 (Y j) s = C j
      · rw [if_pos (by rw [q]), decide_eq_true q, Bool.true_and]
        exact i1
      · rw [if_neg (fun z => q (n_inj z (by omega) (by omega))), decide_eq_false q, Bool.false_and]
        exact i0
theorem so5 {u : XM} {P : CP} {S : PS} (hM : curM u P S) (hP : okP P) (hS : okS P S) (hy : S.2.2 ≤ 40) {r h : Nat} {Y C : Nat → Nat} (hr : r < 6) (hO : prOK u r h Y C) {k w s : Nat} (hk : k ≤ 5) (hw : w ≤ 9) (hs : s ≤ 7) : F_X5_isSo (nI r) (nI k) (nI w) (nI s) u = some (if al (fitq P S k w s Y C) 0 h = true then 1 else 0, u) := by
  have := so_l hM hP hS hy hr hO hk hw hs h 0 true (by omega) FU (by have := hO.1; show h < 1000; omega)
  rw [Bool.true_and] at this
  exact this
/-! the three sets -/
theorem starts4_l {u : XM} {P : CP} {S : PS} (hC : curC u P S) (hP : okP P) (hS : okS P S) (hy : S.2.2 ≤ 40) {r h : Nat} {Y C : Nat → Nat} (hr : r < 6) (hO : prOK u r h Y C) {i : Nat} (hi : i < pT P) : ∀ (m a : Nat) (acc : Int32), a + m = 8 → ∀ fuel, m < fuel → F_X4_starts_42 fuel (nI i) (nI r) acc (nI a) u = some (sb (fun s => al (fitq P S (pK P i) (pW P i) s Y C) 0 h) a m acc, u)
  | 0, a, acc, ha, fuel + 1, _ => by
    unfold F_X4_starts_42
    rw [if_pos (show (8 : Int32) ≤ nI a from nI_le (a := 8) (by omega) (by omega))]
    rfl
  | m + 1, a, acc, ha, fuel + 1, hf => by
    have hT := hP.1
    have ih := fun x => starts4_l hC hP hS hy hr hO hi m (a + 1) x (by omega) fuel (by omega)
    obtain ⟨o1, o2, o3⟩ := hP.2.2 i hi
    obtain ⟨c1, c2, c3, c4⟩ := hC.2.2.2.2 i hi
    unfold F_X4_starts_42 F_X4_starts_86 sb
    rw [if_neg (show ¬ (8 : Int32) ≤ nI a from nI_ge (b := 8) (by omega) (by omega)), if_pos (ainN (k := 23) (t := 0) rfl (show i < 6 by omega) (by decide)), if_pos (ainN (k := 26) (t := 0) rfl (show i < 6 by omega) (by decide)), nI_clamp (by omega), c1, c2, fits4 hC hP hS hy hr hO o1 o2 (by omega)]
    by_cases q : al (fitq P S (pK P i) (pW P i) a Y C) 0 h = true
    · rw [if_pos q, bd1, nI_1, if_pos q]; exact ih _
    · rw [if_neg q, bd0, nI_1, if_neg q]; exact ih _
theorem starts5_l {u : XM} {P : CP} {S : PS} (hM : curM u P S) (hP : okP P) (hS : okS P S) (hy : S.2.2 ≤ 40) {r h : Nat} {Y C : Nat → Nat} (hr : r < 6) (hO : prOK u r h Y C) {i : Nat} (hi : i < pT P) : ∀ (m a : Nat) (acc : Int32), a + m = 8 → ∀ fuel, m < fuel → F_X5_starts_39 fuel (nI i) (nI r) acc (nI a) u = some (sb (fun s => al (fitq P S (pK P i) (pW P i) s Y C) 0 h) a m acc, u)
  | 0, a, acc, ha, fuel + 1, _ => by
    unfold F_X5_starts_39
    rw [if_pos (show (8 : Int32) ≤ nI a from nI_le (a := 8) (by omega) (by omega))]
    rfl
  | m + 1, a, acc, ha, fuel + 1, hf => by
    have hT := hP.1
    have ih := fun x => starts5_l hM hP hS hy hr hO hi m (a + 1) x (by omega) fuel (by omega)
    obtain ⟨o1, o2, o3⟩ := hP.2.2 i hi
    obtain ⟨c1, c2, c3, c4⟩ := hM.2.2.2.2 i hi
    unfold F_X5_starts_39 F_X5_starts_78 sb
    rw [if_neg (show ¬ (8 : Int32) ≤ nI a from nI_ge (b := 8) (by omega) (by omega)), if_pos (ainN (k := 40) (t := 0) rfl (show i < 6 by omega) (by decide)), if_pos (ainN (k := 41) (t := 0) rfl (show i < 6 by omega) (by decide)), nI_clamp (by omega), c1, c2, so5 hM hP hS hy hr hO o1 o2 (by omega)]
    by_cases q : al (fitq P S (pK P i) (pW P i) a Y C) 0 h = true
    · rw [if_pos q, bd1, nI_1, if_pos q]; exact ih _
    · rw [if_neg q, bd0, nI_1, if_neg q, or_z]; exact ih _
theorem weights4_l {u : XM} {P : CP} {S : PS} (hC : curC u P S) (hP : okP P) (hS : okS P S) (hy : S.2.2 ≤ 40) {r h : Nat} {Y C : Nat → Nat} (hr : r < 6) (hO : prOK u r h Y C) {i : Nat} (hi : i < pT P) (h7 : S.1 i ≤ 7) : ∀ (m a : Nat) (acc : Int32), a + m = 10 → ∀ fuel, m < fuel → F_X4_weights_56 fuel (nI i) (nI r) acc (nI a) u = some (sb (fun s => al (fitq P S (pK P i) s (S.1 i) Y C) 0 h) a m acc, u)
  | 0, a, acc, ha, fuel + 1, _ => by
    unfold F_X4_weights_56
    rw [if_pos (show (10 : Int32) ≤ nI a from nI_le (a := 10) (by omega) (by omega))]
    rfl
  | m + 1, a, acc, ha, fuel + 1, hf => by
    have hT := hP.1
    have ih := fun x => weights4_l hC hP hS hy hr hO hi h7 m (a + 1) x (by omega) fuel (by omega)
    obtain ⟨o1, o2, o3⟩ := hP.2.2 i hi
    obtain ⟨c1, c2, c3, c4⟩ := hC.2.2.2.2 i hi
    unfold F_X4_weights_56 F_X4_weights_100 sb
    rw [if_neg (show ¬ (10 : Int32) ≤ nI a from nI_ge (b := 10) (by omega) (by omega)), if_pos (ainN (k := 23) (t := 0) rfl (show i < 6 by omega) (by decide)), if_pos (ainN (k := 25) (t := 0) rfl (show i < 6 by omega) (by decide)), nI_clamp (by omega), c1, c4, eC_n h7, fits4 hC hP hS hy hr hO o1 (show a ≤ 9 by omega) h7]
    by_cases q : al (fitq P S (pK P i) a (S.1 i) Y C) 0 h = true
    · rw [if_pos q, bd1, nI_1, if_pos q]; exact ih _
    · rw [if_neg q, bd0, nI_1, if_neg q]; exact ih _
theorem weights5_l {u : XM} {P : CP} {S : PS} (hM : curM u P S) (hP : okP P) (hS : okS P S) (hy : S.2.2 ≤ 40) {r h : Nat} {Y C : Nat → Nat} (hr : r < 6) (hO : prOK u r h Y C) {i : Nat} (hi : i < pT P) (h7 : S.1 i ≤ 7) : ∀ (m a : Nat) (acc : Int32), a + m = 10 → ∀ fuel, m < fuel → F_X5_weights_50 fuel (nI i) (nI r) acc (nI a) u = some (sb (fun s => al (fitq P S (pK P i) s (S.1 i) Y C) 0 h) a m acc, u)
  | 0, a, acc, ha, fuel + 1, _ => by
    unfold F_X5_weights_50
    rw [if_pos (show (10 : Int32) ≤ nI a from nI_le (a := 10) (by omega) (by omega))]
    rfl
  | m + 1, a, acc, ha, fuel + 1, hf => by
    have hT := hP.1
    have ih := fun x => weights5_l hM hP hS hy hr hO hi h7 m (a + 1) x (by omega) fuel (by omega)
    obtain ⟨o1, o2, o3⟩ := hP.2.2 i hi
    obtain ⟨c1, c2, c3, c4⟩ := hM.2.2.2.2 i hi
    unfold F_X5_weights_50 F_X5_weights_91 sb
    rw [if_neg (show ¬ (10 : Int32) ≤ nI a from nI_ge (b := 10) (by omega) (by omega)), z_add, if_pos (ainN (k := 40) (t := 0) rfl (show i < 6 by omega) (by decide)), if_pos (ainN (k := 43) (t := 0) rfl (show i < 8 by omega) (by decide)), nI_clamp (by omega), c1, c4, eC_n h7, so5 hM hP hS hy hr hO o1 (show a ≤ 9 by omega) h7]
    by_cases q : al (fitq P S (pK P i) a (S.1 i) Y C) 0 h = true
    · rw [if_pos q, bd1, nI_1, if_pos q]; exact ih _
    · rw [if_neg q, bd0, nI_1, if_neg q, or_z]; exact ih _
theorem kinds4_l {u : XM} {P : CP} {S : PS} (hC : curC u P S) (hP : okP P) (hS : okS P S) (hy : S.2.2 ≤ 40) {r h : Nat} {Y C : Nat → Nat} (hr : r < 6) (hO : prOK u r h Y C) {i : Nat} (hi : i < pT P) (h7 : S.1 i ≤ 7) : ∀ (m a : Nat) (acc : Int32), a + m = 6 → ∀ fuel, m < fuel → F_X4_kinds_56 fuel (nI i) (nI r) acc (nI a) u = some (sb (fun s => al (fitq P S s (pW P i) (S.1 i) Y C) 0 h) a m acc, u)
  | 0, a, acc, ha, fuel + 1, _ => by
    unfold F_X4_kinds_56
    rw [if_pos (show (6 : Int32) ≤ nI a from nI_le (a := 6) (by omega) (by omega))]
    rfl
  | m + 1, a, acc, ha, fuel + 1, hf => by
    have hT := hP.1
    have ih := fun x => kinds4_l hC hP hS hy hr hO hi h7 m (a + 1) x (by omega) fuel (by omega)
    obtain ⟨o1, o2, o3⟩ := hP.2.2 i hi
    obtain ⟨c1, c2, c3, c4⟩ := hC.2.2.2.2 i hi
    unfold F_X4_kinds_56 F_X4_kinds_100 sb
    rw [if_neg (show ¬ (6 : Int32) ≤ nI a from nI_ge (b := 6) (by omega) (by omega)), if_pos (ainN (k := 26) (t := 0) rfl (show i < 6 by omega) (by decide)), if_pos (ainN (k := 25) (t := 0) rfl (show i < 6 by omega) (by decide)), nI_clamp (by omega), c2, c4, eC_n h7, fits4 hC hP hS hy hr hO (show a ≤ 5 by omega) o2 h7]
    by_cases q : al (fitq P S a (pW P i) (S.1 i) Y C) 0 h = true
    · rw [if_pos q, bd1, nI_1, if_pos q]; exact ih _
    · rw [if_neg q, bd0, nI_1, if_neg q]; exact ih _
theorem kinds5_l {u : XM} {P : CP} {S : PS} (hM : curM u P S) (hP : okP P) (hS : okS P S) (hy : S.2.2 ≤ 40) {r h : Nat} {Y C : Nat → Nat} (hr : r < 6) (hO : prOK u r h Y C) {i : Nat} (hi : i < pT P) (h7 : S.1 i ≤ 7) : ∀ (m a : Nat) (acc : Int32), a + m = 6 → ∀ fuel, m < fuel → F_X5_kinds_50 fuel (nI i) (nI r) acc (nI a) u = some (sb (fun s => al (fitq P S s (pW P i) (S.1 i) Y C) 0 h) a m acc, u)
  | 0, a, acc, ha, fuel + 1, _ => by
    unfold F_X5_kinds_50
    rw [if_pos (show (6 : Int32) ≤ nI a from nI_le (a := 6) (by omega) (by omega))]
    rfl
  | m + 1, a, acc, ha, fuel + 1, hf => by
    have hT := hP.1
    have ih := fun x => kinds5_l hM hP hS hy hr hO hi h7 m (a + 1) x (by omega) fuel (by omega)
    obtain ⟨o1, o2, o3⟩ := hP.2.2 i hi
    obtain ⟨c1, c2, c3, c4⟩ := hM.2.2.2.2 i hi
    unfold F_X5_kinds_50 F_X5_kinds_91 sb
    rw [if_neg (show ¬ (6 : Int32) ≤ nI a from nI_ge (b := 6) (by omega) (by omega)), z_add, if_pos (ainN (k := 41) (t := 0) rfl (show i < 6 by omega) (by decide)), if_pos (ainN (k := 43) (t := 0) rfl (show i < 8 by omega) (by decide)), nI_clamp (by omega), c2, c4, eC_n h7, so5 hM hP hS hy hr hO (show a ≤ 5 by omega) o2 h7]
    by_cases q : al (fitq P S a (pW P i) (S.1 i) Y C) 0 h = true
    · rw [if_pos q, bd1, nI_1, if_pos q]; exact ih _
    · rw [if_neg q, bd0, nI_1, if_neg q, or_z]; exact ih _
