/-! ===== the canal now ===== -/
def nxq (k t p c : Nat) : Nat := match k with
  | 1 => min 7 (c + t + 1)
  | 2 => c
  | 3 => if p = 0 then min 7 (c + t) else c
  | 4 => c - (t + 1)
  | 5 => min 7 (c + p)
  | _ => min 7 (c + t)
theorem nx_q (lv fl k w y c : Nat) : nx lv fl k w y c = if lv = 0 then c else nxq k (if w < fl then 1 else 0) (y % 2) c := by
  unfold nx nxq
  rfl
theorem nxq_le {k t p c : Nat} (h : c ≤ 7) : nxq k t p c ≤ 7 := by
  unfold nxq
  split <;> first | omega | (split <;> omega)
theorem nx_le {lv fl k w y c : Nat} (h : c ≤ 7) : nx lv fl k w y c ≤ 7 := by
  rw [nx_q]
  split
  · exact h
  · exact nxq_le h
theorem act_ok {P : CP} {S : PS} {d i : Nat} (hS : okS P S) (hD : okD P S d i) : okS P (actN P d i S) := by
  obtain ⟨h1, h2⟩ := hS
  obtain ⟨g1, g2, g3, g4, g5⟩ := hD
  match d, g1 with
  | 0, _ =>
    refine ⟨fun j hj => ?_, h2⟩
    show (if S.1 j = 8 then 8 else _) ≤ 8
    split
    · omega
    · have := h1 j hj
      exact Nat.le_succ_of_le (nx_le (by omega))
  | 1, _ => exact ⟨h1, by show S.2.1 - 2 ≤ 9; omega⟩
  | 2, _ => exact ⟨h1, by show min 9 (S.2.1 + 3) ≤ 9; omega⟩
  | 3, _ =>
    refine ⟨fun j hj => ?_, h2⟩
    show (if j = i then S.1 j + 1 else S.1 j) ≤ 8
    have := g3 rfl
    split
    · subst_vars; omega
    · exact h1 j hj
  | 4, _ =>
    refine ⟨fun j hj => ?_, h2⟩
    show (if j = i then S.1 j - 1 else S.1 j) ≤ 8
    have := h1 j hj
    split <;> omega
  | 5, _ =>
    refine ⟨fun j hj => ?_, h2⟩
    show (if j = i then 8 else S.1 j) ≤ 8
    have := h1 j hj
    split <;> omega
theorem act_year {P : CP} {S : PS} {d i : Nat} : (actN P d i S).2.2 ≤ S.2.2 + 1 := by
  unfold actN
  split <;> simp
theorem sq_ok {P : CP} {s0 : PS} {ds : Nat → Nat} {n : Nat} (h0 : okS P s0) (h : okH P s0 ds n) : ∀ j, j ≤ n → okS P (sq P s0 ds j)
  | 0, _ => h0
  | j + 1, hj => act_ok (sq_ok h0 h j (by omega)) (h.2 j (by omega))
theorem sq_year {P : CP} {s0 : PS} {ds : Nat → Nat} (h0 : s0.2.2 = 0) : ∀ j, (sq P s0 ds j).2.2 ≤ j
  | 0 => by show s0.2.2 ≤ 0; omega
  | j + 1 => by
    have := sq_year (P := P) (ds := ds) h0 j
    exact Nat.le_trans act_year (by omega)
theorem REL.cur {u : XM} (h : REL u) : ∃ (P : CP) (S : PS), okP P ∧ okS P S ∧ S.2.2 ≤ 40 ∧ curC u P S ∧ curM u P S := by
  obtain ⟨-, -, -, -, P, s0, ds, n, g1, g2, g3, g4, g5, g6, -⟩ := h
  exact ⟨P, _, g1, sq_ok g2 g4 n (Nat.le_refl _), Nat.le_trans (sq_year g3 n) g4.1, g5, g6⟩
theorem eC_9 {c : Nat} (h : c ≤ 8) : eC c = -9 ↔ c = 8 := by
  unfold eC
  by_cases h8 : c = 8
  · simp [h8]
  · rw [if_neg h8]
    exact ⟨fun q => absurd q (n_neg9 (by omega)), fun q => absurd q h8⟩
theorem eC_n {c : Nat} (h : c ≤ 7) : eC c = nI c := by
  unfold eC
  rw [if_neg (by omega)]
theorem has4 {u : XM} {P : CP} {S : PS} (hC : curC u P S) (hP : okP P) (v : Int32) : F_X0_has v u = some (if 0 ≤ v.toInt ∧ v.toInt < pT P then 1 else 0, u) := by
  unfold F_X0_has
  have hT := hP.1
  rw [hC.1]
  have e : (nI (pT P)).toInt = (pT P : Int) := nI_toInt (by omega)
  by_cases h1 : v < 0
  · rw [if_pos h1, if_neg]; rw [i_lt, e_0] at h1; omega
  · rw [if_neg h1]
    by_cases h2 : nI (pT P) ≤ v
    · rw [if_pos h2, if_neg]; rw [i_le, e] at h2; omega
    · rw [if_neg h2, if_pos]; rw [i_lt, e_0] at h1; rw [i_le, e] at h2; omega
theorem isThing5 {u : XM} {P : CP} {S : PS} (hM : curM u P S) (hP : okP P) (v : Int32) : F_X5_isThing v u = some (if 0 ≤ v.toInt ∧ v.toInt < pT P then 1 else 0, u) := by
  unfold F_X5_isThing
  have hT := hP.1
  rw [hM.1, in5n v (pT P) (by omega), Option.bind_some]
  simp only [nar01, if_true]
theorem isCell4 (v : Int32) (u : XM) : F_X4_isCell v u = some (if 0 ≤ v.toInt ∧ v.toInt < 8 then 1 else 0, u) := by
  unfold F_X4_isCell
  have e8 : (8 : Int32).toInt = 8 := by decide
  by_cases h1 : v < 0
  · rw [if_pos h1, if_neg]; rw [i_lt, e_0] at h1; omega
  · rw [if_neg h1]
    by_cases h2 : 8 ≤ v
    · rw [if_pos h2, if_neg]; rw [i_le, e8] at h2; omega
    · rw [if_neg h2, if_pos]; rw [i_lt, e_0] at h1; rw [i_le, e8] at h2; omega
theorem isCell5 (v : Int32) (u : XM) : F_X5_isCell v u = some (if 0 ≤ v.toInt ∧ v.toInt < 8 then 1 else 0, u) := by
  unfold F_X5_isCell
  rw [in5i v 0 7 u (lo := 0) (hi := 8) (by decide) (by decide), Option.bind_some]
  simp only [nar01, if_true]
theorem isTaken4 {u : XM} {P : CP} {S : PS} (hC : curC u P S) (hP : okP P) (hS : okS P S) {i : Nat} (hi : i < pT P) : F_X0_isTaken (nI i) u = some (if S.1 i = 8 then 1 else 0, u) := by
  unfold F_X0_isTaken
  have hT := hP.1
  rw [if_pos (ainN rfl (show i < 6 by omega) (by decide)), nI_clamp (by omega), (hC.2.2.2.2 i hi).2.2.2]
  by_cases h : S.1 i = 8
  · rw [if_pos ((eC_9 (hS.1 i hi)).mpr h), if_pos h]
  · rw [if_neg (fun q => h ((eC_9 (hS.1 i hi)).mp q)), if_neg h]
theorem z_add (v : Int32) : (0 : Int32) + v = v := Int32.zero_add v
theorem isTaken5 {u : XM} {P : CP} {S : PS} (hM : curM u P S) (hP : okP P) (hS : okS P S) {i : Nat} (hi : i < pT P) : F_X5_isTaken (nI i) u = some (if S.1 i = 8 then 1 else 0, u) := by
  unfold F_X5_isTaken
  have hT := hP.1
  rw [z_add, if_pos (ainN rfl (show i < 8 by omega) (by decide)), nI_clamp (by omega), (hM.2.2.2.2 i hi).2.2.2]
  by_cases h : S.1 i = 8
  · rw [if_pos ((eC_9 (hS.1 i hi)).mpr h), if_pos h]
  · rw [if_neg (fun q => h ((eC_9 (hS.1 i hi)).mp q)), if_neg h]
/-- how far it drifts -/
def drq (k t p : Nat) : Int32 := match k with
  | 1 => nI (t + 1)
  | 2 => 0
  | 3 => if p = 0 then nI t else 0
  | 4 => -(nI (t + 1))
  | 5 => nI p
  | _ => nI t
theorem n_rem2 {y : Nat} (h : y < 2 ^ 31) : nI y - nI y / 2 * 2 = nI (y % 2) := pk_rem (d := 2) h (by decide) (by decide)
theorem p01 (y : Nat) : y % 2 = 0 ∨ y % 2 = 1 := by omega
theorem drift35 (u : XM) {k t p : Nat} (hk : k ≤ 5) (ht : t ≤ 1) (hp : p ≤ 1) : F_X0_drift_35 (nI k) (nI t) (if p = 0 then 1 else 0) u = some (drq k t p, u) := by
  have hk2 : k = 0 ∨ k = 1 ∨ k = 2 ∨ k = 3 ∨ k = 4 ∨ k = 5 := by omega
  have ht2 : t = 0 ∨ t = 1 := by omega
  have hp2 : p = 0 ∨ p = 1 := by omega
  rcases hk2 with rfl | rfl | rfl | rfl | rfl | rfl <;> rcases ht2 with rfl | rfl <;> rcases hp2 with rfl | rfl <;> rfl
theorem drift22 (u : XM) {k t y : Nat} (hk : k ≤ 5) (ht : t ≤ 1) (hy : y < 2 ^ 31) : F_X0_drift_22 (nI k) (nI y) (nI t) u = some (drq k t (y % 2), u) := by
  have := drift35 u hk ht (p := y % 2) (by omega)
  rw [← this]
  unfold F_X0_drift_22
  rw [n_rem2 hy]
  rcases p01 y with h | h
  · rw [h]; rfl
  · rw [h]; rfl
theorem drift4 {u : XM} {P : CP} {S : PS} (hC : curC u P S) (hP : okP P) (hS : okS P S) {k w y : Nat} (hk : k ≤ 5) (hw : w ≤ 9) (hy : y < 2 ^ 31) : F_X0_drift (nI k) (nI w) (nI y) u = some (if S.2.1 = 0 then 0 else drq k (if w < pF P then 1 else 0) (y % 2), u) := by
  unfold F_X0_drift
  have hl := hS.2
  have hf := hP.2.1
  rw [hC.2.2.1, hC.2.1]
  by_cases h0 : S.2.1 = 0
  · rw [h0]; rfl
  · rw [if_neg (nI_ne0 (by omega) (by omega)), if_neg h0]
    by_cases hw2 : w < pF P
    · rw [if_neg (nI_ge hw2 (by omega)), if_pos hw2]
      exact drift22 u hk (t := 1) (by omega) hy
    · rw [if_pos (nI_le (by omega) (by omega)), if_neg hw2]
      exact drift22 u hk (t := 0) (by omega) hy
theorem drifts13 (u : XM) {k t y : Nat} (hk : k ≤ 5) (ht : t ≤ 1) (hy : y < 2 ^ 31) : F_X5_drifts_13 (nI k) (nI y) (nI t) u = some (drq k t (y % 2), u) := by
  unfold F_X5_drifts_13
  rw [n_rem2 hy]
  have hk2 : k = 0 ∨ k = 1 ∨ k = 2 ∨ k = 3 ∨ k = 4 ∨ k = 5 := by omega
  have ht2 : t = 0 ∨ t = 1 := by omega
  rcases p01 y with h | h <;> rw [h] <;> rcases hk2 with rfl | rfl | rfl | rfl | rfl | rfl <;> rcases ht2 with rfl | rfl <;> rfl
theorem drifts5 {u : XM} {P : CP} {S : PS} (hM : curM u P S) (hP : okP P) {k w y : Nat} (hk : k ≤ 5) (hw : w ≤ 9) (hy : y < 2 ^ 31) : F_X5_drifts (nI k) (nI w) (nI y) u = some (drq k (if w < pF P then 1 else 0) (y % 2), u) := by
  unfold F_X5_drifts
  have hf := hP.2.1
  rw [hM.2.1]
  by_cases hw2 : w < pF P
  · rw [if_neg (nI_ge hw2 (by omega)), if_pos hw2]
    exact drifts13 u hk (t := 1) (by omega) hy
  · rw [if_pos (nI_le (by omega) (by omega)), if_neg hw2]
    exact drifts13 u hk (t := 0) (by omega) hy
theorem min4 (Y : List XS) (a b : Int32) (u : XM) : F_J9_min_7cf53 Y a b u = some (if b < a then b else a, u) := by
  unfold F_J9_min_7cf53
  split <;> rfl
theorem max4 (Y : List XS) (a b : Int32) (u : XM) : F_J9_max_7cf53 Y a b u = some (if a < b then b else a, u) := by
  unfold F_J9_max_7cf53
  split <;> rfl
theorem bound5 (v : Int32) (u : XM) : F_X5_bound v u = some (if 0 ≤ v then (if v ≤ 7 then v else 7) else 0, u) := by
  unfold F_X5_bound
  split
  · split <;> rfl
  · rfl
theorem clamp_q : ∀ c, c < 8 → ∀ k, k < 6 → ∀ t, t < 2 → ∀ p, p < 2 → (if (0 : Int32) < (if nI c + drq k t p < 7 then nI c + drq k t p else 7) then (if nI c + drq k t p < 7 then nI c + drq k t p else 7) else 0) = nI (nxq k t p c) := by decide +kernel
theorem bound_q : ∀ c, c < 8 → ∀ k, k < 6 → ∀ t, t < 2 → ∀ p, p < 2 → (if (0 : Int32) ≤ nI c + drq k t p then (if nI c + drq k t p ≤ 7 then nI c + drq k t p else 7) else 0) = nI (nxq k t p c) := by decide +kernel
theorem clamp_0 : ∀ c, c < 8 → (if (0 : Int32) < (if nI c + 0 < 7 then nI c + 0 else 7) then (if nI c + 0 < 7 then nI c + 0 else 7) else 0) = nI c := by decide +kernel
theorem bt01 (w f : Nat) : (if w < f then 1 else 0) < 2 := by split <;> omega
theorem step4 {u : XM} {P : CP} {S : PS} (hC : curC u P S) (hP : okP P) (hS : okS P S) {k w y c : Nat} (hk : k ≤ 5) (hw : w ≤ 9) (hy : y < 2 ^ 31) (hc : c ≤ 7) : F_X0_step (nI k) (nI w) (nI c) (nI y) u = some (nI (nx S.2.1 (pF P) k w y c), u) := by
  unfold F_X0_step
  rw [drift4 hC hP hS hk hw hy, Option.bind_some]
  simp only [min4, max4, Option.bind_some]
  rw [nx_q]
  by_cases h0 : S.2.1 = 0
  · rw [if_pos h0, if_pos h0, clamp_0 c (by omega)]
  · rw [if_neg h0, if_neg h0, clamp_q c (by omega) k (by omega) _ (bt01 _ _) _ (by omega)]
theorem next5 {u : XM} {P : CP} {S : PS} (hM : curM u P S) (hP : okP P) (hS : okS P S) {k w y c : Nat} (hk : k ≤ 5) (hw : w ≤ 9) (hy : y < 2 ^ 31) (hc : c ≤ 7) : F_X5_next (nI k) (nI w) (nI c) (nI y) u = some (nI (nx S.2.1 (pF P) k w y c), u) := by
  unfold F_X5_next
  have hl := hS.2
  rw [if_pos (by decide), show Int32.toNatClampNeg 6 = 6 from by decide, hM.2.2.1, nx_q]
  by_cases h0 : S.2.1 = 0
  · rw [h0]; rfl
  · rw [if_neg (nI_ne0 (by omega) (by omega)), if_neg h0, drifts5 hM hP hk hw hy, Option.bind_some]
    simp only [bound5, Option.bind_some]
    rw [bound_q c (by omega) k (by omega) _ (bt01 w (pF P)) (y % 2) (by omega)]
/-- where it lies in n years, from year y on -/
def nxs (lv fl k w : Nat) : Nat → Nat → Nat → Nat
  | _, 0, c => c
  | y, n + 1, c => nxs lv fl k w (y + 1) n (nx lv fl k w y c)
theorem nxs_le {lv fl k w : Nat} : ∀ (n y c : Nat), c ≤ 7 → nxs lv fl k w y n c ≤ 7
  | 0, _, _, h => h
  | n + 1, y, c, h => nxs_le n (y + 1) _ (nx_le h)
theorem drifted_l {u : XM} {P : CP} {S : PS} (hC : curC u P S) (hP : okP P) (hS : okS P S) {k w n : Nat} (hk : k ≤ 5) (hw : w ≤ 9) (hn : n < 1000) (hy : S.2.2 ≤ 40) : ∀ (m j c : Nat), j + m = n → c ≤ 7 → ∀ fuel, m < fuel → F_X0_drifted_6 fuel (nI k) (nI w) (nI n) (nI c) (nI j) u = some (nI (nxs S.2.1 (pF P) k w (S.2.2 + j) m c), u)
  | 0, j, c, hj, hc, fuel + 1, _ => by
    unfold F_X0_drifted_6
    rw [if_pos (nI_le (by omega) (by omega))]
    rfl
  | m + 1, j, c, hj, hc, fuel + 1, hf => by
    unfold F_X0_drifted_6
    rw [if_neg (nI_ge (by omega) (by omega)), hC.2.2.2.1, nI_add, step4 hC hP hS hk hw (by omega) hc, Option.bind_some, nI_1]
    rw [drifted_l hC hP hS hk hw hn hy m (j + 1) _ (by omega) (nx_le hc) fuel (by omega)]
    rfl
theorem drifted4 {u : XM} {P : CP} {S : PS} (hC : curC u P S) (hP : okP P) (hS : okS P S) (hy : S.2.2 ≤ 40) {k w n c : Nat} (hk : k ≤ 5) (hw : w ≤ 9) (hn : n < 900) (hc : c ≤ 7) : F_X0_drifted (nI k) (nI w) (nI c) (nI n) u = some (nI (nxs S.2.1 (pF P) k w S.2.2 n c), u) :=
  drifted_l hC hP hS hk hw (n := n) (by omega) hy n 0 c (by omega) hc FU (show n < 1000 by omega)
theorem after_l {u : XM} {P : CP} {S : PS} (hM : curM u P S) (hP : okP P) (hS : okS P S) {k w n : Nat} (hk : k ≤ 5) (hw : w ≤ 9) (hn : n < 1000) (hy : S.2.2 ≤ 40) : ∀ (m j c : Nat), j + m = n → c ≤ 7 → ∀ fuel, m < fuel → F_X5_after_6 fuel (nI k) (nI w) (nI n) (nI c) (nI j) u = some (nI (nxs S.2.1 (pF P) k w (S.2.2 + j) m c), u)
  | 0, j, c, hj, hc, fuel + 1, _ => by
    unfold F_X5_after_6
    rw [if_pos (nI_le (by omega) (by omega))]
    rfl
  | m + 1, j, c, hj, hc, fuel + 1, hf => by
    unfold F_X5_after_6
    rw [if_neg (nI_ge (by omega) (by omega)), if_pos (by decide), show Int32.toNatClampNeg 7 = 7 from by decide, hM.2.2.2.1, nI_add, next5 hM hP hS hk hw (by omega) hc, Option.bind_some, nI_1]
    rw [after_l hM hP hS hk hw hn hy m (j + 1) _ (by omega) (nx_le hc) fuel (by omega)]
    rfl
theorem after5 {u : XM} {P : CP} {S : PS} (hM : curM u P S) (hP : okP P) (hS : okS P S) (hy : S.2.2 ≤ 40) {k w n c : Nat} (hk : k ≤ 5) (hw : w ≤ 9) (hn : n < 900) (hc : c ≤ 7) : F_X5_after (nI k) (nI w) (nI c) (nI n) u = some (nI (nxs S.2.1 (pF P) k w S.2.2 n c), u) :=
  after_l hM hP hS hk hw (n := n) (by omega) hy n 0 c (by omega) hc FU (show n < 1000 by omega)
/-- thing i, from cell c, in n years -/
def inY (P : CP) (S : PS) (i n c : Nat) : Nat := nxs S.2.1 (pF P) (pK P i) (pW P i) S.2.2 n c
theorem cellAfter4 {u : XM} {P : CP} {S : PS} (hC : curC u P S) (hP : okP P) (hS : okS P S) (hy : S.2.2 ≤ 40) {i n c : Nat} (hi : i < pT P) (hn : n < 900) (hc : c ≤ 7) : F_X0_cellAfter (nI i) (nI c) (nI n) u = some (nI (inY P S i n c), u) := by
  unfold F_X0_cellAfter
  have hT := hP.1
  obtain ⟨o1, o2, o3⟩ := hP.2.2 i hi
  obtain ⟨c1, c2, c3, c4⟩ := hC.2.2.2.2 i hi
  rw [if_pos (ainN rfl (show i < 6 by omega) (by decide)), if_pos (ainN rfl (show i < 6 by omega) (by decide)), nI_clamp (by omega), c1, c2, drifted4 hC hP hS hy o1 o2 hn hc, Option.bind_some]
  rfl
theorem afterOf5 {u : XM} {P : CP} {S : PS} (hM : curM u P S) (hP : okP P) (hS : okS P S) (hy : S.2.2 ≤ 40) {i n c : Nat} (hi : i < pT P) (hn : n < 900) (hc : c ≤ 7) : F_X5_afterOf (nI i) (nI c) (nI n) u = some (nI (inY P S i n c), u) := by
  unfold F_X5_afterOf
  have hT := hP.1
  obtain ⟨o1, o2, o3⟩ := hP.2.2 i hi
  obtain ⟨c1, c2, c3, c4⟩ := hM.2.2.2.2 i hi
  rw [if_pos (ainN rfl (show i < 6 by omega) (by decide)), if_pos (ainN rfl (show i < 6 by omega) (by decide)), nI_clamp (by omega), c1, c2, after5 hM hP hS hy o1 o2 hn hc, Option.bind_some]
  rfl
theorem inY_le {P : CP} {S : PS} {i n c : Nat} (hc : c ≤ 7) : inY P S i n c ≤ 7 := nxs_le n _ c hc
