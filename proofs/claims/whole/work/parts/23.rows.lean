/-! ===== rows and texts ===== -/
theorem i_nat {v : Int32} {n : Nat} (h : 0 ≤ v.toInt ∧ v.toInt < n) (hn : n ≤ 2 ^ 31) : ∃ j : Nat, j < n ∧ v = nI j := by
  refine ⟨v.toInt.toNat, by omega, ?_⟩
  rw [i_ext, nI_toInt (by omega)]
  omega
theorem n_inj {a b : Nat} (h : nI a = nI b) (ha : a < 2 ^ 31) (hb : b < 2 ^ 31) : a = b := (nI_eq ha hb).mp h
theorem n_neg {n : Nat} (h : n < 2 ^ 31) : ¬ nI n = -1 := fun q => by
  have := i_ext.mp q
  rw [nI_toInt h] at this
  have e : (-1 : Int32).toInt = -1 := by decide
  omega
theorem n_neg9 {n : Nat} (h : n < 2 ^ 31) : ¬ nI n = -9 := fun q => by
  have := i_ext.mp q
  rw [nI_toInt h] at this
  have e : (-9 : Int32).toInt = -9 := by decide
  omega
theorem isRow4 (v : Int32) (u : XM) : F_X4_isRow v u = some (if 0 ≤ v.toInt ∧ v.toInt < 6 then 1 else 0, u) := by
  unfold F_X4_isRow
  have e0 : (0 : Int32).toInt = 0 := by decide
  have e6 : (6 : Int32).toInt = 6 := by decide
  by_cases h1 : v < 0
  · rw [if_pos h1, if_neg]; rw [i_lt, e0] at h1; omega
  · rw [if_neg h1]
    by_cases h2 : 6 ≤ v
    · rw [if_pos h2, if_neg]; rw [i_le, e6] at h2; omega
    · rw [if_neg h2, if_pos]; rw [i_lt, e0] at h1; rw [i_le, e6] at h2; omega
theorem isText4 (v : Int32) (u : XM) : F_X4_isText v u = some (if 0 ≤ v.toInt ∧ v.toInt < 4 then 1 else 0, u) := by
  unfold F_X4_isText
  have e0 : (0 : Int32).toInt = 0 := by decide
  have e6 : (4 : Int32).toInt = 4 := by decide
  by_cases h1 : v < 0
  · rw [if_pos h1, if_neg]; rw [i_lt, e0] at h1; omega
  · rw [if_neg h1]
    by_cases h2 : 4 ≤ v
    · rw [if_pos h2, if_neg]; rw [i_le, e6] at h2; omega
    · rw [if_neg h2, if_pos]; rw [i_lt, e0] at h1; rw [i_le, e6] at h2; omega
theorem nar01 {p : Prop} (hp : Decidable p) : vp_nar .boolean (if p then (1 : Int32) else 0) = if p then (1 : Int32) else 0 := by
  by_cases h : p
  · rw [if_pos h]; decide
  · rw [if_neg h]; decide
theorem in5i (v : Int32) (b c : Int64) (u : XM) {lo hi : Int} (hb : b.toInt = lo) (hc : c.toInt + 1 = hi) : F_X5_in v.toInt64 b c u = some (if lo ≤ v.toInt ∧ v.toInt < hi then 1 else 0, u) := by
  rw [in5, l_i64]
  congr 2
  by_cases h : b.toInt ≤ v.toInt ∧ v.toInt ≤ c.toInt
  · rw [if_pos h, if_pos]; omega
  · rw [if_neg h, if_neg]; omega
theorem isRow5 (v : Int32) (u : XM) : F_X5_isRow v u = some (if 0 ≤ v.toInt ∧ v.toInt < 6 then 1 else 0, u) := by
  unfold F_X5_isRow
  rw [in5i v 0 5 u (lo := 0) (hi := 6) (by decide) (by decide), Option.bind_some]
  simp only [nar01, if_true]
theorem isText5 (v : Int32) (u : XM) : F_X5_isText v u = some (if 0 ≤ v.toInt ∧ v.toInt < 4 then 1 else 0, u) := by
  unfold F_X5_isText
  rw [in5i v 0 3 u (lo := 0) (hi := 4) (by decide) (by decide), Option.bind_some]
  simp only [nar01, if_true]
/-- the places of a row below n -/
theorem in5n (v : Int32) (n : Nat) (hn : n < 2 ^ 30) (u : XM) : F_X5_in v.toInt64 0 (nI n - 1).toInt64 u = some (if 0 ≤ v.toInt ∧ v.toInt < n then 1 else 0, u) := by
  refine in5i v 0 _ u (by decide) ?_
  rw [l_i64]
  have : (nI n - 1).toInt = (n : Int) - 1 := pk_sub_toInt (b := 1) hn (by omega)
  omega
theorem ST_findings (v1 : Int32) (u : XM) (h : REL u) : PRI (F_X4_findings v1) (F_X5_findings v1) u := by
  have e1 : (1 : Int32).toInt = 1 := by decide
  have e5 : (5 : Int32).toInt = 5 := by decide
  unfold PRI F_X4_findings F_X5_findings
  simp only [in5i v1 1 5 _ (lo := 1) (hi := 6) (by decide) (by decide), Option.bind_some]
  by_cases hv : 1 ≤ v1.toInt ∧ v1.toInt < 6
  · obtain ⟨f, hf, rfl⟩ := i_nat (v := v1) (n := 6) (by omega) (by decide)
    rw [if_neg (by rw [i_lt, e1]; omega), if_pos (by rw [i_le, e5]; omega), if_pos (ainN rfl hf (by decide)), nI_clamp (by omega)]
    refine ⟨_, u, u, rfl, ?_, h⟩
    rw [if_pos hv, if_neg (by decide), if_pos (ainN rfl hf (by decide)), h.2.2.1.2 f hf]
  · refine ⟨-1, u, u, ?_, by rw [if_neg hv]; rfl, h⟩
    by_cases h1 : v1 < 1
    · rw [if_pos h1]
    · rw [if_neg h1, if_neg]
      rw [i_lt, e1] at h1; rw [i_le, e5]; omega
/-- a block of places is v -/
def wf (u : XM) (k b n : Nat) (v : Int32) : XM := (fun a j => if a = k ∧ b ≤ j ∧ j < b + n then v else u.1 a j, u.2)
theorem mi_wf (u : XM) (k b n a j : Nat) (v : Int32) : mi (wf u k b n v) a j = if a = k ∧ b ≤ j ∧ j < b + n then v else mi u a j := rfl
theorem ml_wf (u : XM) (k b n : Nat) (v : Int32) : ml (wf u k b n v) = ml u := rfl
theorem xmi_wf {u : XM} {k b n a : Nat} {v : Int32} (h : a ≠ k) : mi (wf u k b n v) a = mi u a := by
  funext j
  rw [mi_wf, if_neg (fun q => h q.1)]
theorem wf_0 (u : XM) (k b : Nat) (v : Int32) : wf u k b 0 v = u := by
  have : (fun a j => if a = k ∧ b ≤ j ∧ j < b + 0 then v else u.1 a j) = u.1 := by
    funext a j
    rw [if_neg (by omega)]
  show (_, _) = u
  rw [this]
theorem wf_s (u : XM) (k b n : Nat) (v : Int32) : wf (wi u k b v) k (b + 1) n v = wf u k b (n + 1) v := by
  have : (fun a j => if a = k ∧ b + 1 ≤ j ∧ j < b + 1 + n then v else (wi u k b v).1 a j) = (fun a j => if a = k ∧ b ≤ j ∧ j < b + (n + 1) then v else u.1 a j) := by
    funext a j
    show (if _ then v else if a = k ∧ j = b then v else u.1 a j) = _
    by_cases h1 : a = k ∧ b + 1 ≤ j ∧ j < b + 1 + n
    · rw [if_pos h1, if_pos (by omega)]
    · rw [if_neg h1]
      by_cases h2 : a = k ∧ j = b
      · rw [if_pos h2, if_pos (by omega)]
      · rw [if_neg h2, if_neg (by omega)]
  show (_, _) = (_, _)
  rw [this]
  rfl
theorem fill_l (Y : List XS) (a : Nat) (v : Int32) {n : Nat} {dd : List Nat} (hY : Y[a]? = some (0, n, dd)) (hn : n < 2 ^ 31) : ∀ (m i : Nat) (u : XM), i + m = n → ∀ fuel, m < fuel → F_J7_fill_53178_5 Y fuel a v (nI i) (nI n) u = some ((), wf u a i m v)
  | 0, i, u, hi, fuel + 1, _ => by
    unfold F_J7_fill_53178_5
    rw [if_pos (nI_le (by omega) (by omega)), wf_0]
  | m + 1, i, u, hi, fuel + 1, hf => by
    unfold F_J7_fill_53178_5
    have ha : ain Y 0 a (nI i) = true := by
      unfold ain
      rw [hY]
      simp only [beq_self_eq_true, Bool.true_and, Bool.and_eq_true, decide_eq_true_eq]
      exact ⟨nI_pos' (by omega), by rw [nI_clamp (by omega)]; omega⟩
    rw [if_neg (nI_ge (by omega) (by omega)), if_pos ha, nI_1, nI_clamp (by omega), fill_l Y a v hY hn m (i + 1) _ (by omega) fuel (by omega), wf_s]
theorem fill_i (Y : List XS) (a : Nat) (v : Int32) {n : Nat} {dd : List Nat} (hY : Y[a]? = some (0, n, dd)) (hn : n < 1000) (u : XM) : F_J7_fill_53178 Y a v u = some ((), wf u a 0 n v) := by
  unfold F_J7_fill_53178
  rw [alenN hY, Option.bind_some]
  exact fill_l Y a v hY (by omega) n 0 u (by omega) FU hn
theorem fillb_l (Y : List XS) (a : Nat) (v : Int32) {n : Nat} {dd : List Nat} (hY : Y[a]? = some (1, n, dd)) (hn : n < 2 ^ 31) : ∀ (m i : Nat) (u : XM), i + m = n → ∀ fuel, m < fuel → F_J7_fill_031fb_5 Y fuel a v (nI i) (nI n) u = some ((), wf u a i m (vp_nar .byte v))
  | 0, i, u, hi, fuel + 1, _ => by
    unfold F_J7_fill_031fb_5
    rw [if_pos (nI_le (by omega) (by omega)), wf_0]
  | m + 1, i, u, hi, fuel + 1, hf => by
    unfold F_J7_fill_031fb_5
    have ha : ain Y 1 a (nI i) = true := by
      unfold ain
      rw [hY]
      simp only [beq_self_eq_true, Bool.true_and, Bool.and_eq_true, decide_eq_true_eq]
      exact ⟨nI_pos' (by omega), by rw [nI_clamp (by omega)]; omega⟩
    rw [if_neg (nI_ge (by omega) (by omega)), if_pos ha, nI_1, nI_clamp (by omega), fillb_l Y a v hY hn m (i + 1) _ (by omega) fuel (by omega), wf_s]
theorem fill_b (Y : List XS) (a : Nat) (v : Int32) {n : Nat} {dd : List Nat} (hY : Y[a]? = some (1, n, dd)) (hn : n < 1000) (u : XM) : F_J7_fill_031fb Y a v u = some ((), wf u a 0 n (vp_nar .byte v)) := by
  unfold F_J7_fill_031fb
  rw [alenN hY, Option.bind_some]
  exact fillb_l Y a v hY (by omega) n 0 u (by omega) FU hn
theorem YY_row {r : Nat} (h : r < 6) : YY[2 + r]? = some (0, 40, []) := by
  match r, h with
  | 0, _ => rfl
  | 1, _ => rfl
  | 2, _ => rfl
  | 3, _ => rfl
  | 4, _ => rfl
  | 5, _ => rfl
theorem YY_txt {r : Nat} (h : r < 4) : YY[10 + r]? = some (1, 60, []) := by
  match r, h with
  | 0, _ => rfl
  | 1, _ => rfl
  | 2, _ => rfl
  | 3, _ => rfl
theorem YY_kd {r : Nat} (h : r < 3) : YY[16 + r]? = some (0, 40, []) := by
  match r, h with
  | 0, _ => rfl
  | 1, _ => rfl
  | 2, _ => rfl
theorem n40 {r i : Nat} : (40 : Int32) * nI r + nI i = nI (40 * r + i) := by
  rw [show (40 : Int32) = nI 40 from rfl, pk_mul, nI_add]
theorem n60 {r i : Nat} : (60 : Int32) * nI r + nI i = nI (60 * r + i) := by
  rw [show (60 : Int32) = nI 60 from rfl, pk_mul, nI_add]
theorem row5_l {r : Nat} (hr : r < 6) (v : Int32) : ∀ (m i : Nat) (u : XM), i + m = 40 → ∀ fuel, m < fuel → F_X5_row_34 fuel (nI r) v (nI i) u = some (v, wf u 37 (40 * r + i) m 0)
  | 0, i, u, hi, fuel + 1, _ => by
    unfold F_X5_row_34
    rw [if_pos (show (40 : Int32) ≤ nI i from nI_le (a := 40) (by omega) (by omega)), wf_0]
  | m + 1, i, u, hi, fuel + 1, hf => by
    unfold F_X5_row_34
    rw [if_neg (show ¬ (40 : Int32) ≤ nI i from nI_ge (b := 40) (by omega) (by omega)), n40, if_pos (ainN rfl (show 40 * r + i < 240 by omega) (by decide)), nI_1, nI_clamp (by omega), row5_l hr v m (i + 1) _ (by omega) fuel (by omega)]
    rw [show 40 * r + (i + 1) = 40 * r + i + 1 by omega, wf_s]
theorem txt5_l {r : Nat} (hr : r < 4) (v : Int32) : ∀ (m i : Nat) (u : XM), i + m = 60 → ∀ fuel, m < fuel → F_X5_text_34 fuel (nI r) v (nI i) u = some (v, wf u 39 (60 * r + i) m 32)
  | 0, i, u, hi, fuel + 1, _ => by
    unfold F_X5_text_34
    rw [if_pos (show (60 : Int32) ≤ nI i from nI_le (a := 60) (by omega) (by omega)), wf_0]
  | m + 1, i, u, hi, fuel + 1, hf => by
    unfold F_X5_text_34
    rw [if_neg (show ¬ (60 : Int32) ≤ nI i from nI_ge (b := 60) (by omega) (by omega)), n60, if_pos (ainN rfl (show 60 * r + i < 240 by omega) (by decide)), nI_1, nI_clamp (by omega), txt5_l hr v m (i + 1) _ (by omega) fuel (by omega)]
    rw [show 60 * r + (i + 1) = 60 * r + i + 1 by omega, wf_s]
