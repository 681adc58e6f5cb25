/-! ===== copy ===== -/
theorem xm_ext {u v : XM} (h1 : ∀ a b, mi u a b = mi v a b) (h2 : ∀ a b, ml u a b = ml v a b) : u = v := Prod.ext (funext fun a => funext fun b => h1 a b) (funext fun a => funext fun b => h2 a b)
theorem cpf_s {u : XM} {p q k : Nat} (h : q ≤ p ∨ p + k + 1 ≤ q) : wi (wc u 37 p 37 q k) 37 (q + k) (mi (wc u 37 p 37 q k) 37 (p + k)) = wc u 37 p 37 q (k + 1) := by
  refine xm_ext (fun a b => ?_) (fun a b => rfl)
  rw [mi_wi, mi_wc, mi_wc, mi_wc]
  by_cases h1 : a = 37 ∧ b = q + k
  · rw [if_pos h1, if_neg (by omega), if_pos (by omega), h1.2, show q + k - q = k by omega]
  · rw [if_neg h1]
    by_cases h2 : a = 37 ∧ q ≤ b ∧ b < q + k
    · rw [if_pos h2, if_pos (by omega)]
    · rw [if_neg h2, if_neg (by omega)]
theorem cpb_s {u : XM} {p q k n : Nat} (hk : k < n) (h : p ≤ q ∨ q + n ≤ p) : wi (wc u 37 (p + (n - k)) 37 (q + (n - k)) k) 37 (q + (n - 1 - k)) (mi (wc u 37 (p + (n - k)) 37 (q + (n - k)) k) 37 (p + (n - 1 - k))) = wc u 37 (p + (n - (k + 1))) 37 (q + (n - (k + 1))) (k + 1) := by
  refine xm_ext (fun a b => ?_) (fun a b => rfl)
  rw [mi_wi, mi_wc, mi_wc, mi_wc]
  by_cases h1 : a = 37 ∧ b = q + (n - 1 - k)
  · rw [if_pos h1, if_neg (by omega), if_pos (by omega)]
    exact congrArg (mi u 37) (by omega)
  · rw [if_neg h1]
    by_cases h2 : a = 37 ∧ q + (n - k) ≤ b ∧ b < q + (n - k) + k
    · rw [if_pos h2, if_pos (by omega)]
      exact congrArg (mi u 37) (by omega)
    · rw [if_neg h2, if_neg (by omega)]
theorem copy5_f {r t i j n : Nat} (hr : r < 6) (ht : t < 6) (hi : i + n ≤ 40) (hj : j + n ≤ 40) (hij : j ≤ i) (u : XM) : ∀ (m k : Nat), k + m = n → ∀ fuel, m < fuel → F_X5_copy_104 fuel (nI r) (nI i) (nI t) (nI j) (nI n) (nI k) (wc u 37 (40 * r + i) 37 (40 * t + j) k) = some (1, wc u 37 (40 * r + i) 37 (40 * t + j) n)
  | 0, k, hk, fuel + 1, _ => by
    unfold F_X5_copy_104
    rw [if_pos (nI_le (by omega) (by omega)), show k = n by omega]
  | m + 1, k, hk, fuel + 1, hf => by
    unfold F_X5_copy_104 F_X5_copy_129
    rw [if_neg (nI_ge (by omega) (by omega)), if_pos (nI_le hij (by omega)), n40, n40, nI_add, nI_add, if_pos (ainN rfl (show 40 * r + i + k < 240 by omega) (by decide)), if_pos (ainN rfl (show 40 * t + j + k < 240 by omega) (by decide)), nI_clamp (by omega), nI_clamp (by omega), nI_1, cpf_s (by omega)]
    exact copy5_f hr ht hi hj hij u m (k + 1) (by omega) fuel (by omega)
theorem copy5_b {r t i j n : Nat} (hr : r < 6) (ht : t < 6) (hi : i + n ≤ 40) (hj : j + n ≤ 40) (hij : i < j) (u : XM) : ∀ (m k : Nat), k + m = n → ∀ fuel, m < fuel → F_X5_copy_104 fuel (nI r) (nI i) (nI t) (nI j) (nI n) (nI k) (wc u 37 (40 * r + i + (n - k)) 37 (40 * t + j + (n - k)) k) = some (1, wc u 37 (40 * r + i) 37 (40 * t + j) n)
  | 0, k, hk, fuel + 1, _ => by
    unfold F_X5_copy_104
    rw [if_pos (nI_le (by omega) (by omega)), show k = n by omega, show n - n = 0 by omega]
    rfl
  | m + 1, k, hk, fuel + 1, hf => by
    unfold F_X5_copy_104 F_X5_copy_129
    rw [if_neg (nI_ge (by omega) (by omega)), if_neg (nI_ge hij (by omega)), show nI n - 1 = nI (n - 1) from pk_sub (b := 1) (by omega), pk_sub (show k ≤ n - 1 by omega), n40, n40, nI_add, nI_add, if_pos (ainN rfl (show 40 * r + i + (n - 1 - k) < 240 by omega) (by decide)), if_pos (ainN rfl (show 40 * t + j + (n - 1 - k) < 240 by omega) (by decide)), nI_clamp (by omega), nI_clamp (by omega), nI_1, cpb_s (by omega) (by omega)]
    exact copy5_b hr ht hi hj hij u m (k + 1) (by omega) fuel (by omega)
theorem copy5_l {r t i j n : Nat} (hr : r < 6) (ht : t < 6) (hi : i + n ≤ 40) (hj : j + n ≤ 40) (u : XM) : F_X5_copy_104 FU (nI r) (nI i) (nI t) (nI j) (nI n) 0 u = some (1, wc u 37 (40 * r + i) 37 (40 * t + j) n) := by
  by_cases hij : j ≤ i
  · have := copy5_f hr ht hi hj hij u n 0 (by omega) FU (show n < 1000 by omega)
    rw [wc_0] at this
    exact this
  · have := copy5_b hr ht hi hj (by omega) u n 0 (by omega) FU (show n < 1000 by omega)
    rw [wc_0] at this
    exact this
theorem hasSpan4 {s n : Nat} (hs : s ≤ 40) (hn : n < 2 ^ 31) (v : Int32) (u : XM) : F_X4_hasSpan (nI s) v (nI n) u = some (if 0 ≤ v.toInt ∧ v.toInt + n ≤ s then 1 else 0, u) := by
  unfold F_X4_hasSpan
  have es : (nI s).toInt = s := nI_toInt (by omega)
  by_cases h1 : v < 0
  · rw [if_pos h1, if_neg]; rw [i_lt, e_0] at h1; omega
  · rw [if_neg h1]
    rw [i_lt, e_0] at h1
    by_cases h2 : nI s < v
    · rw [if_pos h2, if_neg]; rw [i_lt, es] at h2; omega
    · rw [if_neg h2]
      rw [i_lt, es] at h2
      obtain ⟨i, hi, rfl⟩ := i_nat (v := v) (n := s + 1) (by omega) (by omega)
      have ei : (nI i).toInt = i := nI_toInt (by omega)
      rw [pk_sub (show i ≤ s by omega)]
      by_cases h3 : nI (s - i) < nI n
      · rw [if_pos h3, if_neg]; rw [nI_ltI (by omega) hn] at h3; omega
      · rw [if_neg h3, if_pos]; rw [nI_ltI (by omega) hn] at h3; omega
theorem copy5_if {r t : Nat} (hr6 : r < 6) (ht6 : t < 6) (v2 v4 v5 : Int32) (w : XM) : F_X5_copy (nI r) v2 (nI t) v4 v5 w = (if 0 ≤ v5 then (if mi w 36 r < 0 then some (-3, fM w 1) else (if 0 ≤ mi w 36 t then (if v2 < 0 then some (-3, fM w 2) else (if v4 < 0 then some (-3, fM w 2) else (if 0 < lg_cmp (Int32.toInt64 v2 + Int32.toInt64 v5) (Int32.toInt64 (mi w 36 r)) then some (-3, fM w 2) else (if lg_cmp (Int32.toInt64 v4 + Int32.toInt64 v5) (Int32.toInt64 (mi w 36 t)) ≤ 0 then F_X5_copy_104 FU (nI r) v2 (nI t) v4 v5 0 w else some (-3, fM w 2))))) else some (-3, fM w 1))) else some (-3, fM w 5)) := by
  have a1 : ain YY 0 36 (nI r) = true := ainN rfl hr6 (by decide)
  have a2 : ain YY 0 36 (nI t) = true := ainN rfl ht6 (by decide)
  have f1 : F_X5_copy_45 w = some (-3, fM w 1) := by unfold F_X5_copy_45; rw [fX5_1]; rfl
  have f2 : F_X5_copy_95 w = some (-3, fM w 2) := by unfold F_X5_copy_95; rw [fX5_2]; rfl
  have er : 0 ≤ (nI r).toInt ∧ (nI r).toInt < 6 := by rw [nI_toInt (by omega)]; omega
  have et : 0 ≤ (nI t).toInt ∧ (nI t).toInt < 6 := by rw [nI_toInt (by omega)]; omega
  unfold F_X5_copy
  rw [isRow5, if_pos er, bd1]
  show Option.bind (F_X5_isRow (nI t) w) _ = _
  rw [isRow5, if_pos et, bd1]
  show (if 0 ≤ v5 then (if ain YY 0 36 (nI r) = true then (if mi w 36 (Int32.toNatClampNeg (nI r)) < 0 then F_X5_copy_45 w else (if ain YY 0 36 (nI t) = true then (if 0 ≤ mi w 36 (Int32.toNatClampNeg (nI t)) then (if v2 < 0 then F_X5_copy_95 w else (if v4 < 0 then F_X5_copy_95 w else (if ain YY 0 36 (nI r) = true then (if 0 < lg_cmp (Int32.toInt64 v2 + Int32.toInt64 v5) (Int32.toInt64 (mi w 36 (Int32.toNatClampNeg (nI r)))) then F_X5_copy_95 w else (if ain YY 0 36 (nI t) = true then (if lg_cmp (Int32.toInt64 v4 + Int32.toInt64 v5) (Int32.toInt64 (mi w 36 (Int32.toNatClampNeg (nI t)))) ≤ 0 then F_X5_copy_104 FU (nI r) v2 (nI t) v4 v5 0 w else F_X5_copy_95 w) else none)) else none))) else F_X5_copy_45 w) else none)) else none) else Option.bind (F_X5_found 5 w) _) = _
  rw [if_pos a1, if_pos a2, if_pos a1, if_pos a2, nI_clamp (show r < 2 ^ 31 by omega), nI_clamp (show t < 2 ^ 31 by omega), f1, f2, fX5_5, Option.bind_some]
theorem copy4_if {r t : Nat} (hr6 : r < 6) (ht6 : t < 6) (v2 v4 v5 : Int32) (u : XM) : F_X4_copy (nI r) v2 (nI t) v4 v5 u = (if 0 ≤ v5 then (if mi u 8 r = -1 then some (-3, fC u 1) else (if mi u 8 t = -1 then some (-3, fC u 1) else (Option.bind (F_X4_hasSpan (mi u 8 r) v2 v5 u) (fun x5 => (if x5.1 = 0 then F_X4_copy_84 x5.2 else (Option.bind (F_X4_hasSpan (mi x5.2 8 t) v4 v5 x5.2) (fun x6 => (if x6.1 = 0 then F_X4_copy_84 x6.2 else (if (0 : Int32) ≤ v2 ∧ (0 : Int32) ≤ v4 ∧ (0 : Int32) ≤ v5 ∧ (Int32.toNatClampNeg v2) + (Int32.toNatClampNeg v5) ≤ 40 ∧ (Int32.toNatClampNeg v4) + (Int32.toNatClampNeg v5) ≤ 40 then some (1, (wc x6.2 (2 + r) (Int32.toNatClampNeg v2) (2 + t) (Int32.toNatClampNeg v4) (Int32.toNatClampNeg v5))) else none))))))))) else some (-3, fC u 5)) := by
  have a1 : ain YY 0 8 (nI r) = true := ainN rfl hr6 (by decide)
  have a2 : ain YY 0 8 (nI t) = true := ainN rfl ht6 (by decide)
  have a3 : ain YY 3 1 (nI r) = true := ainN rfl hr6 (by decide)
  have a4 : ain YY 3 1 (nI t) = true := ainN rfl ht6 (by decide)
  have f1 : F_X4_copy_47 u = some (-3, fC u 1) := by unfold F_X4_copy_47; rw [fX4_1]; rfl
  have er : 0 ≤ (nI r).toInt ∧ (nI r).toInt < 6 := by rw [nI_toInt (by omega)]; omega
  have et : 0 ≤ (nI t).toInt ∧ (nI t).toInt < 6 := by rw [nI_toInt (by omega)]; omega
  unfold F_X4_copy
  rw [isRow4, if_pos er, bd1]
  show Option.bind (F_X4_isRow (nI t) u) _ = _
  rw [isRow4, if_pos et, bd1]
  simp only [a1, a2, a3, a4, if_true, nI_clamp (show r < 2 ^ 31 by omega), nI_clamp (show t < 2 ^ 31 by omega), f1, fX4_5, Option.bind_some, alenN (YY_row hr6), alenN (YY_row ht6)]
