/-! ===== the pure side: memory, checks ===== -/
theorem mi_wi (u : XM) (k j a b : Nat) (v : Int32) : mi (wi u k j v) a b = if a = k ∧ b = j then v else mi u a b := rfl
theorem ml_wi (u : XM) (k j a b : Nat) (v : Int32) : ml (wi u k j v) a b = ml u a b := rfl
theorem mi_wl (u : XM) (k j a b : Nat) (v : Int64) : mi (wl u k j v) a b = mi u a b := rfl
theorem ml_wl (u : XM) (k j a b : Nat) (v : Int64) : ml (wl u k j v) a b = if a = k ∧ b = j then v else ml u a b := rfl
theorem mi_wc (u : XM) (k sp k2 dp n a b : Nat) : mi (wc u k sp k2 dp n) a b = if a = k2 ∧ dp ≤ b ∧ b < dp + n then mi u k (sp + (b - dp)) else mi u a b := rfl
theorem ml_wc (u : XM) (k sp k2 dp n a b : Nat) : ml (wc u k sp k2 dp n) a b = ml u a b := rfl
theorem ainN {t k n j : Nat} {dd : List Nat} (hY : YY[k]? = some (t, n, dd)) (h : j < n) (hn : n < 2 ^ 31) : ain YY t k (nI j) = true := by
  unfold ain
  rw [hY]
  simp only [beq_self_eq_true, Bool.true_and, Bool.and_eq_true, decide_eq_true_eq]
  exact ⟨nI_pos' (by omega), by rw [nI_clamp (by omega)]; exact h⟩
theorem alenN {Y : List XS} {t k n : Nat} {dd : List Nat} (hY : Y[k]? = some (t, n, dd)) : alen Y t k = some n := by
  unfold alen
  rw [hY]
  simp
theorem t_i (n : Nat) (h : n < 2 ^ 31) : (nI n).toInt = (n : Int) := nI_toInt h
theorem i_lt {x y : Int32} : x < y ↔ x.toInt < y.toInt := Int32.lt_iff_toInt_lt
theorem i_le {x y : Int32} : x ≤ y ↔ x.toInt ≤ y.toInt := Int32.le_iff_toInt_le
theorem i_ext {x y : Int32} : x = y ↔ x.toInt = y.toInt := ⟨fun h => by rw [h], fun h => Int32.toInt_inj.mp h⟩
theorem l_lt {x y : Int64} : x < y ↔ x.toInt < y.toInt := Int64.lt_iff_toInt_lt
theorem l_le {x y : Int64} : x ≤ y ↔ x.toInt ≤ y.toInt := Int64.le_iff_toInt_le
theorem lgc_neg (x y : Int64) : lg_cmp x y < 0 ↔ x < y := by
  have h := lg_cmp_ge x y
  rw [← Int32.not_le, ← Int64.not_le, h]
theorem lgc_pos (x y : Int64) : 0 < lg_cmp x y ↔ y < x := by
  unfold lg_cmp
  by_cases h1 : x > y
  · rw [if_pos h1]; exact ⟨fun _ => h1, fun _ => by decide⟩
  · rw [if_neg h1]
    by_cases h2 : x = y
    · rw [if_pos h2]; exact ⟨fun h => absurd h (by decide), fun h => absurd h h1⟩
    · rw [if_neg h2]; exact ⟨fun h => absurd h (by decide), fun h => absurd h h1⟩
theorem lgc_eq (x y : Int64) : lg_cmp x y = 0 ↔ x = y := by
  unfold lg_cmp
  by_cases h1 : x > y
  · rw [if_pos h1]
    refine ⟨fun h => absurd h (by decide), fun h => ?_⟩
    rw [h] at h1
    exact absurd h1 (by rw [gt_iff_lt, l_lt]; omega)
  · rw [if_neg h1]
    by_cases h2 : x = y
    · rw [if_pos h2]; simp [h2]
    · rw [if_neg h2]; exact ⟨fun h => absurd h (by decide), fun h => absurd h h2⟩
