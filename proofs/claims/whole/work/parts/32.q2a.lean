/-! ===== checks of a range, sets by bits ===== -/
theorem rngLe {v M : Int32} {N : Int} (hM : M.toInt + 1 = N) {α : Type} (A B : α) : (if v < 0 then A else if v ≤ M then B else A) = if 0 ≤ v.toInt ∧ v.toInt < N then B else A := by
  by_cases h1 : v < 0
  · rw [if_pos h1, if_neg]; rw [i_lt, e_0] at h1; omega
  · rw [if_neg h1]
    rw [i_lt, e_0] at h1
    by_cases h2 : v ≤ M
    · rw [if_pos h2, if_pos]; rw [i_le] at h2; omega
    · rw [if_neg h2, if_neg]; rw [i_le] at h2; omega
theorem rngLt {v M : Int32} {N : Int} (hM : M.toInt = N) {α : Type} (A B : α) : (if v < 0 then A else if v < M then B else A) = if 0 ≤ v.toInt ∧ v.toInt < N then B else A := by
  by_cases h1 : v < 0
  · rw [if_pos h1, if_neg]; rw [i_lt, e_0] at h1; omega
  · rw [if_neg h1]
    rw [i_lt, e_0] at h1
    by_cases h2 : v < M
    · rw [if_pos h2, if_pos]; rw [i_lt, hM] at h2; omega
    · rw [if_neg h2, if_neg]; rw [i_lt, hM] at h2; omega
/-- the set of those places with p, by bits -/
def sb (p : Nat → Bool) : Nat → Nat → Int32 → Int32
  | _, 0, acc => acc
  | i, m + 1, acc => sb p (i + 1) m (if p i = true then acc ||| (1 <<< (nI i &&& 31)) else acc)
theorem or_z (x : Int32) : x ||| 0 = x := Int32.or_zero
theorem lyingIn_l {u : XM} {P : CP} {S : PS} (hC : curC u P S) (hP : okP P) (c : Int32) : ∀ (m i : Nat) (acc : Int32), i + m = pT P → ∀ fuel, m < fuel → F_X0_lyingIn_4 fuel c acc (nI i) u = some (sb (fun j => decide (eC (S.1 j) = c)) i m acc, u)
  | 0, i, acc, hi, fuel + 1, _ => by
    unfold F_X0_lyingIn_4
    have hT := hP.1
    rw [hC.1, if_pos (nI_le (by omega) (by omega))]
    rfl
  | m + 1, i, acc, hi, fuel + 1, hf => by
    unfold F_X0_lyingIn_4
    have hT := hP.1
    have ih := fun a => lyingIn_l hC hP c m (i + 1) a (by omega) fuel (by omega)
    rw [hC.1, if_neg (nI_ge (by omega) (by omega)), if_pos (ainN rfl (show i < 6 by omega) (by decide)), nI_clamp (by omega), (hC.2.2.2.2 i (by omega)).2.2.2]
    simp only [F_X0_lyingIn_28, nI_1, ih]
    by_cases h : eC (S.1 i) = c
    · rw [if_pos h]; simp [sb, h]
    · rw [if_neg h]; simp [sb, h]
theorem lyingIn4 {u : XM} {P : CP} {S : PS} (hC : curC u P S) (hP : okP P) (c : Int32) : F_X0_lyingIn c u = some (sb (fun j => decide (eC (S.1 j) = c)) 0 (pT P) 0, u) := lyingIn_l hC hP c (pT P) 0 0 (by omega) FU (by have := hP.1; show pT P < 1000; omega)
theorem cellOf_l {u : XM} {P : CP} {S : PS} (hM : curM u P S) (hP : okP P) (c : Int32) : ∀ (m i : Nat) (acc : Int32), i + m = pT P → ∀ fuel, m < fuel → F_X5_cellOf_4 fuel c acc (nI i) u = some (sb (fun j => decide (eC (S.1 j) = c)) i m acc, u)
  | 0, i, acc, hi, fuel + 1, _ => by
    unfold F_X5_cellOf_4
    have hT := hP.1
    rw [hM.1, if_pos (nI_le (by omega) (by omega))]
    rfl
  | m + 1, i, acc, hi, fuel + 1, hf => by
    unfold F_X5_cellOf_4
    have hT := hP.1
    have ih := fun a => cellOf_l hM hP c m (i + 1) a (by omega) fuel (by omega)
    rw [hM.1, if_neg (nI_ge (by omega) (by omega)), z_add, if_pos (ainN rfl (show i < 8 by omega) (by decide)), nI_clamp (by omega), (hM.2.2.2.2 i (by omega)).2.2.2]
    simp only [F_X5_cellOf_32, nI_1, ih, or_z]
    by_cases h : eC (S.1 i) = c
    · rw [if_pos h]; simp [sb, h]
    · rw [if_neg h]; simp [sb, h]
theorem cellOf5 {u : XM} {P : CP} {S : PS} (hM : curM u P S) (hP : okP P) (c : Int32) : F_X5_cellOf c u = some (sb (fun j => decide (eC (S.1 j) = c)) 0 (pT P) 0, u) := cellOf_l hM hP c (pT P) 0 0 (by omega) FU (by have := hP.1; show pT P < 1000; omega)
theorem ST_cell (v1 : Int32) (u : XM) (h : REL u) : PRI (F_X4_cell v1) (F_X5_cell v1) u := by
  obtain ⟨P, S, hP, hS, hy, hC, hM⟩ := h.cur
  unfold PRI F_X4_cell F_X5_cell
  simp only [isCell4, isCell5, Option.bind_some, lyingIn4 hC hP]
  by_cases hc : 0 ≤ v1.toInt ∧ v1.toInt < 8
  · simp only [hc, and_self, if_true, ne10, if_false]
    exact ⟨_, u, u, rfl, by rw [cellOf5 hM hP]; rfl, h⟩
  · simp only [hc, if_false, if_true]
    exact ⟨_, _, _, rfl, rfl, h⟩
