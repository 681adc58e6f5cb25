theorem e_20n : (20 : Int32).toInt + 1 = 21 := by decide
theorem thrown4_l {u : XM} {P : CP} {S : PS} (hC : curC u P S) (hP : okP P) (hS : okS P S) (hy : S.2.2 ≤ 40) {i n c : Nat} (hi : i < pT P) (hn : n < 900) (hc : c < 8) : ∀ (m a : Nat) (acc : Int32), a + m = 8 → ∀ fuel, m < fuel → F_X4_thrown_36 fuel (nI i) (nI c) (nI n) acc (nI a) u = some (sb (fun s => decide (inY P S i n s = c)) a m acc, u)
  | 0, a, acc, ha, fuel + 1, _ => by
    unfold F_X4_thrown_36
    rw [if_pos (show (8 : Int32) ≤ nI a from nI_le (a := 8) (by omega) (by omega))]
    rfl
  | m + 1, a, acc, ha, fuel + 1, hf => by
    unfold F_X4_thrown_36
    have ih := fun x => thrown4_l hC hP hS hy hi hn hc m (a + 1) x (by omega) fuel (by omega)
    rw [if_neg (show ¬ (8 : Int32) ≤ nI a from nI_ge (b := 8) (by omega) (by omega)), cellAfter4 hC hP hS hy hi hn (by omega), Option.bind_some]
    simp only [F_X4_thrown_67, nI_1, ih]
    have hle := inY_le (P := P) (S := S) (i := i) (n := n) (c := a) (by omega)
    by_cases h : inY P S i n a = c
    · rw [if_pos (by rw [h])]; simp [sb, h]
    · rw [if_neg (fun q => h (n_inj q (by omega) (by omega)))]; simp [sb, h]
theorem thrown5_l {u : XM} {P : CP} {S : PS} (hM : curM u P S) (hP : okP P) (hS : okS P S) (hy : S.2.2 ≤ 40) {i n c : Nat} (hi : i < pT P) (hn : n < 900) (hc : c < 8) : ∀ (m a : Nat) (acc : Int32), a + m = 8 → ∀ fuel, m < fuel → F_X5_thrown_35 fuel (nI i) (nI c) (nI n) acc (nI a) u = some (sb (fun s => decide (inY P S i n s = c)) a m acc, u)
  | 0, a, acc, ha, fuel + 1, _ => by
    unfold F_X5_thrown_35
    rw [if_pos (show (8 : Int32) ≤ nI a from nI_le (a := 8) (by omega) (by omega))]
    rfl
  | m + 1, a, acc, ha, fuel + 1, hf => by
    unfold F_X5_thrown_35
    have ih := fun x => thrown5_l hM hP hS hy hi hn hc m (a + 1) x (by omega) fuel (by omega)
    rw [if_neg (show ¬ (8 : Int32) ≤ nI a from nI_ge (b := 8) (by omega) (by omega)), afterOf5 hM hP hS hy hi hn (by omega), Option.bind_some]
    simp only [F_X5_thrown_64, nI_1, ih, or_z]
    have hle := inY_le (P := P) (S := S) (i := i) (n := n) (c := a) (by omega)
    by_cases h : inY P S i n a = c
    · rw [if_pos (by rw [h])]; simp [sb, h]
    · rw [if_neg (fun q => h (n_inj q (by omega) (by omega)))]; simp [sb, h]
