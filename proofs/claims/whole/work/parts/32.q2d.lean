theorem bd1 {β : Type} {A B : Int32 × XM → Option β} {u : XM} : (some ((1 : Int32), u)).bind (fun x => if x.1 = 0 then A x else B x) = B (1, u) := rfl
theorem bd0 {β : Type} {A B : Int32 × XM → Option β} {u : XM} : (some ((0 : Int32), u)).bind (fun x => if x.1 = 0 then A x else B x) = A (0, u) := rfl
theorem thrown4 {u : XM} {P : CP} {S : PS} (hC : curC u P S) (hP : okP P) (hS : okS P S) (hy : S.2.2 ≤ 40) {i n c : Nat} (hi : i < pT P) (hn : n < 900) (hc : c < 8) : F_X4_thrown_36 FU (nI i) (nI c) (nI n) 0 0 u = some (sb (fun s => decide (inY P S i n s = c)) 0 8 0, u) := thrown4_l hC hP hS hy hi hn hc 8 0 0 (by omega) FU (by decide)
theorem thrown5 {u : XM} {P : CP} {S : PS} (hM : curM u P S) (hP : okP P) (hS : okS P S) (hy : S.2.2 ≤ 40) {i n c : Nat} (hi : i < pT P) (hn : n < 900) (hc : c < 8) : F_X5_thrown_35 FU (nI i) (nI c) (nI n) 0 0 u = some (sb (fun s => decide (inY P S i n s = c)) 0 8 0, u) := thrown5_l hM hP hS hy hi hn hc 8 0 0 (by omega) FU (by decide)
theorem ST_thrown (v1 v2 v3 : Int32) (u : XM) (h : REL u) : PRI (F_X4_thrown v1 v2 v3) (F_X5_thrown v1 v2 v3) u := by
  obtain ⟨P, S, hP, hS, hy, hC, hM⟩ := h.cur
  have hT := hP.1
  unfold PRI F_X4_thrown F_X5_thrown
  simp only [has4 hC hP, Option.bind_some, rngLe e_20n, isCell4]
  by_cases hi : 0 ≤ v1.toInt ∧ v1.toInt < pT P
  · obtain ⟨i, hi', rfl⟩ := i_nat (n := pT P) hi (by omega)
    simp only [hi, and_self, if_true, ne10, if_false]
    by_cases hc : 0 ≤ v2.toInt ∧ v2.toInt < 8
    · obtain ⟨c, hc', rfl⟩ := i_nat (n := 8) hc (by decide)
      simp only [hc, and_self, if_true, ne10, if_false]
      by_cases hn : 0 ≤ v3.toInt ∧ v3.toInt < 21
      · obtain ⟨n, hn', rfl⟩ := i_nat (n := 21) hn (by decide)
        rw [if_pos hn]
        rw [thrown4 hC hP hS hy hi' (show n < 900 by omega) hc']
        refine ⟨_, u, u, rfl, ?_, h⟩
        have b1 : F_X5_isThing (nI i) u = some (1, u) := by rw [isThing5 hM hP, if_pos hi]
        have b2 : F_X5_isCell (nI c) u = some (1, u) := by rw [isCell5, if_pos hc]
        have b3 : F_X5_in (nI n).toInt64 0 20 u = some (1, u) := by rw [in5i (nI n) 0 20 u (lo := 0) (hi := 21) (by decide) (by decide), if_pos hn]
        rw [b1, bd1, b2, bd1, b3, bd1]
        exact thrown5 hM hP hS hy hi' (show n < 900 by omega) hc'
      · rw [if_neg hn]
        refine ⟨-1, u, u, rfl, ?_, h⟩
        simp only [isThing5 hM hP, hi, and_self, if_true, ne10, if_false, Option.bind_some, isCell5, hc, in5i v3 0 20 _ (lo := 0) (hi := 21) (by decide) (by decide), hn]
    · refine ⟨-1, u, u, ?_, ?_, h⟩
      · simp only [hc, if_false, if_true]
      · simp only [isThing5 hM hP, hi, and_self, if_true, ne10, if_false, Option.bind_some, isCell5, hc]
  · refine ⟨-1, u, u, ?_, ?_, h⟩
    · simp only [hi, if_false, if_true]
    · simp only [isThing5 hM hP, hi, if_false, if_true, Option.bind_some]
