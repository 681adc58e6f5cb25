theorem count45 {u : XM} (h : REL u) {w : Nat} (hw : w < 11) : ∃ r, F_X4_count (nI w) u = some (r, u) ∧ F_X5_counted (nI w) u = some (r, u) := by
  obtain ⟨h1, h2, h3, h4, P, s0, ds, n, g1, g2, g3, g4, g5, g6, g7, g8, g9⟩ := h
  have hT := g1.1
  have hS := sq_ok g2 g4 n (Nat.le_refl _)
  unfold F_X4_count
  rw [tswN w (by omega)]
  have hw2 : w = 0 ∨ w = 1 ∨ w = 2 ∨ w = 3 ∨ w = 4 ∨ w = 5 ∨ w = 6 ∨ w = 7 ∨ w = 8 ∨ w = 9 ∨ w = 10 := by omega
  have z43 : ∀ b : Nat, b < 8 → ain YY 0 43 (nI b) = true := fun b hb => ainN rfl hb (by decide)
  rcases hw2 with rfl | rfl | rfl | rfl | rfl | rfl | rfl | rfl | rfl | rfl | rfl
  · refine ⟨nI (pT P), by show some (mi u 22 6, u) = _; rw [g5.1], ?_⟩
    rw [c_41 (by decide), c41_78 (by decide), c78_114 (by decide), c114_150 (by decide)]
    show some (mi u 35 4, u) = _
    rw [g6.1]
  · refine ⟨nI (sq P s0 ds n).2.2, by show some (mi u 22 10, u) = _; rw [g5.2.2.2.1], ?_⟩
    rw [c_41 (by decide), c41_78 (by decide), c78_114 (by decide), c114_150 (by decide)]
    show some (mi u 43 7, u) = _
    rw [g6.2.2.2.1]
  · refine ⟨nI n, by show some (mi u 22 11, u) = _; rw [g7.2.2.1], ?_⟩
    rw [c_41 (by decide), c41_78 (by decide), c78_114 (by decide), c114_150 (by decide)]
    show some (mi u 35 10, u) = _
    rw [g8.1]
  · refine ⟨nI (sq P s0 ds n).2.1, by show some (mi u 22 9, u) = _; rw [g5.2.2.1], ?_⟩
    rw [c_41 (by decide), c41_78 (by decide), c78_114 (by decide), c114_150 (by decide)]
    show some (mi u 43 6, u) = _
    rw [g6.2.2.1]
  · refine ⟨nI (pF P), by show some (mi u 22 7, u) = _; rw [g5.2.1], ?_⟩
    rw [c_41 (by decide), c41_78 (by decide), c78_114 (by decide), c114_150 (by decide)]
    show some (mi u 35 5, u) = _
    rw [g6.2.1]
  · refine ⟨sb (fun j => decide ((sq P s0 ds n).1 j = 8)) 0 (pT P) 0, ?_, ?_⟩
    · show Option.bind (F_X0_takenBits u) _ = _
      unfold F_X0_takenBits
      rw [lyingIn4 g5 g1, Option.bind_some, Option.bind_some, sb_congr (pT P) 0 0 (fun j _ hj => ?_)]
      have := eC_9 (hS.1 j (by omega))
      simp only [decide_eq_decide]
      exact this
    · have e := cnt4 g6 g1 hS (pT P) 0 0 (by omega) FU (by show pT P < 1000; omega)
      show F_X5_counted_4 FU 5 0 (nI 0) u = _
      rw [e, c41_78 (by decide), c78_114 (by decide), c114_150 (by decide)]
      rfl
  · refine ⟨nI (ckN P 1 0 (pT P) 0), ?_, ?_⟩
    · show Option.bind (F_X0_countOfKind (nI 1) u) _ = _
      rw [ck4 g5 g1 (by decide) (by decide)]
      rfl
    · rw [c_41 (by decide), c41_78 (by decide), c78_114 (by decide), c114_150 (by decide)]
      show Option.bind (F_X5_kindsOf (nI 1) u) _ = _
      rw [ck5 g6 g1 (by decide) (by decide)]
      rfl
  · refine ⟨nI (ckN P 2 0 (pT P) 0), ?_, ?_⟩
    · show Option.bind (F_X0_countOfKind (nI 2) u) _ = _
      rw [ck4 g5 g1 (by decide) (by decide)]
      rfl
    · rw [c_41 (by decide), c41_78 (by decide), c78_114 (by decide), c114_150 (by decide)]
      show Option.bind (F_X5_kindsOf (nI 2) u) _ = _
      rw [ck5 g6 g1 (by decide) (by decide)]
      rfl
  · refine ⟨nI (prN (mi u 8) 0 6 0), ?_, ?_⟩
    · show Option.bind (F_X4_presentIn 8 u) _ = _
      rw [pr4 (n := 6) rfl (by decide)]
      rfl
    · have e := cnt43 u h1 6 0 0 (by omega) FU (by decide)
      rw [c_41 (by decide)]
      show F_X5_counted_43 FU 8 (nI 0) (nI 0) u = _
      rw [e, c78_114 (by decide), c114_150 (by decide)]
      rfl
  · refine ⟨nI (prN (mi u 14) 0 4 0), ?_, ?_⟩
    · show Option.bind (F_X4_presentIn 14 u) _ = _
      rw [pr4 (n := 4) rfl (by decide)]
      rfl
    · have e := cnt80 u h2 4 0 0 (by omega) FU (by decide)
      rw [c_41 (by decide), c41_78 (by decide)]
      show F_X5_counted_80 FU 9 (nI 0) (nI 0) u = _
      rw [e, c114_150 (by decide)]
      rfl
  · refine ⟨nI (prN (mi u 19) 0 3 0), ?_, ?_⟩
    · show Option.bind (F_X4_presentIn 19 u) _ = _
      rw [pr4 (n := 3) rfl (by decide)]
      rfl
    · have e := cnt116 u g9 3 0 0 (by omega) FU (by decide)
      rw [c_41 (by decide), c41_78 (by decide), c78_114 (by decide)]
      show F_X5_counted_116 FU 10 (nI 0) (nI 0) u = _
      rw [e]
      rfl
theorem count_out {v : Int32} {u : XM} (h : ¬ (0 ≤ v.toInt ∧ v.toInt < 11)) : F_X4_count v u = some (-1, u) := by
  unfold F_X4_count
  rw [tsw_out v _ _ 0 (by show v.toInt < 0 ∨ (0 : Int) + 11 ≤ v.toInt; omega)]
theorem ST_count (v1 : Int32) (u : XM) (h : REL u) : PRI (F_X4_count v1) (F_X5_count v1) u := by
  unfold PRI F_X5_count
  have b1 := fun w => in5i v1 0 10 w (lo := 0) (hi := 11) (by decide) (by decide)
  by_cases hv : 0 ≤ v1.toInt ∧ v1.toInt < 11
  · obtain ⟨w, hw, rfl⟩ := i_nat (n := 11) hv (by decide)
    obtain ⟨r, e1, e2⟩ := count45 h hw
    refine ⟨r, u, u, e1, ?_, h⟩
    rw [b1, if_pos hv, bd1, e2]
    rfl
  · refine ⟨-1, u, u, count_out hv, ?_, h⟩
    rw [b1, if_neg hv]
    rfl
