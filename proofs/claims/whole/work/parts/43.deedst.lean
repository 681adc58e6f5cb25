theorem ST_paddle (v1 : Int32) (u : XM) (h : REL u) : PRI (F_X4_paddle v1) (F_X5_paddle v1) u := by
  have hh := h
  obtain ⟨h1, h2, h3, h4, P, s0, ds, n, g1, g2, g3, g4, g5, g6, g7, g8, g9⟩ := h
  have hT := g1.1
  have hS := sq_ok g2 g4 n (Nat.le_refl _)
  have hy : (sq P s0 ds n).2.2 ≤ 40 := Nat.le_trans (sq_year g3 n) g4.1
  unfold PRI F_X4_paddle F_X5_paddle
  by_cases hv : 0 ≤ v1.toInt ∧ v1.toInt < 2
  · obtain ⟨f, hf, rfl⟩ := i_nat (v := v1) (n := 2) hv (by decide)
    have b3 : ∀ w, F_X5_in (nI f).toInt64 0 1 w = some (1, w) := fun w => by rw [in5i (nI f) 0 1 w (lo := 0) (hi := 2) (by decide) (by decide), if_pos hv]
    have a1 : (if nI f = 0 then F_X4_paddle_11 (nI f) u else if nI f = 1 then F_X4_paddle_11 (nI f) u else some (-1, u)) = F_X4_paddle_11 (nI f) u := by
      have : f = 0 ∨ f = 1 := by omega
      rcases this with rfl | rfl <;> rfl
    rw [a1]
    unfold F_X4_paddle_11
    rw [g5.1]
    by_cases h0 : pT P = 0
    · refine ⟨-4, u, u, by rw [h0]; rfl, ?_, hh⟩
      rw [b3, bd1, refuses5 g6 g1 g8.1 g4.1, if_pos h0]
      rfl
    · rw [if_neg (nI_ne0 (by omega) (by omega)), g7.2.2.1]
      by_cases h40 : n = 40
      · refine ⟨-2, u, u, by rw [h40]; rfl, ?_, hh⟩
        rw [b3, bd1, refuses5 g6 g1 g8.1 g4.1, if_neg h0, if_pos h40]
        rfl
      · have hn : n < 40 := by have := g4.1; omega
        have hD : okD P (sq P s0 ds n) (1 + f) 0 := ⟨by omega, by omega, by omega, by omega, by omega⟩
        rw [if_pos (show nI n < (40 : Int32) from nI_lt (b := 40) hn (by decide))]
        obtain ⟨v, c0, c1, c2, c3⟩ := perform4 g1 hS hy g5 g7 hn hD
        obtain ⟨w, m0, m1, m2, m3⟩ := turns5 g1 hS (g6.frC2 c3) (g8.frC2 c3) hn (8 * (1 + f) + 0) 0 (show f ≤ 1 by omega)
        refine ⟨nI (actN P (1 + f) 0 (sq P s0 ds n)).2.1, v, w, ?_, ?_, REL_deed h1 h2 h3 h4 g1 g2 g3 g4 g9 hn hD c1 c2 c3 m1 m2 m3⟩
        · have a2 : (if nI f = 1 then F_X4_paddle_53 2 u else F_X4_paddle_53 1 u) = F_X4_paddle_53 (nI (1 + f)) u := by
            have : f = 0 ∨ f = 1 := by omega
            rcases this with rfl | rfl <;> rfl
          rw [a2]
          unfold F_X4_paddle_53
          rw [show (0 : Int32) = nI 0 from rfl, c0, Option.bind_some]
          show some (mi v 22 9, v) = _
          rw [c1.2.2.1]
        · rw [b3, bd1]
          show Option.bind (F_X5_refuses v) _ = _
          rw [refuses5 (g6.frC2 c3) g1 (g8.frC2 c3).1 g4.1, if_neg h0, if_neg h40]
          have a3 : (if nI f = 1 then F_X5_paddle_34 1 v else F_X5_paddle_34 0 v) = F_X5_paddle_34 (nI f) v := by
            have : f = 0 ∨ f = 1 := by omega
            rcases this with rfl | rfl <;> rfl
          show (if nI f = 1 then F_X5_paddle_34 1 v else F_X5_paddle_34 0 v) = _
          rw [a3]
          unfold F_X5_paddle_34
          rw [m0, Option.bind_some, if_pos (by decide), show Int32.toNatClampNeg 6 = 6 from by decide]
          show some (mi w 43 6, w) = _
          rw [m1.2.2.1]
  · refine ⟨-1, u, u, ?_, ?_, hh⟩
    · have n0 : ¬ v1 = 0 := fun q => hv (by rw [q]; decide)
      have n1 : ¬ v1 = 1 := fun q => hv (by rw [q]; decide)
      rw [if_neg n0, if_neg n1]
    · rw [in5i v1 0 1 u (lo := 0) (hi := 2) (by decide) (by decide), if_neg hv]
      rfl
theorem absN : ∀ a, a < 8 → ∀ b, b < 8 → (if (0 : Int32) ≤ nI a - nI b then nI a - nI b else -(nI a - nI b)) = nI ((a - b) + (b - a)) := by decide +kernel
theorem abs4 (u : XM) {a b : Nat} (ha : a < 8) (hb : b < 8) : F_J9_abs_0f7a4 YY (nI a - nI b) u = some (nI ((a - b) + (b - a)), u) := by
  unfold F_J9_abs_0f7a4
  rw [← absN a ha b hb]
  split <;> rfl
theorem abs5 (u : XM) {a b : Nat} (ha : a < 8) (hb : b < 8) : F_X5_abs (nI a - nI b) u = some (nI ((a - b) + (b - a)), u) := by
  unfold F_X5_abs
  rw [← absN a ha b hb]
  split <;> rfl
theorem canTake4 {u : XM} {P : CP} {S : PS} (hC : curC u P S) (hP : okP P) (hS : okS P S) {i : Nat} (hi : i < pT P) : F_X0_canTake (nI i) u = some (if S.1 i ≠ 8 ∧ S.2.1 = 0 then 1 else 0, u) := by
  have hl := hS.2
  unfold F_X0_canTake
  rw [isTaken4 hC hP hS hi]
  by_cases h8 : S.1 i = 8
  · rw [if_pos h8, bd1, if_neg (fun q => q.1 h8)]
  · rw [if_neg h8, bd0]
    show (if mi u 22 9 = 0 then some (1, u) else some (0, u)) = _
    rw [hC.2.2.1]
    by_cases h0 : S.2.1 = 0
    · rw [h0, if_pos (show nI 0 = 0 from rfl), if_pos ⟨h8, rfl⟩]
    · rw [if_neg (nI_ne0 (by omega) (by omega)), if_neg (fun q => h0 q.2)]
theorem mayTake5 {u : XM} {P : CP} {S : PS} (hM : curM u P S) (hP : okP P) (hS : okS P S) {i : Nat} (hi : i < pT P) : F_X5_mayTake (nI i) u = some (if S.1 i ≠ 8 ∧ S.2.1 = 0 then 1 else 0, u) := by
  have hl := hS.2
  unfold F_X5_mayTake
  rw [isTaken5 hM hP hS hi]
  by_cases h8 : S.1 i = 8
  · rw [if_pos h8, bd1, if_neg (fun q => q.1 h8)]
  · rw [if_neg h8, bd0, if_pos (by decide), show Int32.toNatClampNeg 6 = 6 from by decide]
    show (if mi u 43 6 = 0 then some (1, u) else some (0, u)) = _
    rw [hM.2.2.1]
    by_cases h0 : S.2.1 = 0
    · rw [h0, if_pos (show nI 0 = 0 from rfl), if_pos ⟨h8, rfl⟩]
    · rw [if_neg (nI_ne0 (by omega) (by omega)), if_neg (fun q => h0 q.2)]
theorem ST_take (v1 : Int32) (u : XM) (h : REL u) : PRI (F_X4_take v1) (F_X5_take v1) u := by
  have hh := h
  obtain ⟨h1, h2, h3, h4, P, s0, ds, n, g1, g2, g3, g4, g5, g6, g7, g8, g9⟩ := h
  have hT := g1.1
  have hS := sq_ok g2 g4 n (Nat.le_refl _)
  have hy : (sq P s0 ds n).2.2 ≤ 40 := Nat.le_trans (sq_year g3 n) g4.1
  unfold PRI F_X4_take F_X5_take
  rw [has4 g5 g1]
  by_cases hi : 0 ≤ v1.toInt ∧ v1.toInt < pT P
  · obtain ⟨i, hi', rfl⟩ := i_nat (n := pT P) hi (by omega)
    obtain ⟨o1, o2, o3⟩ := g1.2.2 i hi'
    obtain ⟨c1, c2, c3, c4⟩ := g5.2.2.2.2 i hi'
    have b1 : ∀ w, curM w P (sq P s0 ds n) → F_X5_isThing (nI i) w = some (1, w) := fun w hw => by rw [isThing5 hw g1, if_pos hi]
    rw [if_pos hi, bd1]
    by_cases hc : (sq P s0 ds n).1 i ≠ 8 ∧ (sq P s0 ds n).2.1 = 0
    · have hx7 : (sq P s0 ds n).1 i ≤ 7 := by have := hS.1 i hi'; have := hc.1; omega
      have a1 : F_X0_canTake (nI i) u = some (1, u) := by rw [canTake4 g5 g1 hS hi', if_pos hc]
      have b2 : ∀ w, curM w P (sq P s0 ds n) → F_X5_mayTake (nI i) w = some (1, w) := fun w hw => by rw [mayTake5 hw g1 hS hi', if_pos hc]
      show ∃ r u1 u2, Option.bind (F_X0_canTake (nI i) u) _ = some (r, u1) ∧ _
      rw [a1, bd1]
      show ∃ r u1 u2, (if mi u 22 11 < 40 then _ else some (-2, u)) = some (r, u1) ∧ _
      rw [g7.2.2.1]
      by_cases h40 : n = 40
      · refine ⟨-2, u, u, by rw [h40]; rfl, ?_, hh⟩
        rw [b1 u g6, bd1, b2 u g6, bd1]
        show (if mi u 35 10 = 40 then some (-2, u) else _) = _
        rw [g8.1, h40]
        rfl
      · have hn : n < 40 := by have := g4.1; omega
        have hD : okD P (sq P s0 ds n) 5 i := ⟨by omega, hi', by omega, by omega, fun _ => hx7⟩
        rw [if_pos (show nI n < (40 : Int32) from nI_lt (b := 40) hn (by decide)), if_pos (ainN rfl (show i < 6 by omega) (by decide)), if_pos (ainN rfl (show i < 6 by omega) (by decide)), nI_clamp (by omega)]
        obtain ⟨v, p0, p1, p2, p3⟩ := perform4 g1 hS hy g5 g7 hn hD
        have hMv := g6.frC2 p3
        obtain ⟨w, m0, m1, m2, m3⟩ := home5 g1 hMv (g8.frC2 p3) hn (8 * 5 + i) hi'
        refine ⟨nI (((sq P s0 ds n).1 i - pG P i) + (pG P i - (sq P s0 ds n).1 i)), v, w, ?_, ?_, REL_deed h1 h2 h3 h4 g1 g2 g3 g4 g9 hn hD p1 p2 p3 m1 m2 m3⟩
        · rw [show mi ((1 : Int32), u).2 25 i = nI ((sq P s0 ds n).1 i) from by rw [← eC_n hx7]; exact c4, show mi ((1 : Int32), u).2 27 i = nI (pG P i) from c3, abs4 _ (by omega) (by omega), Option.bind_some]
          show Option.bind (F_X0_perform 5 (nI i) u) _ = _
          rw [show (5 : Int32) = nI 5 from rfl, p0]
          rfl
        · obtain ⟨q1, q2, q3, q4⟩ := hMv.2.2.2.2 i hi'
          rw [b1 v hMv, bd1, b2 v hMv, bd1]
          show (if mi v 35 10 = 40 then some (-2, v) else _) = _
          rw [(g8.frC2 p3).1, if_neg (show ¬ nI n = 40 from fun q => h40 (n_inj (b := 40) q (by omega) (by omega))), z_add, if_pos (ainN rfl (show i < 8 by omega) (by decide)), if_pos (ainN rfl (show i < 6 by omega) (by decide)), nI_clamp (by omega)]
          rw [show mi ((1 : Int32), v).2 43 i = nI ((sq P s0 ds n).1 i) from by rw [← eC_n hx7]; exact q4, show mi ((1 : Int32), v).2 42 i = nI (pG P i) from q3, abs5 _ (by omega) (by omega), Option.bind_some]
          show Option.bind (F_X5_takesHome (nI i) v) _ = _
          rw [m0]
          rfl
    · refine ⟨-4, u, u, ?_, ?_, hh⟩
      · show Option.bind (F_X0_canTake (nI i) u) _ = _
        rw [canTake4 g5 g1 hS hi', if_neg hc]
        rfl
      · rw [b1 u g6, bd1]
        show Option.bind (F_X5_mayTake (nI i) u) _ = _
        rw [mayTake5 g6 g1 hS hi', if_neg hc]
        rfl
  · refine ⟨-1, u, u, ?_, ?_, hh⟩
    · rw [if_neg hi]; rfl
    · rw [isThing5 g6 g1, if_neg hi]; rfl
