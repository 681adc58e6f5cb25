/-! ===== replay, undo, keep, on ===== -/
theorem replay_l {P : CP} {s0 : PS} {ds : Nat → Nat} {m : Nat} (hP : okP P) (h0 : okS P s0) (hz : s0.2.2 = 0) (hH : okH P s0 ds m) : ∀ (k j : Nat) (u : XM), j + k = m → curC u P (sq P s0 ds j) → mi u 22 11 = nI m → (∀ i, i < m → mi u 28 i = nI (ds i)) → ∀ fuel, k < fuel → ∃ v, F_X0_replay_40 fuel (nI j) u = some ((), v) ∧ curC v P (sq P s0 ds m) ∧ frC u v
  | 0, j, u, hj, hC, h11, h28, fuel + 1, _ => by
    have hm := hH.1
    unfold F_X0_replay_40
    rw [h11, if_pos (nI_le (by omega) (by omega))]
    refine ⟨u, rfl, ?_, ⟨fun _ _ _ => rfl, fun _ _ _ => rfl, rfl⟩⟩
    rw [show m = j by omega]; exact hC
  | k + 1, j, u, hj, hC, h11, h28, fuel + 1, hf => by
    have hm := hH.1
    have hD := hH.2 j (by omega)
    have hds : ds j < 48 := by have := hD.1; omega
    obtain ⟨v, a1, a2, a3⟩ := act4 hC hP (sq_ok h0 hH j (by omega)) (Nat.le_trans (sq_year hz j) (by omega)) hD
    obtain ⟨w, b1, b2, b3⟩ := replay_l hP h0 hz hH k (j + 1) v (by omega) a2 (by rw [a3.2.1 11 (by decide) (by decide)]; exact h11) (fun i hi => by rw [a3.1 28 (by decide) (by decide)]; exact h28 i hi) fuel (by omega)
    refine ⟨w, ?_, b2, a3.tr b3⟩
    unfold F_X0_replay_40
    rw [h11, if_neg (nI_ge (by omega) (by omega)), if_pos (ainN rfl (show j < 40 by omega) (by decide)), if_pos (ainN rfl (show j < 40 by omega) (by decide)), nI_clamp (by omega), h28 j (by omega)]
    rw [show nI (ds j) / 8 = nI (ds j / 8) from pk_div (d := 8) (by omega) (by decide) (by decide)]
    rw [show nI (ds j) - nI (ds j / 8) * 8 = nI (ds j % 8) from by
      have := pk_rem (a := ds j) (d := 8) (by omega) (by decide) (by decide)
      rw [show nI (ds j) / nI 8 = nI (ds j / 8) from pk_div (d := 8) (by omega) (by decide) (by decide)] at this
      exact this]
    rw [a1, Option.bind_some, nI_1]
    exact b1
theorem replay4 {u : XM} {P : CP} {S s0 : PS} {ds : Nat → Nat} {m : Nat} (hP : okP P) (h0 : okS P s0) (hz : s0.2.2 = 0) (hH : okH P s0 ds m) (hC : curC u P S) (e24 : ∀ i, i < pT P → mi u 24 i = eC (s0.1 i)) (e8 : mi u 22 8 = nI s0.2.1) (e28 : ∀ i, i < m → mi u 28 i = nI (ds i)) : ∃ v, F_X0_replay (nI m) u = some ((), v) ∧ curC v P (sq P s0 ds m) ∧ hisC v P s0 ds m ∧ (∀ a, a ≠ 22 → a ≠ 25 → mi v a = mi u a) ∧ ml v = ml u := by
  have hT := hP.1
  have hm := hH.1
  have hC2 : curC (wi (wi (wi (wc u 24 0 25 0 6) 22 9 (mi u 22 8)) 22 10 0) 22 11 (nI m)) P (sq P s0 ds 0) := by
    obtain ⟨a1, a2, a3, a4, a5⟩ := hC
    refine ⟨a1, a2, ?_, ?_, fun i hi => ?_⟩
    · show mi u 22 8 = _
      exact e8
    · show (0 : Int32) = nI s0.2.2
      rw [hz]; rfl
    · obtain ⟨b1, b2, b3, b4⟩ := a5 i hi
      refine ⟨b1, b2, b3, ?_⟩
      rw [xmi_ne (by decide), xmi_ne (by decide), xmi_ne (by decide), mi_wc, if_pos ⟨rfl, by omega⟩, show 0 + (i - 0) = i by omega]
      exact e24 i hi
  obtain ⟨v, b1, b2, b3⟩ := replay_l hP h0 hz hH m 0 _ (by omega) hC2 rfl (fun i hi => e28 i hi) FU (show m < 1000 by omega)
  have hfr : ∀ a, a ≠ 22 → a ≠ 25 → mi v a = mi u a := fun a h1 h2 => by
    rw [b3.1 a h1 h2, xmi_ne h1, xmi_ne h1, xmi_ne h1, xmi_wcne h2]
  refine ⟨v, ?_, b2, ⟨fun i hi => by rw [hfr 24 (by decide) (by decide)]; exact e24 i hi, ?_, ?_, fun j hj => by rw [hfr 28 (by decide) (by decide)]; exact e28 j hj⟩, hfr, b3.2.2⟩
  · unfold F_X0_replay
    rw [show alen YY 0 24 = some 6 from alenN rfl, show alen YY 0 25 = some 6 from alenN rfl, Option.bind_some, Option.bind_some, if_pos (by decide), show Int32.toNatClampNeg 0 = 0 from by decide, show Int32.toNatClampNeg 6 = 6 from by decide, min4, if_neg (show ¬ (40 : Int32) < nI m from nI_nlt (a := 40) (by omega) (by decide)), Option.bind_some, show (0 : Int32) = nI 0 from rfl]
    exact b1
  · rw [b3.2.1 8 (by decide) (by decide)]
    exact e8
  · rw [b3.2.1 11 (by decide) (by decide)]
    rfl
theorem okH_le {P : CP} {s0 : PS} {ds : Nat → Nat} {n m : Nat} (h : okH P s0 ds n) (hm : m ≤ n) : okH P s0 ds m := ⟨Nat.le_trans hm h.1, fun j hj => h.2 j (by omega)⟩
theorem ST_undo (v1 : Int32) (u : XM) (h : REL u) : PRI (F_X4_undo v1) (F_X5_undo v1) u := by
  have hh := h
  obtain ⟨h1, h2, h3, h4, P, s0, ds, n, g1, g2, g3, g4, g5, g6, g7, g8, g9⟩ := h
  have hT := g1.1
  have hn := g4.1
  unfold PRI F_X4_undo F_X5_undo
  rw [g7.2.2.1, rngLe (N := (n : Int) + 1) (by rw [nI_toInt (by omega)])]
  have b3 : ∀ w, mi w 35 10 = nI n → F_X5_in v1.toInt64 0 (mi w 35 10).toInt64 w = some (if 0 ≤ v1.toInt ∧ v1.toInt < (n : Int) + 1 then 1 else 0, w) := fun w hw => by
    rw [hw]
    exact in5i v1 0 _ w (lo := 0) (hi := (n : Int) + 1) (by decide) (by rw [l_i64, nI_toInt (by omega)])
  by_cases hv : 0 ≤ v1.toInt ∧ v1.toInt < (n : Int) + 1
  · obtain ⟨m, hm, rfl⟩ := i_nat (v := v1) (n := n + 1) (by omega) (by omega)
    have hH := okH_le g4 (show m ≤ n by omega)
    obtain ⟨v, a1, a2, a3, a4, a5⟩ := replay4 g1 g2 g3 hH g5 g7.1 g7.2.1 (fun i hi => g7.2.2.2 i (by omega))
    have k35 : mi v 35 = mi u 35 := a4 35 (by decide) (by decide)
    have k10 : mi v 35 10 = nI n := by rw [k35]; exact g8.1
    have esub : nI n - nI m = nI (n - m) := pk_sub (by omega)
    -- the reference's memory behind it
    have key : ∃ w, F_X5_undo (nI m) v = some (nI (n - m), w) ∧ curM w P (sq P s0 ds m) ∧ mi w 35 10 = nI m ∧ (∀ a, a ≠ 35 → a ≠ 43 → mi w a = mi v a) ∧ (∀ b, b ≠ 10 → mi w 35 b = mi v 35 b) ∧ ml w = ml v := by
      unfold F_X5_undo
      rw [b3 v k10, if_pos hv, bd1]
      show ∃ w, (if mi v 35 10 - nI m ≤ 0 then F_X5_undo_45 (nI m) (mi v 35 10 - nI m) v else _) = _ ∧ _
      rw [k10, esub]
      have hMv : curM v P (sq P s0 ds n) := by
        unfold curM
        rw [k35, a4 43 (by decide) (by decide), a4 40 (by decide) (by decide), a4 41 (by decide) (by decide), a4 42 (by decide) (by decide)]
        exact g6
      by_cases hmn : n - m = 0
      · rw [if_pos (show nI (n - m) ≤ 0 from nI_le (b := 0) (by omega) (by decide))]
        refine ⟨_, rfl, ?_, rfl, fun a ha _ => xmi_ne ha, fun b hb => by rw [mi_wi, if_neg (fun q => hb q.2)], rfl⟩
        rw [show m = n by omega]
        exact hMv
      · rw [if_neg (show ¬ nI (n - m) ≤ 0 from nI_nle (by omega) (by omega))]
        rw [show (8 : Int32) * nI m = nI (8 * m) from pk_mul 8 m, show (0 : Int32) = nI 0 from rfl, show F_X5_copies 44 (nI (8 * m)) 43 (nI 0) 8 ((1 : Int32), v).2 = some ((), wc v 44 (8 * m) 43 0 8) from copies5 (m := 8) (by decide) rfl rfl (show 8 * m + 8 ≤ 320 by omega) (show 0 + 8 ≤ 8 by decide) (by decide) (by decide) (by decide) v, Option.bind_some]
        refine ⟨wi (wc v 44 (8 * m) 43 0 8) 35 10 (nI m), ?_, ?_, rfl, fun a ha hb => (xmi_ne ha).trans (xmi_wcne hb), fun b hb => by rw [mi_wi, if_neg (fun q => hb q.2)]; rfl, rfl⟩
        · rfl
        · have hs := g8.2 m (by omega)
          have e : ∀ b, b < 8 → mi (wi (wc v 44 (8 * m) 43 0 8) 35 10 (nI m)) 43 b = mi u 44 (8 * m + b) := fun b hb => by
            rw [xmi_ne (by decide), mi_wc, if_pos ⟨rfl, by omega⟩, show 8 * m + (b - 0) = 8 * m + b by omega, a4 44 (by decide) (by decide)]
          obtain ⟨c1, c2, c3, c4, c5⟩ := hMv
          refine ⟨c1, c2, ?_, ?_, fun i hi => ?_⟩
          · rw [e 6 (by decide)]; exact hs.2.1
          · rw [e 7 (by decide)]; exact hs.2.2
          · obtain ⟨d1, d2, d3, d4⟩ := c5 i hi
            refine ⟨d1, d2, d3, ?_⟩
            rw [e i (by omega)]; exact hs.1 i hi
    obtain ⟨w, k1, k2, k3, k4, k5, k6⟩ := key
    refine ⟨nI (n - m), v, w, ?_, ?_, ?_⟩
    · rw [if_pos hv, a1, Option.bind_some, esub]
    · unfold F_X5_undo at k1
      exact k1
    · have e : ∀ a, ¬ (a = 22 ∨ a = 25 ∨ a = 35 ∨ a = 43) → mi w a = mi u a := fun a ha => (k4 a (by omega) (by omega)).trans (a4 a (by omega) (by omega))
      have e35 : ∀ b, b ≠ 10 → mi w 35 b = mi u 35 b := fun b hb => (k5 b hb).trans (by rw [k35])
      have el : ml w = ml u := k6.trans a5
      refine ⟨h1.fr (fun a ha => e a (by omega)), h2.fr (fun a ha => e a (by omega)), h3.fr (e 34 (by omega)) (e 47 (by omega)) (by rw [e 0 (by omega)]) (e35 17 (by omega)), h4.fr (by rw [e 0 (by omega)]) (e35 14 (by omega)) (by rw [el]) (by rw [el]), P, s0, ds, m, g1, g2, g3, hH, ?_, k2, ?_, ⟨k3, fun j hj => ?_⟩, fun k hk => ?_⟩
      · unfold curC
        rw [k4 22 (by decide) (by decide), k4 23 (by decide) (by decide), k4 26 (by decide) (by decide), k4 27 (by decide) (by decide), k4 25 (by decide) (by decide)]
        exact a2
      · unfold hisC
        rw [k4 24 (by decide) (by decide), k4 22 (by decide) (by decide), k4 28 (by decide) (by decide)]
        exact a3
      · have := g8.2 j (by omega)
        unfold snap at this ⊢
        rw [e 44 (by omega)]
        exact this
      · have := g9 k hk
        unfold kep snap at this ⊢
        rw [e 19 (by omega), e 46 (by omega), e (16 + k) (by omega), e 45 (by omega)]
        exact this
  · refine ⟨-1, u, u, ?_, ?_, hh⟩
    · rw [if_neg hv]
    · rw [b3 u g8.1, if_neg hv]; rfl
