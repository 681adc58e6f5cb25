def mby (s : Nat) : Int32 := if s = 1 then 1 else -1
def mok (s c : Nat) : Prop := if s = 1 then c < 7 else 1 ≤ c ∧ c ≤ 7
def mto (s c : Nat) : Nat := if s = 1 then c + 1 else c - 1
theorem mcell : ∀ s, s < 2 → ∀ c, c < 8 → (0 ≤ (nI c + mby s).toInt ∧ (nI c + mby s).toInt < 8 ↔ (if s = 1 then c < 7 else 1 ≤ c ∧ c ≤ 7)) := by decide +kernel
theorem madd : ∀ s, s < 2 → ∀ c, c < 8 → (if s = 1 then c < 7 else 1 ≤ c ∧ c ≤ 7) → nI c + mby s = nI (if s = 1 then c + 1 else c - 1) := by decide +kernel
theorem canMove4 {u : XM} {P : CP} {S : PS} (hC : curC u P S) (hP : okP P) (hS : okS P S) {i s : Nat} (hi : i < pT P) (hs : s < 2) : F_X0_canMove (nI i) (mby s) u = some (if S.1 i ≠ 8 ∧ (if s = 1 then S.1 i < 7 else 1 ≤ S.1 i ∧ S.1 i ≤ 7) then 1 else 0, u) := by
  have hT := hP.1
  have h9 := hS.1 i hi
  unfold F_X0_canMove
  rw [isTaken4 hC hP hS hi]
  by_cases h8 : S.1 i = 8
  · rw [if_pos h8, bd1, if_neg (fun q => q.1 h8)]
  · rw [if_neg h8, bd0, if_pos (ainN rfl (show i < 6 by omega) (by decide)), nI_clamp (by omega)]
    show Option.bind (F_X4_isCell (mi u 25 i + mby s) u) _ = _
    rw [(hC.2.2.2.2 i hi).2.2.2, eC_n (by omega), isCell4]
    have hm := mcell s hs (S.1 i) (by omega)
    by_cases hc : 0 ≤ (nI (S.1 i) + mby s).toInt ∧ (nI (S.1 i) + mby s).toInt < 8
    · rw [if_pos hc, bd1, if_pos ⟨h8, hm.mp hc⟩]
    · rw [if_neg hc, bd0, if_neg (fun q => hc (hm.mpr q.2))]
theorem mayMove5 {u : XM} {P : CP} {S : PS} (hM : curM u P S) (hP : okP P) (hS : okS P S) {i s : Nat} (hi : i < pT P) (hs : s < 2) : F_X5_mayMove (nI i) (mby s) u = some (if S.1 i ≠ 8 ∧ (if s = 1 then S.1 i < 7 else 1 ≤ S.1 i ∧ S.1 i ≤ 7) then 1 else 0, u) := by
  have hT := hP.1
  have h9 := hS.1 i hi
  unfold F_X5_mayMove
  rw [isTaken5 hM hP hS hi]
  by_cases h8 : S.1 i = 8
  · rw [if_pos h8, bd1, if_neg (fun q => q.1 h8)]
  · rw [if_neg h8, bd0, z_add, if_pos (ainN rfl (show i < 8 by omega) (by decide)), nI_clamp (by omega)]
    show Option.bind (F_X5_isCell (mi u 43 i + mby s) u) _ = _
    rw [(hM.2.2.2.2 i hi).2.2.2, eC_n (by omega), isCell5]
    have hm := mcell s hs (S.1 i) (by omega)
    by_cases hc : 0 ≤ (nI (S.1 i) + mby s).toInt ∧ (nI (S.1 i) + mby s).toInt < 8
    · rw [if_pos hc, bd1, if_pos ⟨h8, hm.mp hc⟩]
    · rw [if_neg hc, bd0, if_neg (fun q => hc (hm.mpr q.2))]
/-- a move on both sides -/
theorem move_s {u : XM} (h : REL u) {P : CP} {s0 : PS} {ds : Nat → Nat} {n : Nat} (g1 : okP P) (g2 : okS P s0) (g3 : s0.2.2 = 0) (g4 : okH P s0 ds n) (g5 : curC u P (sq P s0 ds n)) (g6 : curM u P (sq P s0 ds n)) (g7 : hisC u P s0 ds n) (g8 : hisM u P s0 ds n) (g9 : ∀ k, k < 3 → kep u P s0 k) {i s : Nat} (hi' : i < pT P) (hs : s < 2) : ∃ r u1 u2, F_X4_move_23 (nI i) (mby s) u = some (r, u1) ∧ F_X5_move_20 (nI i) (mby s) u1 = some (r, u2) ∧ REL u2 ∧ curM u1 P (sq P s0 ds n) := by
  have hT := g1.1
  have hS := sq_ok g2 g4 n (Nat.le_refl _)
  have hy : (sq P s0 ds n).2.2 ≤ 40 := Nat.le_trans (sq_year g3 n) g4.1
  have h9 := hS.1 i hi'
  unfold F_X4_move_23 F_X5_move_20
  rw [canMove4 g5 g1 hS hi' hs]
  by_cases hc : (sq P s0 ds n).1 i ≠ 8 ∧ (if s = 1 then (sq P s0 ds n).1 i < 7 else 1 ≤ (sq P s0 ds n).1 i ∧ (sq P s0 ds n).1 i ≤ 7)
  · have hx7 : (sq P s0 ds n).1 i ≤ 7 := by have := hc.1; omega
    rw [if_pos hc, bd1]
    have b2 : ∀ w, curM w P (sq P s0 ds n) → F_X5_mayMove (nI i) (mby s) w = some (1, w) := fun w hw => by rw [mayMove5 hw g1 hS hi' hs, if_pos hc]
    show ∃ r u1 u2, (if mi u 22 11 < 40 then _ else some (-2, u)) = some (r, u1) ∧ _
    rw [g7.2.2.1]
    by_cases h40 : n = 40
    · refine ⟨-2, u, u, by rw [h40]; rfl, ?_, h, g6⟩
      rw [b2 u g6, bd1]
      show (if mi u 35 10 = 40 then some (-2, u) else _) = _
      rw [g8.1, h40]
      rfl
    · have hn : n < 40 := by have := g4.1; omega
      have hD : okD P (sq P s0 ds n) (4 - s) i := by
        have hs2 : s = 0 ∨ s = 1 := by omega
        rcases hs2 with rfl | rfl
        · exact ⟨by omega, hi', by omega, fun _ => hc.2, by omega⟩
        · exact ⟨by omega, hi', fun _ => hc.2, by omega, by omega⟩
      rw [if_pos (show nI n < (40 : Int32) from nI_lt (b := 40) hn (by decide))]
      obtain ⟨h1, h2, h3, h4, -⟩ := h
      obtain ⟨v, p0, p1, p2, p3⟩ := perform4 g1 hS hy g5 g7 hn hD
      have hMv := g6.frC2 p3
      have hto : (if s = 1 then (sq P s0 ds n).1 i + 1 else (sq P s0 ds n).1 i - 1) ≤ 7 := by
        have hs2 : s = 0 ∨ s = 1 := by omega
        rcases hs2 with rfl | rfl
        · show (sq P s0 ds n).1 i - 1 ≤ 7; omega
        · have := hc.2; show (sq P s0 ds n).1 i + 1 ≤ 7; simp at this; omega
      obtain ⟨w, m0, m1, m2, m3⟩ := goes5 g1 hMv (g8.frC2 p3) hn (8 * (4 - s) + i) hi' hx7 hto (madd s hs _ (by omega) hc.2)
      have hact : ∀ j, j < pT P → (actN P (4 - s) i (sq P s0 ds n)).1 j = (if j = i then (if s = 1 then (sq P s0 ds n).1 i + 1 else (sq P s0 ds n).1 i - 1) else (sq P s0 ds n).1 j) := fun j hj => by
        have hs2 : s = 0 ∨ s = 1 := by omega
        rcases hs2 with rfl | rfl
        · show (if j = i then (sq P s0 ds n).1 j - 1 else (sq P s0 ds n).1 j) = _
          by_cases q : j = i
          · rw [if_pos q, if_pos q, q]; rfl
          · rw [if_neg q, if_neg q]
        · show (if j = i then (sq P s0 ds n).1 j + 1 else (sq P s0 ds n).1 j) = _
          by_cases q : j = i
          · rw [if_pos q, if_pos q, q]; rfl
          · rw [if_neg q, if_neg q]
      have hact2 : (actN P (4 - s) i (sq P s0 ds n)).2 = (sq P s0 ds n).2 := by
        have hs2 : s = 0 ∨ s = 1 := by omega
        rcases hs2 with rfl | rfl <;> rfl
      have m1' : curM w P (actN P (4 - s) i (sq P s0 ds n)) := m1.congr hact hact2
      refine ⟨nI (if s = 1 then (sq P s0 ds n).1 i + 1 else (sq P s0 ds n).1 i - 1), v, w, ?_, ?_, REL_deed h1 h2 h3 h4 g1 g2 g3 g4 g9 hn hD p1 p2 p3 m1' m2 m3, hMv⟩
      · have a2 : (if mby s = 1 then F_X4_move_67 (nI i) 3 u else F_X4_move_67 (nI i) 4 u) = F_X4_move_67 (nI i) (nI (4 - s)) u := by
          have hs2 : s = 0 ∨ s = 1 := by omega
          rcases hs2 with rfl | rfl
          · rw [if_neg (by decide)]; rfl
          · rw [if_pos (by decide)]; rfl
        show (if mby s = 1 then F_X4_move_67 (nI i) 3 u else F_X4_move_67 (nI i) 4 u) = _
        rw [a2]
        unfold F_X4_move_67
        rw [p0, Option.bind_some, if_pos (ainN rfl (show i < 6 by omega) (by decide)), nI_clamp (by omega)]
        show some (mi v 25 i, v) = _
        rw [(p1.2.2.2.2 i hi').2.2.2, hact i hi', if_pos rfl, eC_n hto]
      · rw [b2 v hMv, bd1]
        show (if mi v 35 10 = 40 then some (-2, v) else _) = _
        rw [(g8.frC2 p3).1, if_neg (show ¬ nI n = 40 from fun q => h40 (n_inj (b := 40) q (by omega) (by omega)))]
        show Option.bind (F_X5_goes (nI i) (mby s) v) _ = _
        rw [m0, Option.bind_some, z_add, if_pos (ainN rfl (show i < 8 by omega) (by decide)), nI_clamp (by omega)]
        show some (mi w 43 i, w) = _
        rw [(m1.2.2.2.2 i hi').2.2.2]
        show some (eC (if i = i then _ else _), w) = _
        rw [if_pos rfl, eC_n hto]
  · rw [if_neg hc, bd0]
    refine ⟨-4, u, u, rfl, ?_, h, g6⟩
    rw [mayMove5 g6 g1 hS hi' hs, if_neg hc]
    rfl
theorem ST_move (v1 v2 : Int32) (u : XM) (h : REL u) : PRI (F_X4_move v1 v2) (F_X5_move v1 v2) u := by
  have hh := h
  obtain ⟨-, -, -, -, P, s0, ds, n, g1, g2, g3, g4, g5, g6, g7, g8, g9⟩ := h
  have hT := g1.1
  unfold PRI F_X4_move F_X5_move
  rw [has4 g5 g1]
  by_cases hi : 0 ≤ v1.toInt ∧ v1.toInt < pT P
  · obtain ⟨i, hi', rfl⟩ := i_nat (n := pT P) hi (by omega)
    have b1 : ∀ w, curM w P (sq P s0 ds n) → F_X5_isThing (nI i) w = some (1, w) := fun w hw => by rw [isThing5 hw g1, if_pos hi]
    rw [if_pos hi, bd1]
    by_cases e1 : v2 = 1
    · obtain ⟨r, u1, u2, k1, k2, k3, k4⟩ := move_s hh g1 g2 g3 g4 g5 g6 g7 g8 g9 hi' (s := 1) (by decide)
      refine ⟨r, u1, u2, ?_, ?_, k3⟩
      · rw [if_pos e1, e1]; exact k1
      · rw [b1 u1 k4, bd1, if_pos e1, e1]; exact k2
    · by_cases e2 : v2 = -1
      · obtain ⟨r, u1, u2, k1, k2, k3, k4⟩ := move_s hh g1 g2 g3 g4 g5 g6 g7 g8 g9 hi' (s := 0) (by decide)
        refine ⟨r, u1, u2, ?_, ?_, k3⟩
        · rw [if_neg e1, if_pos e2, e2]; exact k1
        · rw [b1 u1 k4, bd1, if_neg e1, if_pos e2, e2]; exact k2
      · refine ⟨-1, u, u, ?_, ?_, hh⟩
        · rw [if_neg e1, if_neg e2]
        · rw [b1 u g6, bd1, if_neg e1, if_neg e2]
  · refine ⟨-1, u, u, ?_, ?_, hh⟩
    · rw [if_neg hi]; rfl
    · rw [isThing5 g6 g1, if_neg hi]; rfl
