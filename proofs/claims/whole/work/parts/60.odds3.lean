theorem e_6 : (6 : Int32).toInt = 6 := by decide
theorem e_12 : (12 : Int32).toInt = 12 := by decide
theorem isChance4 {u : XM} {P : CP} {S : PS} (hC : curC u P S) (hP : okP P) (v1 v2 v3 : Int32) : F_X4_isChance v1 v2 v3 u = some (if (0 ≤ v1.toInt ∧ v1.toInt < pT P) ∧ (0 ≤ v2.toInt ∧ v2.toInt < 7) ∧ (0 ≤ v3.toInt ∧ v3.toInt < 13) then 1 else 0, u) := by
  unfold F_X4_isChance
  rw [has4 hC hP]
  by_cases hi : 0 ≤ v1.toInt ∧ v1.toInt < pT P
  · rw [if_pos hi, bd1]
    show (if v2 < 0 then some (0, u) else (if 6 < v2 then some (0, u) else (if v3 < 0 then some (0, u) else (if 12 < v3 then some (0, u) else some (1, u))))) = _
    simp only [i_lt, e_0, e_6, e_12]
    by_cases h1 : v2.toInt < 0
    · rw [if_pos h1, if_neg (by omega)]
    · rw [if_neg h1]
      by_cases h2 : 6 < v2.toInt
      · rw [if_pos h2, if_neg (by omega)]
      · rw [if_neg h2]
        by_cases h3 : v3.toInt < 0
        · rw [if_pos h3, if_neg (by omega)]
        · rw [if_neg h3]
          by_cases h4 : 12 < v3.toInt
          · rw [if_pos h4, if_neg (by omega)]
          · rw [if_neg h4, if_pos (by omega)]
  · rw [if_neg hi, if_neg (fun z => hi z.1)]
    rfl
theorem in5_6 (v : Int32) (u : XM) : F_X5_in v.toInt64 0 6 u = some (if 0 ≤ v.toInt ∧ v.toInt < 7 then 1 else 0, u) := in5i v 0 6 u (lo := 0) (hi := 7) (by decide) (by decide)
theorem in5_12 (v : Int32) (u : XM) : F_X5_in v.toInt64 0 12 u = some (if 0 ≤ v.toInt ∧ v.toInt < 13 then 1 else 0, u) := in5i v 0 12 u (lo := 0) (hi := 13) (by decide) (by decide)
theorem odds5_bad {u : XM} {P : CP} {S : PS} (hM : curM u P S) (hP : okP P) (v1 v2 v3 v4 : Int32) (h : ¬ ((0 ≤ v2.toInt ∧ v2.toInt < 8) ∧ (0 ≤ v1.toInt ∧ v1.toInt < pT P) ∧ (0 ≤ v3.toInt ∧ v3.toInt < 7) ∧ (0 ≤ v4.toInt ∧ v4.toInt < 13))) : F_X5_odds v1 v2 v3 v4 u = some (-1, u) := by
  unfold F_X5_odds
  rw [isThing5 hM hP]
  by_cases c1 : 0 ≤ v1.toInt ∧ v1.toInt < pT P
  · rw [if_pos c1, bd1]
    show Option.bind (F_X5_isCell v2 u) _ = _
    rw [isCell5]
    by_cases c2 : 0 ≤ v2.toInt ∧ v2.toInt < 8
    · rw [if_pos c2, bd1]
      show Option.bind (F_X5_in (Int32.toInt64 v3) 0 6 u) _ = _
      rw [in5_6]
      by_cases c3 : 0 ≤ v3.toInt ∧ v3.toInt < 7
      · rw [if_pos c3, bd1]
        show Option.bind (F_X5_in (Int32.toInt64 v4) 0 12 u) _ = _
        rw [in5_12, if_neg (fun z => h ⟨c2, c1, c3, z⟩)]
        rfl
      · rw [if_neg c3]; rfl
    · rw [if_neg c2]; rfl
  · rw [if_neg c1]; rfl
theorem mid5_bad {u : XM} {P : CP} {S : PS} (hM : curM u P S) (hP : okP P) (v1 v3 v4 : Int32) (h : ¬ ((0 ≤ v1.toInt ∧ v1.toInt < pT P) ∧ (0 ≤ v3.toInt ∧ v3.toInt < 7) ∧ (0 ≤ v4.toInt ∧ v4.toInt < 13))) : F_X5_mid v1 v3 v4 u = some (-1, u) := by
  unfold F_X5_mid
  rw [isThing5 hM hP]
  by_cases c1 : 0 ≤ v1.toInt ∧ v1.toInt < pT P
  · rw [if_pos c1, bd1]
    show Option.bind (F_X5_in (Int32.toInt64 v3) 0 6 u) _ = _
    rw [in5_6]
    by_cases c3 : 0 ≤ v3.toInt ∧ v3.toInt < 7
    · rw [if_pos c3, bd1]
      show Option.bind (F_X5_in (Int32.toInt64 v4) 0 12 u) _ = _
      rw [in5_12, if_neg (fun z => h ⟨c1, c3, z⟩)]
      rfl
    · rw [if_neg c3]; rfl
  · rw [if_neg c1]; rfl
theorem ST_odds (v1 v2 v3 v4 : Int32) (u : XM) (h : REL u) : PRI (F_X4_odds v1 v2 v3 v4) (F_X5_odds v1 v2 v3 v4) u := by
  obtain ⟨P, S, hP, hS, hy, hC, hM⟩ := h.cur
  have hT := hP.1
  unfold PRI
  by_cases hb : (0 ≤ v2.toInt ∧ v2.toInt < 8) ∧ (0 ≤ v1.toInt ∧ v1.toInt < pT P) ∧ (0 ≤ v3.toInt ∧ v3.toInt < 7) ∧ (0 ≤ v4.toInt ∧ v4.toInt < 13)
  · obtain ⟨hc, hi, hn, hp⟩ := hb
    have b3 : ∀ w, F_X5_in (Int32.toInt64 v3) 0 6 w = some (1, w) := fun w => by rw [in5_6, if_pos hn]
    have b4 : ∀ w, F_X5_in (Int32.toInt64 v4) 0 12 w = some (1, w) := fun w => by rw [in5_12, if_pos hp]
    have b2 : ∀ w, F_X5_isCell v2 w = some (1, w) := fun w => by rw [isCell5, if_pos hc]
    have b1 : ∀ w, curM w P S → F_X5_isThing v1 w = some (1, w) := fun w hw => by rw [isThing5 hw hP, if_pos hi]
    have d2 : F_X4_isChance v1 v3 v4 u = some (1, u) := by rw [isChance4 hC hP, if_pos ⟨hi, hn, hp⟩]
    have d1 : F_X4_isCell v2 u = some (1, u) := by rw [isCell4, if_pos hc]
    obtain ⟨i, hi', rfl⟩ := i_nat (n := pT P) hi (by omega)
    obtain ⟨c, hc', rfl⟩ := i_nat (n := 8) hc (by decide)
    obtain ⟨n, hn', rfl⟩ := i_nat (n := 7) hn (by decide)
    obtain ⟨p, hp', rfl⟩ := i_nat (n := 13) hp (by decide)
    unfold F_X4_odds F_X5_odds
    rw [d1, bd1]
    show ∃ r u1 u2, Option.bind (F_X4_isChance (nI i) (nI n) (nI p) u) _ = _ ∧ _
    rw [d2, bd1]
    show ∃ r u1 u2, Option.bind (F_X0_isTaken (nI i) u) _ = _ ∧ _
    rw [isTaken4 hC hP hS hi']
    by_cases h8 : S.1 i = 8
    · refine ⟨-4, u, u, by rw [if_pos h8]; rfl, ?_, h⟩
      rw [b1 u hM, bd1, b2, bd1, b3, bd1, b4, bd1]
      show Option.bind (F_X5_isTaken (nI i) u) _ = _
      rw [isTaken5 hM hP hS hi', if_pos h8]
      rfl
    · have h7 : S.1 i ≤ 7 := by have := hS.1 i hi'; omega
      have hv : vfOK (nI c) (fun x => if x = c then 1 else 0) := Or.inr ⟨c, hc', rfl, fun _ => rfl⟩
      have w4 := weigh4 hC hP hS hy hi' h7 (show p ≤ 12 by omega) (show n ≤ 6 by omega) hv
      have w5 := fun w hw => weighed5 (u := w) (P := P) (S := S) hw hP hS hy hi' h7 (show p ≤ 12 by omega) (show n ≤ 6 by omega) hv
      obtain ⟨a, b, w4, w5⟩ : ∃ a b : Int64, _ = some ((1 : Int32), wl (wl u 0 13 a) 0 14 b) ∧ ∀ w, curM w P S → F_X5_weighed (nI i) (nI c) (nI n) (nI p) w = some (1, wl (wl w 35 15 a) 35 16 b) := ⟨_, _, w4, w5⟩
      refine ⟨1, wl (wl u 0 13 a) 0 14 b, wl (wl (wl (wl u 0 13 a) 0 14 b) 35 15 a) 35 16 b, ?_, ?_, REL_ratio h a b⟩
      · rw [if_neg h8, bd0]
        exact w4
      · have hM1 : curM (wl (wl u 0 13 a) 0 14 b) P S := hM
        rw [b1 _ hM1, bd1, b2, bd1, b3, bd1, b4, bd1]
        show Option.bind (F_X5_isTaken (nI i) (wl (wl u 0 13 a) 0 14 b)) _ = _
        rw [isTaken5 hM1 hP hS hi', if_neg h8, bd0]
        show Option.bind (F_X5_weighed (nI i) (nI c) (nI n) (nI p) (wl (wl u 0 13 a) 0 14 b)) _ = _
        rw [w5 _ hM1, Option.bind_some]
  · refine ⟨-1, u, u, ?_, odds5_bad hM hP v1 v2 v3 v4 hb, h⟩
    unfold F_X4_odds
    rw [isCell4]
    by_cases hc : 0 ≤ v2.toInt ∧ v2.toInt < 8
    · rw [if_pos hc, bd1]
      show Option.bind (F_X4_isChance v1 v3 v4 u) _ = _
      rw [isChance4 hC hP, if_neg (fun z => hb ⟨hc, z⟩)]
      rfl
    · rw [if_neg hc]; rfl
theorem ST_mid (v1 v3 v4 : Int32) (u : XM) (h : REL u) : PRI (F_X4_mid v1 v3 v4) (F_X5_mid v1 v3 v4) u := by
  obtain ⟨P, S, hP, hS, hy, hC, hM⟩ := h.cur
  have hT := hP.1
  unfold PRI
  by_cases hb : (0 ≤ v1.toInt ∧ v1.toInt < pT P) ∧ (0 ≤ v3.toInt ∧ v3.toInt < 7) ∧ (0 ≤ v4.toInt ∧ v4.toInt < 13)
  · obtain ⟨hi, hn, hp⟩ := hb
    have b3 : ∀ w, F_X5_in (Int32.toInt64 v3) 0 6 w = some (1, w) := fun w => by rw [in5_6, if_pos hn]
    have b4 : ∀ w, F_X5_in (Int32.toInt64 v4) 0 12 w = some (1, w) := fun w => by rw [in5_12, if_pos hp]
    have b1 : ∀ w, curM w P S → F_X5_isThing v1 w = some (1, w) := fun w hw => by rw [isThing5 hw hP, if_pos hi]
    have d2 : F_X4_isChance v1 v3 v4 u = some (1, u) := by rw [isChance4 hC hP, if_pos ⟨hi, hn, hp⟩]
    obtain ⟨i, hi', rfl⟩ := i_nat (n := pT P) hi (by omega)
    obtain ⟨n, hn', rfl⟩ := i_nat (n := 7) hn (by decide)
    obtain ⟨p, hp', rfl⟩ := i_nat (n := 13) hp (by decide)
    unfold F_X4_mid F_X5_mid
    rw [d2, bd1]
    show ∃ r u1 u2, Option.bind (F_X0_isTaken (nI i) u) _ = _ ∧ _
    rw [isTaken4 hC hP hS hi']
    by_cases h8 : S.1 i = 8
    · refine ⟨-4, u, u, by rw [if_pos h8]; rfl, ?_, h⟩
      rw [b1 u hM, bd1, b3, bd1, b4, bd1]
      show Option.bind (F_X5_isTaken (nI i) u) _ = _
      rw [isTaken5 hM hP hS hi', if_pos h8]
      rfl
    · have h7 : S.1 i ≤ 7 := by have := hS.1 i hi'; omega
      have hv : vfOK (-9) (fun x => x) := Or.inl ⟨rfl, fun _ => rfl⟩
      have w4 := weigh4 hC hP hS hy hi' h7 (show p ≤ 12 by omega) (show n ≤ 6 by omega) hv
      have w5 := fun w hw => weighed5 (u := w) (P := P) (S := S) hw hP hS hy hi' h7 (show p ≤ 12 by omega) (show n ≤ 6 by omega) hv
      obtain ⟨a, b, w4, w5⟩ : ∃ a b : Int64, _ = some ((1 : Int32), wl (wl u 0 13 a) 0 14 b) ∧ ∀ w, curM w P S → F_X5_weighed (nI i) (-9) (nI n) (nI p) w = some (1, wl (wl w 35 15 a) 35 16 b) := ⟨_, _, w4, w5⟩
      refine ⟨1, wl (wl u 0 13 a) 0 14 b, wl (wl (wl (wl u 0 13 a) 0 14 b) 35 15 a) 35 16 b, ?_, ?_, REL_ratio h a b⟩
      · rw [if_neg h8, bd0]
        exact w4
      · have hM1 : curM (wl (wl u 0 13 a) 0 14 b) P S := hM
        rw [b1 _ hM1, bd1, b3, bd1, b4, bd1]
        show Option.bind (F_X5_isTaken (nI i) (wl (wl u 0 13 a) 0 14 b)) _ = _
        rw [isTaken5 hM1 hP hS hi', if_neg h8, bd0]
        show Option.bind (F_X5_weighed (nI i) (-9) (nI n) (nI p) (wl (wl u 0 13 a) 0 14 b)) _ = _
        rw [w5 _ hM1, Option.bind_some]
  · refine ⟨-1, u, u, ?_, mid5_bad hM hP v1 v3 v4 hb, h⟩
    unfold F_X4_mid
    rw [isChance4 hC hP, if_neg hb]
    rfl
