theorem yearGoes_l {P : CP} {S : PS} (hP : okP P) (hS : okS P S) (hy : S.2.2 ≤ 40) : ∀ (m i : Nat) (u : XM), i + m = pT P → curM u P (mix P S i) → ∀ fuel, m < fuel → ∃ v, F_X5_yearGoes_6 fuel (nI i) u = some ((), v) ∧ curM v P (actN P 0 0 S) ∧ frM u v
  | 0, i, u, hi, hM0, fuel + 1, _ => by
    have hT := hP.1
    unfold F_X5_yearGoes_6
    rw [hM0.1, if_pos (nI_le (by omega) (by omega)), if_pos (by decide), if_pos (by decide), show Int32.toNatClampNeg 7 = 7 from by decide, hM0.2.2.2.1]
    refine ⟨_, rfl, ?_, frM.w u 7 _⟩
    obtain ⟨a1, a2, a3, a4, a5⟩ := hM0
    refine ⟨a1, a2, a3, ?_, fun j hj => ?_⟩
    · show mi (wi u 43 7 (nI S.2.2 + 1)) 43 7 = nI (S.2.2 + 1)
      rw [mi_wi, if_pos ⟨rfl, rfl⟩, nI_1]
    · obtain ⟨b1, b2, b3, b4⟩ := a5 j hj
      refine ⟨b1, b2, b3, ?_⟩
      rw [mi_wi, if_neg (by omega)]
      refine b4.trans ?_
      show eC (if j < i then _ else S.1 j) = eC _
      rw [if_pos (by omega)]
      rfl
  | m + 1, i, u, hi, hM0, fuel + 1, hf => by
    have hT := hP.1
    have hX := mix_ok (P := P) hS i
    have hi' : i < pT P := by omega
    have e1 := isTaken5 hM0 hP hX hi'
    rw [mix_i] at e1
    obtain ⟨c1, c2, c3, c4⟩ := hM0.2.2.2.2 i hi'
    rw [mix_i] at c4
    have hs := hS.1 i hi'
    unfold F_X5_yearGoes_6
    rw [hM0.1, if_neg (nI_ge (by omega) (by omega)), e1, Option.bind_some]
    by_cases h8 : S.1 i = 8
    · rw [if_pos h8, if_neg ne10]
      show ∃ v, F_X5_yearGoes_44 (F_X5_yearGoes_6 fuel) (nI i) u = some ((), v) ∧ _ ∧ _
      unfold F_X5_yearGoes_44
      rw [nI_1]
      refine yearGoes_l hP hS hy m (i + 1) u (by omega) (hM0.congr (fun j hj => ?_) rfl) fuel (by omega)
      show (if j < i + 1 then _ else S.1 j) = (if j < i then _ else S.1 j)
      by_cases hj2 : j = i
      · subst hj2
        rw [if_pos (Nat.lt_succ_self j), if_pos h8, if_neg (Nat.lt_irrefl _), h8]
      · by_cases hj3 : j < i
        · rw [if_pos (by omega), if_pos hj3]
        · rw [if_neg (by omega), if_neg hj3]
    · rw [if_neg h8, if_pos rfl, z_add, if_pos (ainN rfl (show i < 8 by omega) (by decide)), nI_clamp (by omega)]
      have e2 := afterOf5 hM0 hP hX hy hi' (n := 1) (c := S.1 i) (by omega) (by omega)
      show ∃ v, (Option.bind (F_X5_afterOf (nI i) (mi u 43 i) 1 u) _) = some ((), v) ∧ _ ∧ _
      rw [c4, eC_n (by omega), show (1 : Int32) = nI 1 from rfl, e2, Option.bind_some, if_pos (ainN rfl (show i < 8 by omega) (by decide))]
      show ∃ v, F_X5_yearGoes_44 (F_X5_yearGoes_6 fuel) (nI i) (wi u 43 i (nI (inY P (mix P S i) i 1 (S.1 i)))) = some ((), v) ∧ _ ∧ _
      have e3 : inY P (mix P S i) i 1 (S.1 i) = nx S.2.1 (pF P) (pK P i) (pW P i) S.2.2 (S.1 i) := rfl
      have hle : nx S.2.1 (pF P) (pK P i) (pW P i) S.2.2 (S.1 i) ≤ 7 := nx_le (by omega)
      unfold F_X5_yearGoes_44
      rw [nI_1, e3, ← eC_n hle]
      obtain ⟨v, g1, g2, g3⟩ := yearGoes_l hP hS hy m (i + 1) _ (by omega) ((hM0.set hP (c := nx S.2.1 (pF P) (pK P i) (pW P i) S.2.2 (S.1 i)) hi').congr (fun j hj => by
        show (if j < i + 1 then _ else S.1 j) = (if j = i then _ else (if j < i then _ else S.1 j))
        by_cases hj2 : j = i
        · subst hj2
          rw [if_pos (by omega), if_pos rfl, if_neg h8]
        · rw [if_neg hj2]
          by_cases hj3 : j < i
          · rw [if_pos (by omega), if_pos hj3]
          · rw [if_neg (by omega), if_neg hj3]) rfl) fuel (by omega)
      exact ⟨v, g1, g2, (frM.w u i _).tr g3⟩
theorem turned5 (u : XM) {lv f : Nat} (h : lv ≤ 9) (hf : f ≤ 1) : F_X5_turned (nI lv) (nI f) u = some (nI (if f = 0 then lv - 2 else min 9 (lv + 3)), u) := by
  have h2 : ∀ l, l < 10 → nI l - 2 ≤ 9 ∧ (if (0 : Int32) ≤ nI l - 2 then nI l - 2 else 0) = nI (l - 2) := by decide +kernel
  have h3 : ∀ l, l < 10 → (0 : Int32) ≤ nI l + 3 ∧ (if nI l + 3 ≤ (9 : Int32) then nI l + 3 else 9) = nI (min 9 (l + 3)) := by decide +kernel
  have hf2 : f = 0 ∨ f = 1 := by omega
  unfold F_X5_turned F_X5_turned_13
  rcases hf2 with rfl | rfl
  · rw [if_pos (show nI 0 = 0 from rfl), if_pos (h2 lv (by omega)).1, if_pos rfl, ← (h2 lv (by omega)).2]
    split <;> rfl
  · rw [if_neg (show ¬ nI 1 = 0 by decide), if_neg (show ¬ (1 : Nat) = 0 by decide), ← (h3 lv (by omega)).2]
    rw [if_pos (h3 lv (by omega)).1]
    split <;> rfl
theorem curM.lev {u : XM} {P : CP} {S : PS} (hP : okP P) (h : curM u P S) (l : Nat) : curM (wi u 43 6 (nI l)) P (S.1, l, S.2.2) := ⟨h.1, h.2.1, rfl, h.2.2.2.1, fun i hi => by
  have hT := hP.1
  obtain ⟨g1, g2, g3, g4⟩ := h.2.2.2.2 i hi
  exact ⟨g1, g2, g3, by rw [mi_wi, if_neg (by omega)]; exact g4⟩⟩
theorem year5 {u : XM} {P : CP} {s0 : PS} {ds : Nat → Nat} {n : Nat} (hP : okP P) (hS : okS P (sq P s0 ds n)) (hy : (sq P s0 ds n).2.2 ≤ 40) (hM : curM u P (sq P s0 ds n)) (hH : hisM u P s0 ds n) (hn : n < 40) (c : Nat) : ∃ w, F_X5_yearGoes u = some ((), w) ∧ curM w P (actN P 0 0 (sq P s0 ds n)) ∧ hisM w P s0 (ds1 ds n c) (n + 1) ∧ frM2 u w := by
  have hT := hP.1
  obtain ⟨w, e1, e2, e3⟩ := yearGoes_l hP hS hy (pT P) 0 (rem5 u n) (by omega) ((rem5_cur (n := n) hM).congr (fun j _ => mix_0 j) rfl) FU (by show pT P < 1000; omega)
  refine ⟨w, ?_, e2, (rem5_his hP hM hH).fr e3, (rem5_fr u n).tr e3⟩
  unfold F_X5_yearGoes
  rw [remember5 hH.1 hn, Option.bind_some, show (0 : Int32) = nI 0 from rfl]
  exact e1
theorem turns5 {u : XM} {P : CP} {s0 : PS} {ds : Nat → Nat} {n : Nat} (hP : okP P) (hS : okS P (sq P s0 ds n)) (hM : curM u P (sq P s0 ds n)) (hH : hisM u P s0 ds n) (hn : n < 40) (c i : Nat) {f : Nat} (hf : f ≤ 1) : ∃ w, F_X5_turns (nI f) u = some ((), w) ∧ curM w P (actN P (1 + f) i (sq P s0 ds n)) ∧ hisM w P s0 (ds1 ds n c) (n + 1) ∧ frM2 u w := by
  have hl := hS.2
  have hM2 := rem5_cur (n := n) hM
  refine ⟨wi (rem5 u n) 43 6 (nI (if f = 0 then (sq P s0 ds n).2.1 - 2 else min 9 ((sq P s0 ds n).2.1 + 3))), ?_, ?_, (rem5_his hP hM hH).fr (frM.w _ 6 _), (rem5_fr u n).tr (frM.w _ 6 _)⟩
  · unfold F_X5_turns
    rw [remember5 hH.1 hn, Option.bind_some, if_pos (by decide), show Int32.toNatClampNeg 6 = 6 from by decide]
    show Option.bind (F_X5_turned (mi (rem5 u n) 43 6) (nI f) (rem5 u n)) _ = _
    rw [hM2.2.2.1, turned5 _ hl hf, Option.bind_some, if_pos (by decide)]
  · have hf2 : f = 0 ∨ f = 1 := by omega
    rcases hf2 with rfl | rfl
    · exact hM2.lev hP _
    · exact hM2.lev hP _
theorem goes5 {u : XM} {P : CP} {s0 : PS} {ds : Nat → Nat} {n : Nat} (hP : okP P) (hM : curM u P (sq P s0 ds n)) (hH : hisM u P s0 ds n) (hn : n < 40) (c : Nat) {i x : Nat} (hi : i < pT P) (hx : (sq P s0 ds n).1 i ≤ 7) (hx2 : x ≤ 7) {by_ : Int32} (hb : nI ((sq P s0 ds n).1 i) + by_ = nI x) : ∃ w, F_X5_goes (nI i) by_ u = some ((), w) ∧ curM w P (fun j => if j = i then x else (sq P s0 ds n).1 j, (sq P s0 ds n).2.1, (sq P s0 ds n).2.2) ∧ hisM w P s0 (ds1 ds n c) (n + 1) ∧ frM2 u w := by
  have hT := hP.1
  have hM2 := rem5_cur (n := n) hM
  refine ⟨wi (rem5 u n) 43 i (eC x), ?_, hM2.set hP hi, (rem5_his hP hM hH).fr (frM.w _ i _), (rem5_fr u n).tr (frM.w _ i _)⟩
  unfold F_X5_goes
  rw [remember5 hH.1 hn, Option.bind_some, z_add, if_pos (ainN rfl (show i < 8 by omega) (by decide)), if_pos (ainN rfl (show i < 8 by omega) (by decide)), nI_clamp (by omega)]
  show some ((), wi (rem5 u n) 43 i (mi (rem5 u n) 43 i + by_)) = _
  rw [(hM2.2.2.2.2 i hi).2.2.2, eC_n hx, hb, eC_n hx2]
theorem home5 {u : XM} {P : CP} {s0 : PS} {ds : Nat → Nat} {n : Nat} (hP : okP P) (hM : curM u P (sq P s0 ds n)) (hH : hisM u P s0 ds n) (hn : n < 40) (c : Nat) {i : Nat} (hi : i < pT P) : ∃ w, F_X5_takesHome (nI i) u = some ((), w) ∧ curM w P (fun j => if j = i then 8 else (sq P s0 ds n).1 j, (sq P s0 ds n).2.1, (sq P s0 ds n).2.2) ∧ hisM w P s0 (ds1 ds n c) (n + 1) ∧ frM2 u w := by
  have hT := hP.1
  have hM2 := rem5_cur (n := n) hM
  refine ⟨wi (rem5 u n) 43 i (eC 8), ?_, hM2.set hP hi, (rem5_his hP hM hH).fr (frM.w _ i _), (rem5_fr u n).tr (frM.w _ i _)⟩
  unfold F_X5_takesHome
  rw [remember5 hH.1 hn, Option.bind_some, z_add, if_pos (ainN rfl (show i < 8 by omega) (by decide)), nI_clamp (by omega)]
  rfl
/-- what a deed of the class leaves of the reference's side -/
theorem curM.frC2 {u v : XM} {P : CP} {S : PS} (h : curM u P S) (g : frC2 u v) : curM v P S := by
  unfold curM
  rw [g.1 35 (by decide) (by decide) (by decide), g.1 43 (by decide) (by decide) (by decide), g.1 40 (by decide) (by decide) (by decide), g.1 41 (by decide) (by decide) (by decide), g.1 42 (by decide) (by decide) (by decide)]
  exact h
theorem hisM.frC2 {u v : XM} {P : CP} {s0 : PS} {ds : Nat → Nat} {n : Nat} (h : hisM u P s0 ds n) (g : frC2 u v) : hisM v P s0 ds n := by
  unfold hisM snap
  rw [g.1 35 (by decide) (by decide) (by decide), g.1 44 (by decide) (by decide) (by decide)]
  exact h
theorem refuses5 {u : XM} {P : CP} {S : PS} {n : Nat} (hM : curM u P S) (hP : okP P) (hn : mi u 35 10 = nI n) (h40 : n ≤ 40) : F_X5_refuses u = some (if pT P = 0 then -4 else if n = 40 then -2 else 0, u) := by
  have hT := hP.1
  unfold F_X5_refuses
  rw [hM.1, hn]
  by_cases h0 : pT P = 0
  · rw [h0]; rfl
  · rw [if_neg (nI_ne0 (by omega) (by omega)), if_neg h0]
    by_cases h4 : n = 40
    · rw [h4]; rfl
    · rw [if_neg (show ¬ nI n = 40 from fun q => h4 (n_inj (b := 40) q (by omega) (by omega))), if_neg h4]
theorem ST_year (u : XM) (h : REL u) : PRI F_X4_year F_X5_year u := by
  have hh := h
  obtain ⟨h1, h2, h3, h4, P, s0, ds, n, g1, g2, g3, g4, g5, g6, g7, g8, g9⟩ := h
  have hT := g1.1
  have hS := sq_ok g2 g4 n (Nat.le_refl _)
  have hy : (sq P s0 ds n).2.2 ≤ 40 := Nat.le_trans (sq_year g3 n) g4.1
  unfold PRI F_X4_year F_X5_year
  rw [g5.1]
  by_cases h0 : pT P = 0
  · refine ⟨-4, u, u, by rw [h0]; rfl, ?_, hh⟩
    rw [refuses5 g6 g1 g8.1 g4.1, if_pos h0]
    rfl
  · rw [if_neg (nI_ne0 (by omega) (by omega)), g7.2.2.1]
    by_cases h40 : n = 40
    · refine ⟨-2, u, u, by rw [h40]; rfl, ?_, hh⟩
      rw [refuses5 g6 g1 g8.1 g4.1, if_neg h0, if_pos h40]
      rfl
    · have hn : n < 40 := by have := g4.1; omega
      have hD : okD P (sq P s0 ds n) 0 0 := ⟨by omega, by omega, by omega, by omega, by omega⟩
      rw [if_pos (show nI n < (40 : Int32) from nI_lt (b := 40) hn (by decide))]
      obtain ⟨v, c0, c1, c2, c3⟩ := perform4 g1 hS hy g5 g7 hn hD
      obtain ⟨w, m0, m1, m2, m3⟩ := year5 g1 hS hy (g6.frC2 c3) (g8.frC2 c3) hn (8 * 0 + 0)
      refine ⟨nI ((sq P s0 ds n).2.2 + 1), v, w, ?_, ?_, REL_deed h1 h2 h3 h4 g1 g2 g3 g4 g9 hn hD c1 c2 c3 m1 m2 m3⟩
      · rw [show (0 : Int32) = nI 0 from rfl, c0, Option.bind_some]
        show some (mi v 22 10, v) = _
        rw [c1.2.2.2.1]
        rfl
      · rw [refuses5 (g6.frC2 c3) g1 (g8.frC2 c3).1 g4.1, if_neg h0, if_neg h40]
        show Option.bind (F_X5_yearGoes v) _ = _
        rw [m0, Option.bind_some, if_pos (by decide), show Int32.toNatClampNeg 7 = 7 from by decide]
        show some (mi w 43 7, w) = _
        rw [m1.2.2.2.1]
        rfl
