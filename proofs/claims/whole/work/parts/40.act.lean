/-! ===== deeds: what changes ===== -/
def frC (u v : XM) : Prop := (∀ a, a ≠ 22 → a ≠ 25 → mi v a = mi u a) ∧ (∀ b, b ≠ 9 → b ≠ 10 → mi v 22 b = mi u 22 b) ∧ ml v = ml u
def frM (u v : XM) : Prop := (∀ a, a ≠ 43 → mi v a = mi u a) ∧ ml v = ml u
theorem frC.tr {u v w : XM} (h : frC u v) (g : frC v w) : frC u w := ⟨fun a h1 h2 => (g.1 a h1 h2).trans (h.1 a h1 h2), fun b h1 h2 => (g.2.1 b h1 h2).trans (h.2.1 b h1 h2), g.2.2.trans h.2.2⟩
theorem frM.tr {u v w : XM} (h : frM u v) (g : frM v w) : frM u w := ⟨fun a h1 => (g.1 a h1).trans (h.1 a h1), g.2.trans h.2⟩
theorem frC.w25 (u : XM) (j : Nat) (x : Int32) : frC u (wi u 25 j x) := ⟨fun a _ h => xmi_ne h, fun b _ _ => rfl, rfl⟩
theorem frC.w9 (u : XM) (x : Int32) : frC u (wi u 22 9 x) := ⟨fun a h _ => xmi_ne h, fun b h _ => by rw [mi_wi, if_neg (by omega)], rfl⟩
theorem frC.w10 (u : XM) (x : Int32) : frC u (wi u 22 10 x) := ⟨fun a h _ => xmi_ne h, fun b _ h => by rw [mi_wi, if_neg (by omega)], rfl⟩
theorem frM.w (u : XM) (j : Nat) (x : Int32) : frM u (wi u 43 j x) := ⟨fun a h => xmi_ne h, rfl⟩
theorem curC.set {u : XM} {P : CP} {S : PS} (h : curC u P S) {i c : Nat} (hi : i < pT P) : curC (wi u 25 i (eC c)) P (fun j => if j = i then c else S.1 j, S.2.1, S.2.2) := by
  obtain ⟨h1, h2, h3, h4, h5⟩ := h
  refine ⟨h1, h2, h3, h4, fun j hj => ?_⟩
  obtain ⟨g1, g2, g3, g4⟩ := h5 j hj
  refine ⟨g1, g2, g3, ?_⟩
  show mi (wi u 25 i (eC c)) 25 j = eC (if j = i then c else S.1 j)
  rw [mi_wi]
  by_cases hji : j = i
  · rw [if_pos ⟨rfl, hji⟩, if_pos hji]
  · rw [if_neg (fun q => hji q.2), if_neg hji]; exact g4
theorem curM.set {u : XM} {P : CP} {S : PS} (hP : okP P) (h : curM u P S) {i c : Nat} (hi : i < pT P) : curM (wi u 43 i (eC c)) P (fun j => if j = i then c else S.1 j, S.2.1, S.2.2) := by
  have hT := hP.1
  obtain ⟨h1, h2, h3, h4, h5⟩ := h
  refine ⟨h1, h2, by rw [mi_wi, if_neg (by omega)]; exact h3, by rw [mi_wi, if_neg (by omega)]; exact h4, fun j hj => ?_⟩
  obtain ⟨g1, g2, g3, g4⟩ := h5 j hj
  refine ⟨g1, g2, g3, ?_⟩
  show mi (wi u 43 i (eC c)) 43 j = eC (if j = i then c else S.1 j)
  rw [mi_wi]
  by_cases hji : j = i
  · rw [if_pos ⟨rfl, hji⟩, if_pos hji]
  · rw [if_neg (fun q => hji q.2), if_neg hji]; exact g4
theorem curC.congr {u : XM} {P : CP} {S S' : PS} (h : curC u P S) (h1 : ∀ i, i < pT P → S'.1 i = S.1 i) (h2 : S'.2 = S.2) : curC u P S' := by
  obtain ⟨a1, a2, a3, a4, a5⟩ := h
  refine ⟨a1, a2, by rw [h2]; exact a3, by rw [h2]; exact a4, fun i hi => ?_⟩
  rw [h1 i hi]; exact a5 i hi
theorem curM.congr {u : XM} {P : CP} {S S' : PS} (h : curM u P S) (h1 : ∀ i, i < pT P → S'.1 i = S.1 i) (h2 : S'.2 = S.2) : curM u P S' := by
  obtain ⟨a1, a2, a3, a4, a5⟩ := h
  refine ⟨a1, a2, by rw [h2]; exact a3, by rw [h2]; exact a4, fun i hi => ?_⟩
  rw [h1 i hi]; exact a5 i hi
/-- within a year: those below i have drifted -/
def mix (P : CP) (S : PS) (i : Nat) : PS := (fun j => if j < i then (if S.1 j = 8 then 8 else nx S.2.1 (pF P) (pK P j) (pW P j) S.2.2 (S.1 j)) else S.1 j, S.2.1, S.2.2)
theorem mix_ok {P : CP} {S : PS} (hS : okS P S) (i : Nat) : okS P (mix P S i) := ⟨fun j hj => by
  have := hS.1 j hj
  show (if j < i then _ else S.1 j) ≤ 8
  split
  · split
    · omega
    · exact Nat.le_succ_of_le (nx_le (by omega))
  · exact this, hS.2⟩
theorem mix_i {P : CP} {S : PS} {i : Nat} : (mix P S i).1 i = S.1 i := by
  show (if i < i then _ else S.1 i) = _
  rw [if_neg (Nat.lt_irrefl _)]
theorem mix_0 {P : CP} {S : PS} (j : Nat) : (mix P S 0).1 j = S.1 j := by
  simp [mix]
theorem passYear_l {P : CP} {S : PS} (hP : okP P) (hS : okS P S) (hy : S.2.2 ≤ 40) : ∀ (m i : Nat) (u : XM), i + m = pT P → curC u P (mix P S i) → ∀ fuel, m < fuel → ∃ v, F_X0_passYear_2 fuel (nI i) u = some ((), v) ∧ curC v P (actN P 0 0 S) ∧ frC u v
  | 0, i, u, hi, hC, fuel + 1, _ => by
    have hT := hP.1
    unfold F_X0_passYear_2
    rw [hC.1, if_pos (nI_le (by omega) (by omega)), hC.2.2.2.1]
    refine ⟨_, rfl, ?_, frC.w10 u _⟩
    obtain ⟨a1, a2, a3, a4, a5⟩ := hC
    refine ⟨a1, a2, a3, ?_, fun j hj => ?_⟩
    · show mi (wi u 22 10 (nI S.2.2 + 1)) 22 10 = nI (S.2.2 + 1)
      rw [mi_wi, if_pos ⟨rfl, rfl⟩, nI_1]
    · obtain ⟨b1, b2, b3, b4⟩ := a5 j hj
      refine ⟨b1, b2, b3, b4.trans ?_⟩
      show eC (if j < i then _ else S.1 j) = eC _
      rw [if_pos (by omega)]
      rfl
  | m + 1, i, u, hi, hC, fuel + 1, hf => by
    have hT := hP.1
    have hM := mix_ok (P := P) hS i
    have hi' : i < pT P := by omega
    have e1 := isTaken4 hC hP hM hi'
    rw [mix_i] at e1
    obtain ⟨c1, c2, c3, c4⟩ := hC.2.2.2.2 i hi'
    rw [mix_i] at c4
    have hs := hS.1 i hi'
    unfold F_X0_passYear_2
    rw [hC.1, if_neg (nI_ge (by omega) (by omega)), e1, Option.bind_some]
    by_cases h8 : S.1 i = 8
    · rw [if_pos h8, if_neg ne10]
      show ∃ v, F_X0_passYear_50 (F_X0_passYear_2 fuel) (nI i) u = some ((), v) ∧ _ ∧ _
      unfold F_X0_passYear_50
      rw [nI_1]
      refine passYear_l hP hS hy m (i + 1) u (by omega) (hC.congr (fun j hj => ?_) rfl) fuel (by omega)
      show (if j < i + 1 then _ else S.1 j) = (if j < i then _ else S.1 j)
      by_cases hj2 : j = i
      · subst hj2
        rw [if_pos (Nat.lt_succ_self j), if_pos h8, if_neg (Nat.lt_irrefl _), h8]
      · by_cases hj3 : j < i
        · rw [if_pos (by omega), if_pos hj3]
        · rw [if_neg (by omega), if_neg hj3]
    · rw [if_neg h8, if_pos rfl, if_pos (ainN rfl (show i < 6 by omega) (by decide)), if_pos (ainN rfl (show i < 6 by omega) (by decide)), if_pos (ainN rfl (show i < 6 by omega) (by decide)), nI_clamp (by omega)]
      obtain ⟨o1, o2, o3⟩ := hP.2.2 i hi'
      have e2 := step4 hC hP hM (k := pK P i) (w := pW P i) (y := S.2.2) (c := S.1 i) o1 o2 (by omega) (by omega)
      show ∃ v, (Option.bind (F_X0_step (mi u 23 i) (mi u 26 i) (mi u 25 i) (mi u 22 10) u) _) = some ((), v) ∧ _ ∧ _
      rw [c1, c2, c4, eC_n (by omega), show mi u 22 10 = nI S.2.2 from hC.2.2.2.1, e2, Option.bind_some, if_pos (ainN rfl (show i < 6 by omega) (by decide))]
      show ∃ v, F_X0_passYear_50 (F_X0_passYear_2 fuel) (nI i) (wi u 25 i (nI (nx S.2.1 (pF P) (pK P i) (pW P i) S.2.2 (S.1 i)))) = some ((), v) ∧ _ ∧ _
      have hle : nx S.2.1 (pF P) (pK P i) (pW P i) S.2.2 (S.1 i) ≤ 7 := nx_le (by omega)
      unfold F_X0_passYear_50
      rw [nI_1, ← eC_n hle]
      obtain ⟨v, g1, g2, g3⟩ := passYear_l hP hS hy m (i + 1) _ (by omega) ((hC.set (c := nx S.2.1 (pF P) (pK P i) (pW P i) S.2.2 (S.1 i)) hi').congr (fun j hj => by
        show (if j < i + 1 then _ else S.1 j) = (if j = i then _ else (if j < i then _ else S.1 j))
        by_cases hj2 : j = i
        · subst hj2
          rw [if_pos (by omega), if_pos rfl, if_neg h8]
        · rw [if_neg hj2]
          by_cases hj3 : j < i
          · rw [if_pos (by omega), if_pos hj3]
          · rw [if_neg (by omega), if_neg hj3]) rfl) fuel (by omega)
      exact ⟨v, g1, g2, (frC.w25 u i _).tr g3⟩
theorem drawn4 (u : XM) {lv : Nat} (h : lv ≤ 9) : F_X2_drawn (nI lv) u = some (nI (lv - 2), u) := by
  unfold F_X2_drawn
  rw [max4, Option.bind_some]
  have : ∀ l, l < 10 → (if (0 : Int32) < nI l - 2 then nI l - 2 else 0) = nI (l - 2) := by decide +kernel
  rw [this lv (by omega)]
theorem filled4 (u : XM) {lv : Nat} (h : lv ≤ 9) : F_X2_filled (nI lv) u = some (nI (min 9 (lv + 3)), u) := by
  unfold F_X2_filled
  rw [min4, Option.bind_some]
  have : ∀ l, l < 10 → (if nI l + 3 < (9 : Int32) then nI l + 3 else 9) = nI (min 9 (l + 3)) := by decide +kernel
  rw [this lv (by omega)]
theorem curC.lev {u : XM} {P : CP} {S : PS} (h : curC u P S) (l : Nat) : curC (wi u 22 9 (nI l)) P (S.1, l, S.2.2) := ⟨h.1, h.2.1, rfl, h.2.2.2.1, h.2.2.2.2⟩
theorem act4 {u : XM} {P : CP} {S : PS} (hC : curC u P S) (hP : okP P) (hS : okS P S) (hy : S.2.2 ≤ 40) {d i : Nat} (hD : okD P S d i) : ∃ v, F_X0_act (nI d) (nI i) u = some ((), v) ∧ curC v P (actN P d i S) ∧ frC u v := by
  have hT := hP.1
  obtain ⟨g1, g2, g3, g4, g5⟩ := hD
  have hl := hS.2
  obtain ⟨c1, c2, c3, c4⟩ := hC.2.2.2.2 i g2
  have hi6 : ain YY 0 25 (nI i) = true := ainN rfl (show i < 6 by omega) (by decide)
  have hb : 0 ≤ (nI i).toInt ∧ (nI i).toInt < pT P := by rw [nI_toInt (by omega)]; omega
  unfold F_X0_act
  rw [has4 hC hP, if_pos hb, bd1, tswN d (by omega)]
  have hd2 : d = 0 ∨ d = 1 ∨ d = 2 ∨ d = 3 ∨ d = 4 ∨ d = 5 := by omega
  rcases hd2 with rfl | rfl | rfl | rfl | rfl | rfl
  · obtain ⟨v, e1, e2, e3⟩ := passYear_l hP hS hy (pT P) 0 u (by omega) (hC.congr (fun j _ => mix_0 j) rfl) FU (by show pT P < 1000; omega)
    refine ⟨v, ?_, e2, e3⟩
    show Option.bind (F_X0_passYear u) _ = _
    unfold F_X0_passYear
    rw [show (0 : Int32) = nI 0 from rfl, e1]
    rfl
  · refine ⟨_, ?_, hC.lev (S.2.1 - 2), frC.w9 u _⟩
    show Option.bind (F_X2_drawn (mi u 22 9) u) _ = _
    rw [hC.2.2.1, drawn4 u hl]
    rfl
  · refine ⟨_, ?_, hC.lev (min 9 (S.2.1 + 3)), frC.w9 u _⟩
    show Option.bind (F_X2_filled (mi u 22 9) u) _ = _
    rw [hC.2.2.1, filled4 u hl]
    rfl
  · have := g3 rfl
    refine ⟨_, ?_, (hC.set (c := S.1 i + 1) g2).congr (fun j hj => ?_) rfl, frC.w25 u i _⟩
    · show (if ain YY 0 25 (nI i) = true then _ else none) = _
      rw [if_pos hi6, if_pos hi6, nI_clamp (by omega)]
      show some ((), wi u 25 i (mi u 25 i + 1)) = _
      rw [c4, eC_n (by omega), eC_n (by omega), nI_1]
    · show (if j = i then S.1 j + 1 else S.1 j) = (if j = i then S.1 i + 1 else S.1 j)
      split <;> simp_all
  · have := g4 rfl
    refine ⟨_, ?_, (hC.set (c := S.1 i - 1) g2).congr (fun j hj => ?_) rfl, frC.w25 u i _⟩
    · show (if ain YY 0 25 (nI i) = true then _ else none) = _
      rw [if_pos hi6, if_pos hi6, nI_clamp (by omega)]
      show some ((), wi u 25 i (mi u 25 i - 1)) = _
      rw [c4, eC_n (by omega), eC_n (by omega), show nI (S.1 i) - 1 = nI (S.1 i - 1) from pk_sub (b := 1) (by omega)]
    · show (if j = i then S.1 j - 1 else S.1 j) = (if j = i then S.1 i - 1 else S.1 j)
      split <;> simp_all
  · refine ⟨_, ?_, (hC.set (c := 8) g2).congr (fun j hj => rfl) rfl, frC.w25 u i _⟩
    show (if ain YY 0 25 (nI i) = true then _ else none) = _
    rw [if_pos hi6, nI_clamp (by omega)]
    rfl
