/-! ===== stand: the reference's side, the next order ===== -/
def FRQ (w v : XM) : Prop := (∀ c, c ≠ 50 → mi v c = mi w c) ∧ ml v = ml w
theorem FRQ.rf (w : XM) : FRQ w w := ⟨fun _ _ => rfl, rfl⟩
theorem FRQ.tr {u v w : XM} (h : FRQ u v) (h2 : FRQ v w) : FRQ u w := ⟨fun c hc => (h2.1 c hc).trans (h.1 c hc), h2.2.trans h.2⟩
theorem FRQ.eqr {v w : XM} (h : FRQ v w) : EQR v w := ⟨fun a ha => h.1 a (by omega), by rw [h.1 0 (by decide)], by rw [h.1 0 (by decide)], by rw [h.2], by rw [h.1 35 (by decide)], by rw [h.1 35 (by decide)], by rw [h.1 35 (by decide)], by rw [h.1 35 (by decide)], by rw [h.1 35 (by decide)], by rw [h.2]⟩
theorem exch5 {w : XM} {m a b : Nat} {σ : Nat → Nat} (hm : m ≤ 6) (ha : a < m) (hb : b < m) (h : ∀ j, j < m → mi w 50 j = nI (σ j)) : ∃ w', F_X5_exchanges (nI a) (nI b) w = some ((), w') ∧ (∀ j, j < m → mi w' 50 j = nI (swpQ σ a b j)) ∧ FRQ w w' := by
  refine ⟨wi (wi w 50 a (mi w 50 b)) 50 b (mi w 50 a), ?_, fun j hj => ?_, fun c hc => by rw [xmi_ne hc, xmi_ne hc], rfl⟩
  · unfold F_X5_exchanges
    rw [if_pos (ainN rfl (show a < 6 by omega) (by decide)), if_pos (ainN rfl (show b < 6 by omega) (by decide)), if_pos (ainN rfl (show a < 6 by omega) (by decide)), if_pos (ainN rfl (show b < 6 by omega) (by decide)), nI_clamp (show a < 2 ^ 31 by omega), nI_clamp (show b < 2 ^ 31 by omega)]
  · rw [mi_wi]
    unfold swpQ
    by_cases c1 : j = b
    · rw [if_pos ⟨rfl, c1⟩, if_pos c1]; exact h a ha
    · rw [if_neg (fun z => c1 z.2), if_neg c1, mi_wi]
      by_cases c2 : j = a
      · rw [if_pos ⟨rfl, c2⟩, if_pos c2]; exact h b hb
      · rw [if_neg (fun z => c2 z.2), if_neg c2]; exact h j hj
theorem rv86 {m : Nat} (hm : m ≤ 6) : ∀ (f a b : Nat) (σ : Nat → Nat) (w : XM), b ≤ a + f → b < m → a < 100 → (∀ j, j < m → mi w 50 j = nI (σ j)) → ∀ fuel, f < fuel → ∃ w', F_X5_nextOrder_86 fuel (nI a) (nI b) w = some (1, w') ∧ (∀ j, j < m → mi w' 50 j = nI (rvQ f a b σ j)) ∧ FRQ w w'
  | 0, a, b, σ, w, hf, hb, ha, h, fuel + 1, _ => by
    refine ⟨w, ?_, h, FRQ.rf w⟩
    rw [F_X5_nextOrder_86, if_pos (nI_le (by omega) (by omega))]
  | f + 1, a, b, σ, w, hf, hb, ha, h, fuel + 1, hl => by
    by_cases c : b ≤ a
    · refine ⟨w, ?_, fun j hj => ?_, FRQ.rf w⟩
      · rw [F_X5_nextOrder_86, if_pos (nI_le c (by omega))]
      · show _ = nI ((if b ≤ a then σ else rvQ f (a + 1) (b - 1) (swpQ σ a b)) j)
        rw [if_pos c]
        exact h j hj
    · obtain ⟨w1, a1, a2, a3⟩ := exch5 (a := a) (b := b) hm (by omega) hb h
      obtain ⟨w2, b1, b2, b3⟩ := rv86 hm f (a + 1) (b - 1) (swpQ σ a b) w1 (by omega) (by omega) (by omega) a2 fuel (by omega)
      refine ⟨w2, ?_, fun j hj => ?_, a3.tr b3⟩
      · rw [F_X5_nextOrder_86, if_neg (nI_ge (by omega) (by omega)), a1, Option.bind_some, nI_1, sb_m1 (show 0 < b by omega)]
        exact b1
      · show _ = nI ((if b ≤ a then σ else rvQ f (a + 1) (b - 1) (swpQ σ a b)) j)
        rw [if_neg c]
        exact b2 j hj
theorem feQ_le (σ : Nat → Nat) (k : Nat) : ∀ e, feQ σ k e ≤ e
  | 0 => Nat.le_refl _
  | e + 1 => by
    show (if σ (e + 1) < σ k then feQ σ k e else e + 1) ≤ e + 1
    have := feQ_le σ k e
    by_cases c : σ (e + 1) < σ k
    · rw [if_pos c]; omega
    · rw [if_neg c]; omega
theorem e47 {w : XM} {m k : Nat} {σ : Nat → Nat} (hm : m ≤ 6) (h : ∀ j, j < m → mi w 50 j = nI (σ j)) (hs : ∀ j, j < m → σ j < 6) : ∀ (e : Nat), k ≤ e → e < m → ∀ fuel, e < fuel → F_X5_nextOrder_47 fuel (nI k) (nI e) w = Option.bind (F_X5_exchanges (nI k) (nI (feQ σ k e)) w) (fun x2 => F_X5_nextOrder_86 FU (nI k + 1) ((mi x2.2 35 28) - 1) x2.2)
  | 0, hk, he, fuel + 1, _ => by
    have hk0 : k = 0 := by omega
    rw [F_X5_nextOrder_47, if_pos (ainN rfl (show 0 < 6 by omega) (by decide)), if_pos (ainN rfl (show k < 6 by omega) (by decide)), nI_clamp (show 0 < 2 ^ 31 by omega), nI_clamp (show k < 2 ^ 31 by omega), hk0, if_pos (i_le.mpr (Int.le_refl _))]
    rfl
  | e + 1, hk, he, fuel + 1, hf => by
    rw [F_X5_nextOrder_47, if_pos (ainN rfl (show e + 1 < 6 by omega) (by decide)), if_pos (ainN rfl (show k < 6 by omega) (by decide)), nI_clamp (show e + 1 < 2 ^ 31 by omega), nI_clamp (show k < 2 ^ 31 by omega), h k (by omega), h (e + 1) he]
    have h1 := hs k (by omega)
    have h2 := hs (e + 1) he
    show _ = Option.bind (F_X5_exchanges (nI k) (nI (if σ (e + 1) < σ k then feQ σ k e else e + 1)) w) _
    by_cases c : σ (e + 1) < σ k
    · rw [if_pos c, if_neg (nI_ge c (by omega)), pk_m1]
      have hke : k ≤ e := by
        by_cases q : k = e + 1
        · rw [q] at c; exact absurd c (Nat.lt_irrefl _)
        · omega
      exact e47 hm h hs e hke (by omega) fuel (by omega)
    · rw [if_neg c, if_pos (nI_le (by omega) (by omega))]
theorem nx7n {w : XM} {v : Int32} (hv : v < 0) : ∀ fuel, 0 < fuel → F_X5_nextOrder_7 fuel v w = some (0, w)
  | fuel + 1, _ => by
    rw [F_X5_nextOrder_7, if_pos hv]
    unfold F_X5_nextOrder_34
    rw [if_neg (show ¬ (0 : Int32) ≤ v by rw [i_le]; rw [i_lt] at hv; omega)]
theorem nx7 {w : XM} {m : Nat} {σ : Nat → Nat} (hm : m ≤ 6) (h : ∀ j, j < m → mi w 50 j = nI (σ j)) (hs : ∀ j, j < m → σ j < 6) : ∀ (k : Nat), k + 1 < m → ∀ fuel, k + 1 < fuel → (fkQ σ (k + 1) = none → F_X5_nextOrder_7 fuel (nI k) w = some (0, w)) ∧ ∀ k', fkQ σ (k + 1) = some k' → k' ≤ k ∧ F_X5_nextOrder_7 fuel (nI k) w = F_X5_nextOrder_34 (nI k') w
  | k, hk, fuel + 1, hf => by
    have h1 := hs k (by omega)
    have h2 := hs (k + 1) hk
    have hE : F_X5_nextOrder_7 (fuel + 1) (nI k) w = if σ k ≤ σ (k + 1) then F_X5_nextOrder_34 (nI k) w else F_X5_nextOrder_7 fuel (nI k + (-1)) w := by
      rw [F_X5_nextOrder_7, if_neg (nI_lt0 (by omega)), nI_1, if_pos (ainN rfl (show k < 6 by omega) (by decide)), if_pos (ainN rfl (show k + 1 < 6 by omega) (by decide)), nI_clamp (show k < 2 ^ 31 by omega), nI_clamp (show k + 1 < 2 ^ 31 by omega), h k (by omega), h (k + 1) hk]
      by_cases c : σ k ≤ σ (k + 1)
      · rw [if_pos c, if_pos (nI_le c (by omega))]
      · rw [if_neg c, if_neg (nI_ge (by omega) (by omega))]
    have hF : fkQ σ (k + 1) = if σ (k + 1) < σ k then fkQ σ k else some k := rfl
    rw [hE, hF]
    by_cases c : σ (k + 1) < σ k
    · rw [if_pos c, if_neg (show ¬ σ k ≤ σ (k + 1) by omega)]
      cases k with
      | zero =>
        refine ⟨fun _ => nx7n (by decide) fuel (by omega), fun k' z => ?_⟩
        exact absurd (show (none : Option Nat) = some k' from z) (by simp)
      | succ k =>
        rw [pk_m1]
        obtain ⟨i1, i2⟩ := nx7 hm h hs k (by omega) fuel (by omega)
        exact ⟨i1, fun k' z => ⟨Nat.le_succ_of_le (i2 k' z).1, (i2 k' z).2⟩⟩
    · rw [if_neg c, if_pos (show σ k ≤ σ (k + 1) by omega)]
      refine ⟨fun z => absurd z (by simp), fun k' z => ?_⟩
      have e : k = k' := Option.some.inj z
      rw [← e]
      exact ⟨Nat.le_refl _, rfl⟩
theorem nextOrder5 {w : XM} {m : Nat} {σ : Nat → Nat} (hm : m ≤ 6) (h28 : mi w 35 28 = nI m) (h : ∀ j, j < m → mi w 50 j = nI (σ j)) (hs : ∀ j, j < m → σ j < 6) : (nxQ m σ = none → F_X5_nextOrder w = some (0, w)) ∧ ∀ τ, nxQ m σ = some τ → ∃ w', F_X5_nextOrder w = some (1, w') ∧ (∀ j, j < m → mi w' 50 j = nI (τ j)) ∧ FRQ w w' := by
  unfold F_X5_nextOrder
  rw [h28]
  by_cases c : m < 2
  · have hv : nI m - 2 < 0 := by
      have hm2 : m = 0 ∨ m = 1 := by omega
      rcases hm2 with rfl | rfl <;> decide
    refine ⟨fun _ => nx7n hv FU (show 0 < 1000 by decide), fun τ z => ?_⟩
    unfold nxQ at z
    rw [show m - 1 = 0 by omega] at z
    exact absurd (show (none : Option (Nat → Nat)) = some τ from z) (by simp)
  · obtain ⟨n, rfl⟩ : ∃ n, m = n + 2 := ⟨m - 2, by omega⟩
    rw [show nI (n + 2) - 2 = nI n from pk_sub (a := n + 2) (b := 2) (by omega)]
    obtain ⟨i1, i2⟩ := nx7 hm h hs n (by omega) FU (show n + 1 < 1000 by omega)
    unfold nxQ
    rw [show n + 2 - 1 = n + 1 from rfl]
    generalize hX : fkQ σ (n + 1) = X at i1 i2
    cases X with
    | none => exact ⟨fun _ => i1 rfl, fun τ z => absurd (show (none : Option (Nat → Nat)) = some τ from z) (by simp)⟩
    | some k =>
      refine ⟨fun z => absurd (show some (rvQ 6 (k + 1) (n + 1) (swpQ σ k (feQ σ k (n + 1)))) = none from z) (by simp), fun τ z => ?_⟩
      have e : rvQ 6 (k + 1) (n + 1) (swpQ σ k (feQ σ k (n + 1))) = τ := Option.some.inj z
      obtain ⟨j1, j2⟩ := i2 k rfl
      rw [j2, ← e]
      unfold F_X5_nextOrder_34
      rw [if_pos (nI_ge0 (by omega)), h28, show nI (n + 2) - 1 = nI (n + 1) from nI_pred (n + 1), e47 hm h hs (n + 1) (by omega) (by omega) FU (show n + 1 < 1000 by omega)]
      have hle := feQ_le σ k (n + 1)
      obtain ⟨w1, a1, a2, a3⟩ := exch5 (a := k) (b := feQ σ k (n + 1)) hm (by omega) (by omega) h
      obtain ⟨w2, b1, b2, b3⟩ := rv86 hm 6 (k + 1) (n + 1) (swpQ σ k (feQ σ k (n + 1))) w1 (by omega) (by omega) (by omega) a2 FU (show 6 < 1000 by decide)
      refine ⟨w2, ?_, b2, a3.tr b3⟩
      rw [a1, Option.bind_some]
      show F_X5_nextOrder_86 FU (nI k + 1) (mi w1 35 28 - 1) w1 = _
      rw [a3.1 35 (by decide), h28, show nI (n + 2) - 1 = nI (n + 1) from nI_pred (n + 1), nI_1]
      exact b1
