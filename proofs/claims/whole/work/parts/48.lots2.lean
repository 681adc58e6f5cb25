theorem frM2.tr2 {u v w : XM} (h : frM2 u v) (g : frM2 v w) : frM2 u w := ⟨fun a h1 h2 h3 => (g.1 a h1 h2 h3).trans (h.1 a h1 h2 h3), fun b hb => (g.2.1 b hb).trans (h.2.1 b hb), g.2.2.trans h.2.2⟩
theorem frM2.rf (u : XM) : frM2 u u := ⟨fun _ _ _ _ => rfl, fun _ _ => rfl, rfl⟩
theorem frC2.tr {u v w : XM} (h : frC2 u v) (g : frC2 v w) : frC2 u w := ⟨fun a h1 h2 h3 => (g.1 a h1 h2 h3).trans (h.1 a h1 h2 h3), g.2.trans h.2⟩
theorem frC2.rf (u : XM) : frC2 u u := ⟨fun _ _ _ _ => rfl, rfl⟩
theorem REL_deeds {u v w : XM} {P : CP} {s0 : PS} {ds : Nat → Nat} {n : Nat} (h1 : RROW u) (h2 : RTXT u) (h3 : RFND u) (h4 : RTLD u) (g1 : okP P) (g2 : okS P s0) (g3 : s0.2.2 = 0) (g4 : okH P s0 ds n) (g9 : ∀ k, k < 3 → kep u P s0 k)
    (c1 : curC v P (sq P s0 ds n)) (c2 : hisC v P s0 ds n) (c3 : frC2 u v) (m1 : curM w P (sq P s0 ds n)) (m2 : hisM w P s0 ds n) (m3 : frM2 v w) : REL w := by
  have e : ∀ a, ¬ (a = 22 ∨ a = 25 ∨ a = 28 ∨ a = 35 ∨ a = 43 ∨ a = 44) → mi w a = mi u a := fun a ha => (m3.1 a (by omega) (by omega) (by omega)).trans (c3.1 a (by omega) (by omega) (by omega))
  have e35 : ∀ b, b ≠ 10 → mi w 35 b = mi u 35 b := fun b hb => (m3.2.1 b hb).trans (by rw [c3.1 35 (by omega) (by omega) (by omega)])
  have el : ml w = ml u := m3.2.2.trans c3.2
  have eC0 : ∀ a, a < 35 → mi w a = mi v a := fun a ha => m3.1 a (by omega) (by omega) (by omega)
  refine ⟨h1.fr (fun a ha => e a (by omega)), h2.fr (fun a ha => e a (by omega)), h3.fr (e 34 (by omega)) (e 47 (by omega)) (by rw [e 0 (by omega)]) (e35 17 (by omega)), h4.fr (by rw [e 0 (by omega)]) (e35 14 (by omega)) (by rw [el]) (by rw [el]), P, s0, ds, n, g1, g2, g3, g4, ?_, m1, ?_, m2, fun k hk => ?_⟩
  · unfold curC
    rw [eC0 22 (by omega), eC0 23 (by omega), eC0 26 (by omega), eC0 27 (by omega), eC0 25 (by omega)]
    exact c1
  · unfold hisC
    rw [eC0 24 (by omega), eC0 22 (by omega), eC0 28 (by omega)]
    exact c2
  · have := g9 k hk
    unfold kep snap at this ⊢
    rw [e 19 (by omega), e 46 (by omega), e (16 + k) (by omega), e 45 (by omega)]
    exact this
def lotN (x : Nat) : Nat := 48271 * x % 2147483647
theorem lotN_lt (x : Nat) : lotN x < 2 ^ 31 := Nat.lt_trans (Nat.mod_lt _ (by decide)) (by decide)
theorem lot_c {x : Nat} (hx : x < 2 ^ 31) : lN x * 48271 - lN x * 48271 / 2147483647 * 2147483647 = lN (lotN x) := by
  rw [show (48271 : Int64) = lN 48271 from rfl, show (2147483647 : Int64) = lN 2147483647 from rfl, lN_mul, pk_lRem (by omega) (by decide) (by decide), Nat.mul_comm]
  rfl
theorem lot_m {x : Nat} (hx : x < 2 ^ 31) : 48271 * lN x - 48271 * lN x / 2147483647 * 2147483647 = lN (lotN x) := by
  rw [show (48271 : Int64) = lN 48271 from rfl, show (2147483647 : Int64) = lN 2147483647 from rfl, lN_mul, pk_lRem (by omega) (by decide) (by decide)]
  rfl
theorem lots_l {P : CP} {s0 : PS} (hP : okP P) (h0 : okS P s0) (hz : s0.2.2 = 0) (hT0 : 0 < pT P) {N : Nat} (hN : N ≤ 40) : ∀ (m k x n : Nat) (ds : Nat → Nat) (u : XM), k + m = N → n + m ≤ 40 → x < 2 ^ 31 → okH P s0 ds n → curC u P (sq P s0 ds n) → hisC u P s0 ds n → ∀ fuel, m < fuel → ∃ v ds', F_X4_lots_63 fuel (nI N) (lN x) (nI k) u = some (nI (sq P s0 ds' (n + m)).2.1, v) ∧ okH P s0 ds' (n + m) ∧ curC v P (sq P s0 ds' (n + m)) ∧ hisC v P s0 ds' (n + m) ∧ frC2 u v ∧ ∀ w, curM w P (sq P s0 ds n) → hisM w P s0 ds n → ∃ w', F_X5_lots_56 fuel (nI N) (lN x) (nI k) w = some (nI (sq P s0 ds' (n + m)).2.1, w') ∧ curM w' P (sq P s0 ds' (n + m)) ∧ hisM w' P s0 ds' (n + m) ∧ frM2 w w'
  | 0, k, x, n, ds, u, hk, hn, hx, hH, hC, hI, fuel + 1, _ => by
    refine ⟨u, ds, ?_, hH, hC, hI, frC2.rf u, fun w hM hJ => ⟨w, ?_, hM, hJ, frM2.rf w⟩⟩
    · unfold F_X4_lots_63
      rw [if_pos (nI_le (by omega) (by omega)), hC.2.2.1]
      rfl
    · unfold F_X5_lots_56
      rw [if_pos (nI_le (by omega) (by omega)), if_pos (by decide), show Int32.toNatClampNeg 6 = 6 from by decide, hM.2.2.1]
      rfl
  | m + 1, k, x, n, ds, u, hk, hn, hx, hH, hC, hI, fuel + 1, hf => by
    have hT := hP.1
    have hS := sq_ok h0 hH n (Nat.le_refl _)
    have hy : (sq P s0 ds n).2.2 ≤ 40 := Nat.le_trans (sq_year hz n) hH.1
    have hD := lotD_ok hP hS hT0 (lotN x)
    have hi8 : (lotD P (sq P s0 ds n) (lotN x)).2 < 8 := by have := hD.2.1; omega
    obtain ⟨v1, a0, a1, a2, a3⟩ := perfLot4 hP hS hy hC hI (by omega) hT0 (lotN_lt x)
    have hH1 := okH_new hi8 hH (by omega) hD
    rw [← sq_new hi8] at a1
    obtain ⟨v, ds', b0, b1, b2, b3, b4, b5⟩ := lots_l hP h0 hz hT0 hN m (k + 1) (lotN x) (n + 1) _ v1 (by omega) (by omega) (lotN_lt x) hH1 a1 a2 fuel (by omega)
    rw [show n + 1 + m = n + (m + 1) by omega] at b0 b1 b2 b3 b5
    refine ⟨v, ds', ?_, b1, b2, b3, a3.tr b4, fun w hM hJ => ?_⟩
    · unfold F_X4_lots_63
      rw [if_neg (nI_ge (by omega) (by omega)), lot_c hx, a0, Option.bind_some, nI_1]
      exact b0
    · obtain ⟨w1, e0, e1, e2, e3⟩ := plays5 hP hS hy hM hJ (by omega) hT0 (lotN x) (8 * (lotD P (sq P s0 ds n) (lotN x)).1 + (lotD P (sq P s0 ds n) (lotN x)).2)
      rw [← sq_new hi8] at e1
      obtain ⟨w', f0, f1, f2, f3⟩ := b5 w1 e1 e2
      refine ⟨w', ?_, f1, f2, e3.tr2 f3⟩
      unfold F_X5_lots_56
      rw [if_neg (nI_ge (by omega) (by omega)), hM.1, if_neg (lT_ne hT0 hT), lot_m hx, lot_h (lotN_lt x), lot_i (lotN_lt x) hT0 hT, e0, Option.bind_some, nI_1]
      exact f0
theorem rng1 {v : Int32} {N M : Int32} {A B : Option (Int32 × XM)} (hM : N.toInt = M.toInt + 1) : (if v < 1 then A else if M < v then A else B) = if 1 ≤ v.toInt ∧ v.toInt < N.toInt then B else A := by
  have e1 : (1 : Int32).toInt = 1 := by decide
  by_cases h1 : v < 1
  · rw [if_pos h1, if_neg]; rw [i_lt, e1] at h1; omega
  · rw [if_neg h1]
    rw [i_lt, e1] at h1
    by_cases h2 : M < v
    · rw [if_pos h2, if_neg]; rw [i_lt] at h2; omega
    · rw [if_neg h2, if_pos]; rw [i_lt] at h2; omega
