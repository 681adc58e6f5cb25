/-! ===== chances: ways weighed ===== -/
/-- the class' tree of years: still by p of 12, else on by g -/
def wW (vf : Nat → Nat) (g : Nat → Nat → Nat) (p : Nat) : Nat → Nat → Nat → Nat
  | 0, _, c => vf c
  | L + 1, y, c => p * wW vf g p L (y + 1) c + (12 - p) * wW vf g p L (y + 1) (g y c)
/-- one row of years, by the bits of s -/
def iv (vf : Nat → Nat) (g : Nat → Nat → Nat) (p : Nat) : Nat → Nat → Nat → Nat → Nat → Nat
  | _, 0, _, c, a => a * vf c
  | s, m + 1, y, c, a => iv vf g p (s / 2) m (y + 1) (if s % 2 = 1 then c else g y c) (a * (if s % 2 = 1 then p else 12 - p))
def sumN (f : Nat → Nat) : Nat → Nat
  | 0 => 0
  | n + 1 => sumN f n + f n
theorem sum_2 (f : Nat → Nat) : ∀ n, sumN f (2 * n) = sumN (fun s => f (2 * s + 1) + f (2 * s)) n
  | 0 => rfl
  | n + 1 => by
    show sumN f (2 * n + 1 + 1) = sumN (fun s => f (2 * s + 1) + f (2 * s)) n + (f (2 * n + 1) + f (2 * n))
    show sumN f (2 * n) + f (2 * n) + f (2 * n + 1) = _
    rw [sum_2 f n]
    omega
theorem sum_add (f h : Nat → Nat) : ∀ n, sumN (fun s => f s + h s) n = sumN f n + sumN h n
  | 0 => rfl
  | n + 1 => by
    show sumN (fun s => f s + h s) n + (f n + h n) = sumN f n + f n + (sumN h n + h n)
    rw [sum_add f h n]
    omega
theorem sum_congr {f h : Nat → Nat} (e : ∀ s, f s = h s) : ∀ n, sumN f n = sumN h n
  | 0 => rfl
  | n + 1 => by
    show sumN f n + f n = sumN h n + h n
    rw [sum_congr e n, e n]
theorem iv_sum (vf : Nat → Nat) (g : Nat → Nat → Nat) (p : Nat) : ∀ (m y c a : Nat), sumN (fun s => iv vf g p s m y c a) (2 ^ m) = a * wW vf g p m y c
  | 0, y, c, a => by
    show 0 + a * vf c = a * vf c
    omega
  | m + 1, y, c, a => by
    rw [Nat.pow_succ, Nat.mul_comm, sum_2, sum_add]
    have e1 : ∀ s, iv vf g p (2 * s + 1) (m + 1) y c a = iv vf g p s m (y + 1) c (a * p) := fun s => by
      show iv vf g p ((2 * s + 1) / 2) m (y + 1) (if (2 * s + 1) % 2 = 1 then c else g y c) (a * (if (2 * s + 1) % 2 = 1 then p else 12 - p)) = _
      rw [if_pos (by omega), if_pos (by omega), show (2 * s + 1) / 2 = s by omega]
    have e2 : ∀ s, iv vf g p (2 * s) (m + 1) y c a = iv vf g p s m (y + 1) (g y c) (a * (12 - p)) := fun s => by
      show iv vf g p (2 * s / 2) m (y + 1) (if 2 * s % 2 = 1 then c else g y c) (a * (if 2 * s % 2 = 1 then p else 12 - p)) = _
      rw [if_neg (by omega), if_neg (by omega), show 2 * s / 2 = s by omega]
    rw [sum_congr e1, sum_congr e2, iv_sum vf g p m, iv_sum vf g p m]
    show _ = a * (p * wW vf g p m (y + 1) c + (12 - p) * wW vf g p m (y + 1) (g y c))
    rw [Nat.mul_add, Nat.mul_assoc, Nat.mul_assoc]
def smN (f : Nat → Nat) : Nat → Nat → Nat → Nat
  | _, 0, acc => acc
  | s, m + 1, acc => smN f (s + 1) m (acc + f s)
theorem smN_s (f : Nat → Nat) : ∀ m s, smN f s m (sumN f s) = sumN f (s + m)
  | 0, s => rfl
  | m + 1, s => by
    show smN f (s + 1) m (sumN f (s + 1)) = _
    rw [smN_s f m (s + 1), show s + 1 + m = s + (m + 1) by omega]
theorem wW_le {vf : Nat → Nat} {g : Nat → Nat → Nat} {p : Nat} (hp : p ≤ 12) (hv : ∀ c, c ≤ 7 → vf c ≤ 7) (hg : ∀ y c, c ≤ 7 → g y c ≤ 7) : ∀ (L y c : Nat), c ≤ 7 → wW vf g p L y c ≤ 7 * 12 ^ L
  | 0, _, c, hc => by
    show vf c ≤ 7 * 1
    have := hv c hc
    omega
  | L + 1, y, c, hc => by
    have h1 := Nat.mul_le_mul_left p (wW_le hp hv hg L (y + 1) c hc)
    have h2 := Nat.mul_le_mul_left (12 - p) (wW_le hp hv hg L (y + 1) (g y c) (hg y c hc))
    show p * wW vf g p L (y + 1) c + (12 - p) * wW vf g p L (y + 1) (g y c) ≤ 7 * 12 ^ (L + 1)
    have h3 : p * (7 * 12 ^ L) + (12 - p) * (7 * 12 ^ L) = 12 * (7 * 12 ^ L) := by
      rw [← Nat.add_mul, show p + (12 - p) = 12 by omega]
    rw [Nat.pow_succ]
    omega
/-! Euclid -/
def EN : Nat → Nat → Nat → Prop
  | 0, _, y => y = 0
  | n + 1, x, y => y = 0 ∨ EN n y (x % y)
theorem EN_log : ∀ (k x y : Nat), y < 2 ^ k → EN (2 * k) x y
  | 0, x, y, h => by
    show y = 0
    have : y < 1 := h
    omega
  | k + 1, x, y, h => by
    show y = 0 ∨ (x % y = 0 ∨ EN (2 * k) (x % y) (y % (x % y)))
    by_cases h0 : y = 0
    · exact Or.inl h0
    · refine Or.inr ?_
      by_cases h1 : x % y = 0
      · exact Or.inl h1
      · refine Or.inr (EN_log k _ _ ?_)
        have r1 : x % y < y := Nat.mod_lt _ (by omega)
        generalize x % y = r at h1 r1
        have r2 : y % r < r := Nat.mod_lt _ (by omega)
        have r3 := Nat.mod_add_div y r
        have r4 : 1 ≤ y / r := (Nat.one_le_div_iff (by omega)).mpr (by omega)
        have r5 := Nat.mul_le_mul_left r r4
        rw [Nat.pow_succ] at h
        omega
theorem gcd_st (x y : Nat) : Nat.gcd x y = Nat.gcd y (x % y) := by
  rw [Nat.gcd_comm x y, Nat.gcd_rec y x, Nat.gcd_comm]
theorem lg_0 {y : Nat} (h : y < 2 ^ 63) : lg_cmp (lN y) 0 = 0 ↔ y = 0 := by
  rw [lgc_eq, show (0 : Int64) = lN 0 from rfl, pk_lEQ h (by decide)]
theorem l_0 {y : Nat} (h : y < 2 ^ 63) : lN y = 0 ↔ y = 0 := by
  rw [show (0 : Int64) = lN 0 from rfl, pk_lEQ h (by decide)]
theorem gd_l (u : XM) : ∀ (n x y r : Nat), EN n x y → x < 2 ^ 63 → y < 2 ^ 63 → r + n ≤ 63 → ∀ fuel, n < fuel → F_X4_greatestDivisor_9 fuel (lN x) (lN y) (nI r) u = some (lN (Nat.gcd x y), u)
  | 0, x, y, r, h, hx, hy, hr, fuel + 1, _ => by
    have h0 : y = 0 := h
    rw [F_X4_greatestDivisor_9, if_neg (show ¬ (64 : Int32) ≤ nI r from nI_ge (b := 64) (by omega) (by omega)), if_pos ((lg_0 hy).mpr h0), h0, Nat.gcd_zero_right]
    rfl
  | n + 1, x, y, r, h, hx, hy, hr, fuel + 1, hf => by
    rw [F_X4_greatestDivisor_9, if_neg (show ¬ (64 : Int32) ≤ nI r from nI_ge (b := 64) (by omega) (by omega))]
    by_cases h0 : y = 0
    · rw [if_pos ((lg_0 hy).mpr h0), h0, Nat.gcd_zero_right]
      rfl
    · have h' : EN n y (x % y) := by
        rcases h with h | h
        · exact absurd h h0
        · exact h
      have hl : x % y < 2 ^ 63 := Nat.lt_of_le_of_lt (Nat.mod_le x y) hx
      rw [if_neg (fun z => h0 ((lg_0 hy).mp z)), if_neg (fun z => h0 ((l_0 hy).mp z)), pk_lRem hx (by omega) hy, nI_1, gd_l u n y (x % y) (r + 1) h' hy hl (by omega) fuel (by omega), gcd_st x y]
theorem fr_l (u : XM) (a b : Int64) : ∀ (n x y : Nat), EN n x y → 0 < Nat.gcd x y → x < 2 ^ 63 → y < 2 ^ 63 → ∀ fuel, n < fuel → F_X5_fraction_6 fuel a b (lN x) (lN y) u = some (1, wl (wl u 35 15 (a / lN (Nat.gcd x y))) 35 16 (b / lN (Nat.gcd x y)))
  | 0, x, y, h, hg, hx, hy, fuel + 1, _ => by
    have h0 : y = 0 := h
    subst h0
    rw [Nat.gcd_zero_right] at hg ⊢
    rw [F_X5_fraction_6, if_pos ((lg_0 hy).mpr rfl), if_neg (fun z => by have := (l_0 hx).mp z; omega), if_neg (fun z => by have := (l_0 hx).mp z; omega)]
  | n + 1, x, y, h, hg, hx, hy, fuel + 1, hf => by
    by_cases h0 : y = 0
    · subst h0
      rw [Nat.gcd_zero_right] at hg ⊢
      rw [F_X5_fraction_6, if_pos ((lg_0 hy).mpr rfl), if_neg (fun z => by have := (l_0 hx).mp z; omega), if_neg (fun z => by have := (l_0 hx).mp z; omega)]
    · have h' : EN n y (x % y) := by
        rcases h with h | h
        · exact absurd h h0
        · exact h
      have hl : x % y < 2 ^ 63 := Nat.lt_of_le_of_lt (Nat.mod_le x y) hx
      rw [gcd_st x y] at hg ⊢
      rw [F_X5_fraction_6, if_neg (fun z => h0 ((lg_0 hy).mp z)), if_neg (fun z => h0 ((l_0 hy).mp z)), pk_lRem hx (by omega) hy]
      exact fr_l u a b n y (x % y) h' hg hy hl fuel (by omega)
theorem ratio4 (u : XM) {a b : Nat} (ha : a < 2 ^ 62) (hb : b < 2 ^ 30) (h0 : 0 < b) : F_X4_tellRatio (lN a) (lN b) u = some (1, wl (wl u 0 13 (lN a / lN (Nat.gcd a b))) 0 14 (lN b / lN (Nat.gcd a b))) := by
  have hg : 0 < Nat.gcd a b := Nat.gcd_pos_of_pos_right a h0
  have hgl : Nat.gcd a b ≤ b := Nat.le_of_dvd h0 (Nat.gcd_dvd_right a b)
  have e : F_X4_greatestDivisor (lN a) (lN b) u = some (lN (Nat.gcd a b), u) := gd_l u (2 * 30) a b 0 (EN_log 30 a b hb) (by omega) (by omega) (by omega) FU (by decide)
  have c : ¬ lg_cmp (lN (Nat.gcd a b)) 0 ≤ 0 := by
    rw [Int32.not_le, lgc_pos, show (0 : Int64) = lN 0 from rfl, pk_lLT (by omega) (by omega)]
    exact hg
  have z : ¬ lN (Nat.gcd a b) = 0 := fun q => by have := (l_0 (show Nat.gcd a b < 2 ^ 63 by omega)).mp q; omega
  unfold F_X4_tellRatio F_X4_tellRatio_23 F_X4_tellRatio_42
  rw [e, Option.bind_some]
  show (if lg_cmp (lN (Nat.gcd a b)) 0 ≤ 0 then _ else _) = _
  rw [if_neg c, if_neg z]
  show (if lg_cmp (lN (Nat.gcd a b)) 0 ≤ 0 then _ else _) = _
  rw [if_neg c, if_neg z]
theorem frac5 (u : XM) {a b : Nat} (ha : a < 2 ^ 62) (hb : b < 2 ^ 30) (h0 : 0 < b) : F_X5_fraction (lN a) (lN b) u = some (1, wl (wl u 35 15 (lN a / lN (Nat.gcd a b))) 35 16 (lN b / lN (Nat.gcd a b))) :=
  fr_l u (lN a) (lN b) (2 * 30) a b (EN_log 30 a b hb) (Nat.gcd_pos_of_pos_right a h0) (by omega) (by omega) FU (by decide)
theorem tw4 (u : XM) {n : Nat} (hn : n ≤ 6) : ∀ (m k b : Nat), k + m = n → ∀ fuel, m < fuel → F_X4_twelveTimes_4 fuel (nI n) (lN b) (nI k) u = some (lN (b * 12 ^ m), u)
  | 0, k, b, hk, fuel + 1, _ => by
    rw [F_X4_twelveTimes_4, if_pos (nI_le (by omega) (by omega)), Nat.pow_zero, Nat.mul_one]
  | m + 1, k, b, hk, fuel + 1, hf => by
    rw [F_X4_twelveTimes_4, if_neg (nI_ge (by omega) (by omega)), nI_1, show (12 : Int64) = lN 12 from rfl, lN_mul, tw4 u hn m (k + 1) (b * 12) (by omega) fuel (by omega), Nat.pow_succ, Nat.mul_assoc, Nat.mul_comm 12]
