/-! ===== odds, mid ===== -/
/-- where thing i lies a year later -/
def gY (P : CP) (S : PS) (i : Nat) : Nat → Nat → Nat := fun y c => nx S.2.1 (pF P) (pK P i) (pW P i) y c
def vfOK (tgt : Int32) (vf : Nat → Nat) : Prop := (tgt = -9 ∧ ∀ c, vf c = c) ∨ (∃ t, t < 8 ∧ tgt = nI t ∧ ∀ c, vf c = if c = t then 1 else 0)
theorem vf_le {tgt : Int32} {vf : Nat → Nat} (h : vfOK tgt vf) (c : Nat) (hc : c ≤ 7) : vf c ≤ 7 := by
  rcases h with ⟨_, h⟩ | ⟨t, _, _, h⟩
  · rw [h c]; exact hc
  · rw [h c]; split <;> omega
theorem ww_l {u : XM} {P : CP} {S : PS} (hC : curC u P S) (hP : okP P) (hS : okS P S) {i p : Nat} (hi : i < pT P) (hp : p ≤ 12) {tgt : Int32} {vf : Nat → Nat} (hv : vfOK tgt vf) : ∀ (L y c : Nat), L ≤ 6 → y + L ≤ 100 → c ≤ 7 → ∀ fuel, L < fuel → F_X0_weighWays fuel (nI i) (nI c) (nI L) (nI p) tgt (nI y) u = some (lN (wW vf (gY P S i) p L y c), u)
  | 0, y, c, hL, hy, hc, fuel + 1, _ => by
    unfold F_X0_weighWays B_X0_weighWays
    rw [if_neg (show ¬ (0 : Int32) < nI 0 by decide)]
    show _ = some (lN (vf c), u)
    rcases hv with ⟨h1, h2⟩ | ⟨t, h1, h2, h3⟩
    · rw [if_pos h1, nI_l (by omega), h2]
    · rw [h2, if_neg (n_neg9 (by omega)), h3]
      by_cases q : c = t
      · rw [if_pos (show nI c = nI t by rw [q]), if_pos q]; rfl
      · rw [if_neg (show ¬ nI c = nI t from fun z => q (n_inj z (by omega) (by omega))), if_neg q]; rfl
  | L + 1, y, c, hL, hy, hc, fuel + 1, hf => by
    have hT := hP.1
    obtain ⟨o1, o2, o3⟩ := hP.2.2 i hi
    obtain ⟨c1, c2, c3, c4⟩ := hC.2.2.2.2 i hi
    have ih := fun c' hc' => ww_l hC hP hS hi hp hv L (y + 1) c' (by omega) (by omega) hc' fuel (by omega)
    have hg : gY P S i y c ≤ 7 := nx_le hc
    unfold F_X0_weighWays B_X0_weighWays
    rw [if_pos (show (0 : Int32) < nI (L + 1) from nI_lt (a := 0) (by omega) (by omega)), if_pos (ainN rfl (show i < 6 by omega) (by decide)), if_pos (ainN rfl (show i < 6 by omega) (by decide)), nI_clamp (by omega), c1, c2, step4 hC hP hS o1 o2 (by omega) hc, Option.bind_some, nI_pred, nI_1]
    show Option.bind (F_X0_weighWays fuel (nI i) (nI c) (nI L) (nI p) tgt (nI (y + 1)) u) _ = _
    rw [ih c hc, Option.bind_some]
    show Option.bind (F_X0_weighWays fuel (nI i) (nI (gY P S i y c)) (nI L) (nI p) tgt (nI (y + 1)) u) _ = _
    rw [ih _ hg, Option.bind_some]
    show some (Int32.toInt64 (nI p) * lN (wW vf (gY P S i) p L (y + 1) c) + Int32.toInt64 (12 - nI p) * lN (wW vf (gY P S i) p L (y + 1) (gY P S i y c)), u) = some (lN (p * wW vf (gY P S i) p L (y + 1) c + (12 - p) * wW vf (gY P S i) p L (y + 1) (gY P S i y c)), u)
    rw [show (12 : Int32) - nI p = nI (12 - p) from pk_sub (a := 12) hp, nI_l (by omega), nI_l (by omega), lN_mul, lN_mul, lN_add]
theorem div_2k (s k : Nat) : s / 2 ^ k / 2 = s / 2 ^ (k + 1) := by
  rw [Nat.div_div_eq_div_mul, Nat.pow_succ]
theorem w33_l {u : XM} {P : CP} {S : PS} (hM : curM u P S) (hP : okP P) (hS : okS P S) (hy : S.2.2 ≤ 40) {i p n s : Nat} (hi : i < pT P) (hp : p ≤ 12) (hn : n ≤ 6) (hs : s < 2 ^ 30) {tgt : Int32} {vf : Nat → Nat} (hv : vfOK tgt vf) {K : Int32 → Int32 → Int32 → Int32 → Int64 → Int64 → Int32 → XM → Option (Int32 × XM)} {B7 : Int64} (A : Nat) : ∀ (m k a c : Nat), k + m = n → c ≤ 7 → ∀ fuel, m < fuel → F_X5_weighed_33 K fuel (nI i) tgt (nI n) (nI p) (lN A) B7 (nI s) (lN a) (nI c) (nI k) u = K (nI i) tgt (nI n) (nI p) (lN (A + iv vf (gY P S i) p (s / 2 ^ k) m (S.2.2 + k) c a)) B7 (nI (s + 1)) u
  | 0, k, a, c, hk, hc, fuel + 1, _ => by
    have vl := vf_le hv c hc
    unfold F_X5_weighed_33 F_X5_weighed_143
    rw [if_pos (nI_le (by omega) (by omega)), nI_1]
    show _ = K (nI i) tgt (nI n) (nI p) (lN (A + a * vf c)) B7 (nI (s + 1)) u
    rw [← lN_add, ← lN_mul, ← nI_l (show vf c < 2 ^ 31 by omega)]
    rcases hv with ⟨h1, h2⟩ | ⟨t, h1, h2, h3⟩
    · rw [if_pos h1, h2]
    · rw [h2, if_neg (n_neg9 (by omega)), h3]
      by_cases q : c = t
      · rw [if_pos (show nI c = nI t by rw [q]), if_pos q]; rfl
      · rw [if_neg (show ¬ nI c = nI t from fun z => q (n_inj z (by omega) (by omega))), if_neg q]; rfl
  | m + 1, k, a, c, hk, hc, fuel + 1, hf => by
    have hT := hP.1
    obtain ⟨o1, o2, o3⟩ := hP.2.2 i hi
    obtain ⟨c1, c2, c3, c4⟩ := hM.2.2.2.2 i hi
    have ih := fun a c hc => w33_l hM hP hS hy hi hp hn hs hv (K := K) (B7 := B7) A m (k + 1) a c (by omega) hc fuel (by omega)
    have tb : s.testBit k = decide (s / 2 ^ k % 2 = 1) := Nat.testBit_eq_decide_div_mod_eq
    have hx := has5 (b := s) (q := k) (by omega) (by omega) u
    have ei : iv vf (gY P S i) p (s / 2 ^ k) (m + 1) (S.2.2 + k) c a = iv vf (gY P S i) p (s / 2 ^ (k + 1)) m (S.2.2 + (k + 1)) (if s / 2 ^ k % 2 = 1 then c else gY P S i (S.2.2 + k) c) (a * (if s / 2 ^ k % 2 = 1 then p else 12 - p)) := by
      rw [← div_2k]; rfl
    rw [ei]
    unfold F_X5_weighed_33 F_X5_weighed_63 F_X5_weighed_109
    rw [if_neg (nI_ge (by omega) (by omega)), hx]
    by_cases q : s / 2 ^ k % 2 = 1
    · rw [if_pos q, if_pos q, if_pos (show s.testBit k = true by rw [tb]; exact decide_eq_true q), bd1]
      rw [if_pos (show s.testBit k = true by rw [tb]; exact decide_eq_true q)] at hx
      show Option.bind (F_X5_has (nI s) (nI k) u) _ = _
      rw [hx, bd1, nI_1, nI_l (by omega), lN_mul]
      exact ih _ c hc
    · have t0 : ¬ s.testBit k = true := fun z => q (of_decide_eq_true (tb ▸ z))
      rw [if_neg q, if_neg q, if_neg t0, bd0]
      rw [if_neg t0] at hx
      show Option.bind (F_X5_has (nI s) (nI k) u) _ = _
      rw [hx, bd0, if_pos (ainN rfl (show i < 6 by omega) (by decide)), if_pos (ainN rfl (show i < 6 by omega) (by decide)), if_pos (by decide), nI_clamp (by omega), show Int32.toNatClampNeg 7 = 7 from by decide]
      show Option.bind (F_X5_next (mi u 40 i) (mi u 41 i) (nI c) (mi u 43 7 + nI k) u) _ = _
      rw [c1, c2, hM.2.2.2.1, nI_add, next5 hM hP hS o1 o2 (by omega) hc, Option.bind_some, nI_1, show (12 : Int32) - nI p = nI (12 - p) from pk_sub (a := 12) hp, nI_l (by omega), lN_mul]
      exact ih _ _ (nx_le hc)
theorem w157_l (u : XM) (X : Int64) {n : Nat} (hn : n ≤ 6) : ∀ (m k b : Nat), k + m = n → ∀ fuel, m < fuel → F_X5_weighed_157 fuel (nI n) X (lN b) (nI k) u = Option.bind (F_X5_fraction X (lN (b * 12 ^ m)) u) (fun x1 => some (x1.1, x1.2))
  | 0, k, b, hk, fuel + 1, _ => by
    rw [F_X5_weighed_157, if_pos (nI_le (by omega) (by omega)), Nat.pow_zero, Nat.mul_one]
  | m + 1, k, b, hk, fuel + 1, hf => by
    rw [F_X5_weighed_157, if_neg (nI_ge (by omega) (by omega)), nI_1, show (12 : Int64) = lN 12 from rfl, lN_mul, w157_l u X hn m (k + 1) (b * 12) (by omega) fuel (by omega), Nat.pow_succ, Nat.mul_assoc, Nat.mul_comm 12]
theorem w9_l {u : XM} {P : CP} {S : PS} (hM : curM u P S) (hP : okP P) (hS : okS P S) (hy : S.2.2 ≤ 40) {i p n : Nat} (hi : i < pT P) (h7 : S.1 i ≤ 7) (hp : p ≤ 12) (hn : n ≤ 6) (hN : 2 ^ n ≤ 64) {tgt : Int32} {vf : Nat → Nat} (hv : vfOK tgt vf) : ∀ (m s A : Nat), s + m = 2 ^ n → ∀ fuel, m < fuel → F_X5_weighed_9 fuel (nI i) tgt (nI n) (nI p) (lN A) 1 (nI s) u = F_X5_weighed_157 FU (nI n) (lN (smN (fun s => iv vf (gY P S i) p s n S.2.2 (S.1 i) 1) s m A)) 1 0 u
  | 0, s, A, hs, fuel + 1, _ => by
    rw [F_X5_weighed_9, shl1 n (by omega), if_pos (nI_le (by omega) (by omega))]
    rfl
  | m + 1, s, A, hs, fuel + 1, hf => by
    have hT := hP.1
    rw [F_X5_weighed_9, shl1 n (by omega), if_neg (nI_ge (by omega) (by omega)), z_add, if_pos (ainN rfl (show i < 8 by omega) (by decide)), nI_clamp (by omega), (hM.2.2.2.2 i hi).2.2.2, eC_n h7]
    have := w33_l hM hP hS hy hi hp hn (show s < 2 ^ 30 by omega) hv (K := F_X5_weighed_9 fuel) (B7 := 1) A n 0 1 (S.1 i) (by omega) h7 FU (show n < 1000 by omega)
    rw [Nat.pow_zero, Nat.div_one] at this
    refine this.trans ?_
    exact w9_l hM hP hS hy hi h7 hp hn hN hv m (s + 1) _ (by omega) fuel (by omega)
theorem p2_64 : ∀ n, n < 7 → 2 ^ n ≤ 64 := by decide
theorem p12_le : ∀ n, n < 7 → 0 < 12 ^ n ∧ 12 ^ n ≤ 2985984 := by decide
def raA (P : CP) (S : PS) (i p n : Nat) (vf : Nat → Nat) : Nat := wW vf (gY P S i) p n S.2.2 (S.1 i)
theorem ra_le {P : CP} {S : PS} {i p n : Nat} (h7 : S.1 i ≤ 7) (hp : p ≤ 12) (hn : n ≤ 6) {tgt : Int32} {vf : Nat → Nat} (hv : vfOK tgt vf) : raA P S i p n vf < 2 ^ 62 := by
  have h1 := wW_le (g := gY P S i) hp (vf_le hv) (fun y c hc => nx_le hc) n S.2.2 (S.1 i) h7
  have h2 := (p12_le n (by omega)).2
  unfold raA
  omega
theorem weighed5 {u : XM} {P : CP} {S : PS} (hM : curM u P S) (hP : okP P) (hS : okS P S) (hy : S.2.2 ≤ 40) {i p n : Nat} (hi : i < pT P) (h7 : S.1 i ≤ 7) (hp : p ≤ 12) (hn : n ≤ 6) {tgt : Int32} {vf : Nat → Nat} (hv : vfOK tgt vf) : F_X5_weighed (nI i) tgt (nI n) (nI p) u = some (1, wl (wl u 35 15 (lN (raA P S i p n vf) / lN (Nat.gcd (raA P S i p n vf) (12 ^ n)))) 35 16 (lN (12 ^ n) / lN (Nat.gcd (raA P S i p n vf) (12 ^ n)))) := by
  have hN := p2_64 n (by omega)
  have h12 := p12_le n (by omega)
  have h1 := w9_l hM hP hS hy hi h7 hp hn hN hv (2 ^ n) 0 0 (by omega) FU (show 2 ^ n < 1000 by omega)
  have e := smN_s (fun s => iv vf (gY P S i) p s n S.2.2 (S.1 i) 1) (2 ^ n) 0
  rw [show sumN (fun s => iv vf (gY P S i) p s n S.2.2 (S.1 i) 1) 0 = 0 from rfl, Nat.zero_add, iv_sum, Nat.one_mul] at e
  rw [e] at h1
  have h2 := w157_l u (lN (raA P S i p n vf)) hn n 0 1 (by omega) FU (show n < 1000 by omega)
  rw [Nat.one_mul, frac5 u (ra_le h7 hp hn hv) (by omega) h12.1, Option.bind_some] at h2
  exact h1.trans h2
theorem weigh4 {u : XM} {P : CP} {S : PS} (hC : curC u P S) (hP : okP P) (hS : okS P S) (hy : S.2.2 ≤ 40) {i p n : Nat} (hi : i < pT P) (h7 : S.1 i ≤ 7) (hp : p ≤ 12) (hn : n ≤ 6) {tgt : Int32} {vf : Nat → Nat} (hv : vfOK tgt vf) : (if ain YY 0 25 (nI i) = true then (Option.bind (F_X0_weighWays 10 (nI i) (mi u 25 (Int32.toNatClampNeg (nI i))) (nI n) (nI p) tgt (mi u 22 10) u) (fun x4 => (Option.bind (F_X4_twelveTimes (nI n) x4.2) (fun x5 => (Option.bind (F_X4_tellRatio x4.1 x5.1 x5.2) (fun x6 => some (x6.1, x6.2))))))) else none) = some (1, wl (wl u 0 13 (lN (raA P S i p n vf) / lN (Nat.gcd (raA P S i p n vf) (12 ^ n)))) 0 14 (lN (12 ^ n) / lN (Nat.gcd (raA P S i p n vf) (12 ^ n)))) := by
  have hT := hP.1
  have h12 := p12_le n (by omega)
  have t := tw4 u hn n 0 1 (by omega) FU (show n < 1000 by omega)
  rw [Nat.one_mul] at t
  rw [if_pos (ainN rfl (show i < 6 by omega) (by decide)), nI_clamp (by omega), (hC.2.2.2.2 i hi).2.2.2, eC_n h7, hC.2.2.2.1, ww_l hC hP hS hi hp hv n S.2.2 (S.1 i) hn (by omega) h7 10 (by omega), Option.bind_some]
  show Option.bind (F_X4_twelveTimes (nI n) u) _ = _
  rw [show F_X4_twelveTimes (nI n) u = some (lN (12 ^ n), u) from t, Option.bind_some]
  show Option.bind (F_X4_tellRatio (lN (raA P S i p n vf)) (lN (12 ^ n)) u) _ = _
  rw [ratio4 u (ra_le h7 hp hn hv) (by omega) h12.1, Option.bind_some]
theorem REL_ratio {u : XM} (h : REL u) (a b : Int64) : REL (wl (wl (wl (wl u 0 13 a) 0 14 b) 35 15 a) 35 16 b) := by
  obtain ⟨h1, h2, h3, h4, h5⟩ := h
  exact ⟨h1.fr (fun a ha => rfl), h2.fr (fun a ha => rfl), h3.fr rfl rfl rfl rfl, ⟨h4.1, rfl, rfl⟩, h5.fr (fun a ha => rfl) rfl rfl rfl⟩
