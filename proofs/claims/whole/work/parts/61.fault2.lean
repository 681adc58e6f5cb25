/-! ===== the small language: the reference's side ===== -/
def btx (f : Nat → Int32) (n pl : Nat) : Int32 := if pl < n then f pl else -1000
/-- what text t holds, as u sees it -/
def TX (u : XM) (t n : Nat) (f : Nat → Int32) : Prop := t < 4 ∧ n ≤ 60 ∧ mi u 38 t = nI n ∧ ∀ j, j < n → mi u 39 (60 * t + j) = f j
theorem byteAt5 {u w : XM} {t n pl : Nat} {f : Nat → Int32} (hx : TX u t n f) (e : EQR u w) (hp : mi w 35 19 = nI pl) (hl : pl ≤ n) : F_X5_byteAt (nI t) w = some (btx f n pl, w) := by
  obtain ⟨h1, h2, h3, h4⟩ := hx
  unfold F_X5_byteAt btx
  rw [if_pos (ainN rfl h1 (by decide)), nI_clamp (by omega), e.1 38 (by omega), h3, hp, n60]
  by_cases q : pl < n
  · rw [if_neg (nI_ge q (by omega)), if_pos (ainN rfl (show 60 * t + pl < 240 by omega) (by decide)), nI_clamp (by omega), e.1 39 (by omega), h4 pl q, if_pos q]
  · rw [if_pos (nI_le (by omega) (by omega)), if_neg q]
theorem eqrS {u w : XM} (e : EQR u w) {j : Nat} (x : Int32) (hj : 19 ≤ j ∧ j ≤ 24) : EQR u (wi w 35 j x) := EQR.wi e 35 j x (by omega) (by omega) (by omega)
theorem eqrS48 {u w : XM} (e : EQR u w) (j : Nat) (x : Int32) : EQR u (wi w 48 j x) := EQR.wi e 48 j x (by omega) (by omega) (by omega)
theorem m32 : ¬ (-1000 : Int32) = 32 := by decide
theorem blanks_l {u : XM} {t n : Nat} {f : Nat → Int32} (hx : TX u t n f) : ∀ (m pl : Nat) (w : XM), pl + m = n → EQR u w → mi w 35 19 = nI pl → ∀ fuel, m < fuel → ∃ w' m' pl', F_X5_blanks_0 fuel (nI t) w = some ((), w') ∧ EQR u w' ∧ pl' + m' = n ∧ mi w' 35 19 = nI pl' ∧ (∀ a j, ¬ (a = 35 ∧ j = 19) → mi w' a j = mi w a j) ∧ (0 < m' → ¬ f pl' = 32) ∧ ∀ it sd, ps f n m it 0 pl sd = ps f n m' it 0 pl' sd
  | 0, pl, w, hm, e, hp, fuel + 1, _ => by
    refine ⟨w, 0, pl, ?_, e, hm, hp, fun _ _ _ => rfl, fun z => absurd z (by omega), fun _ _ => rfl⟩
    unfold F_X5_blanks_0
    rw [byteAt5 hx e hp (by omega), Option.bind_some]
    unfold btx
    rw [if_neg (show ¬ pl < n by omega), if_neg m32]
  | m + 1, pl, w, hm, e, hp, fuel + 1, hf => by
    unfold F_X5_blanks_0
    rw [byteAt5 hx e hp (by omega), Option.bind_some]
    unfold btx
    rw [if_pos (show pl < n by omega)]
    have hn := hx.2.1
    by_cases q : f pl = 32
    · obtain ⟨w', m', pl', d1, d2, d3, d4, d5, d6, d7⟩ := blanks_l hx m (pl + 1) (wi w 35 19 (nI (pl + 1))) (by omega) (eqrS e _ (by decide)) (by rw [mi_wi, if_pos ⟨rfl, rfl⟩]) fuel (by omega)
      refine ⟨w', m', pl', ?_, d2, d3, d4, fun a j z => ?_, d6, fun it sd => ?_⟩
      · rw [if_pos q]
        show F_X5_blanks_0 fuel (nI t) (wi w 35 19 (mi w 35 19 + 1)) = _
        rw [hp, nI_1]
        exact d1
      · rw [d5 a j z, mi_wi, if_neg z]
      · rw [ps_s, if_pos ⟨rfl, q⟩]
        exact d7 it sd
    · refine ⟨w, m + 1, pl, by rw [if_neg q], e, hm, hp, fun _ _ _ => rfl, fun _ => q, fun _ _ => rfl⟩
theorem fg_in {x most : Int32} (h : 0 ≤ (x - 48).toInt ∧ (x - 48).toInt ≤ most.toInt) : fg x most = x - 48 ∧ ¬ fg x most = -9 := by
  have e : fg x most = x - 48 := by
    unfold fg
    rw [if_neg (by rw [i_lt, e_0]; omega), if_neg (by rw [i_lt]; omega)]
  refine ⟨e, fun z => ?_⟩
  rw [e] at z
  rw [z] at h
  exact absurd h.1 (by decide)
theorem fg_out {x most : Int32} (h : ¬ (0 ≤ (x - 48).toInt ∧ (x - 48).toInt ≤ most.toInt)) : fg x most = -9 := by
  unfold fg
  by_cases q : x - 48 < 0
  · rw [if_pos q]
  · rw [if_neg q, if_pos]
    rw [i_lt, e_0] at q
    rw [i_lt]
    omega
theorem takes5 {u w : XM} {t n pl : Nat} {f : Nat → Int32} (hx : TX u t n f) (e : EQR u w) (hp : mi w 35 19 = nI pl) (hl : pl ≤ n) (most : Int32) : (pl < n ∧ ¬ fg (f pl) most = -9 ∧ F_X5_takes (nI t) most w = some (1, wi (wi w 35 24 (fg (f pl) most)) 35 19 (nI (pl + 1)))) ∨ ((pl = n ∨ fg (f pl) most = -9) ∧ ∃ X, F_X5_takes (nI t) most w = some (0, wi w 35 24 X)) := by
  have hn := hx.2.1
  unfold F_X5_takes
  rw [byteAt5 hx e hp hl, Option.bind_some]
  have e1 : ∀ X : Int32, mi (wi w 35 24 X) 35 24 = X := fun X => by rw [mi_wi, if_pos ⟨rfl, rfl⟩]
  have e2 : ∀ X : Int32, mi (wi w 35 24 X) 35 19 = nI pl := fun X => by rw [mi_wi, if_neg (by decide)]; exact hp
  show (_ ∧ _ ∧ Option.bind (F_X5_in (Int32.toInt64 (mi (wi w 35 24 (btx f n pl - 48)) 35 24)) 0 (Int32.toInt64 most) (wi w 35 24 (btx f n pl - 48))) _ = _) ∨ (_ ∧ ∃ X, Option.bind (F_X5_in (Int32.toInt64 (mi (wi w 35 24 (btx f n pl - 48)) 35 24)) 0 (Int32.toInt64 most) (wi w 35 24 (btx f n pl - 48))) _ = _)
  rw [e1, in5, l_i64, l_i64, show (0 : Int64).toInt = 0 by decide]
  by_cases q : pl < n
  · rw [show btx f n pl = f pl from if_pos q]
    by_cases c : 0 ≤ (f pl - 48).toInt ∧ (f pl - 48).toInt ≤ most.toInt
    · obtain ⟨g1, g2⟩ := fg_in c
      refine Or.inl ⟨q, g2, ?_⟩
      rw [if_pos c, bd1]
      show some ((1 : Int32), wi (wi w 35 24 (f pl - 48)) 35 19 (mi (wi w 35 24 (f pl - 48)) 35 19 + 1)) = _
      rw [e2, nI_1, g1]
    · refine Or.inr ⟨Or.inr (fg_out c), f pl - 48, ?_⟩
      rw [if_neg c]
      rfl
  · rw [show btx f n pl = -1000 from if_neg q]
    refine Or.inr ⟨Or.inl (by omega), -1000 - 48, ?_⟩
    rw [if_neg (fun z => absurd z.1 (by decide))]
    rfl
def RT (w : XM) (it k pl : Nat) (sd : Nat → Int32) : Prop := mi w 35 19 = nI pl ∧ mi w 35 22 = nI (it - 1) ∧ mi w 35 20 = sd 1 ∧ mi w 35 21 = sd 2 ∧ ∀ j, j < 4 * (it - 1) + k → mi w 48 j = sd (4 + j)
/-- it goes not on at q -/
def FL (u : XM) (n : Nat) (R : PR) (o : Option (Int32 × XM)) : Prop := ∃ w' q, o = some (0, w') ∧ EQR u w' ∧ mi w' 35 19 = nI q ∧ q ≤ n ∧ R.1 = nI q
def GO1 (u : XM) (n it : Nat) (f : Nat → Int32) (R : PR) (o : Option (Int32 × XM)) : Prop := ∃ w' m' pl' sd', o = some (1, w') ∧ EQR u w' ∧ pl' + m' = n ∧ RT w' it 0 pl' sd' ∧ R = ps f n m' it 0 pl' sd'
theorem vl_k {it k : Nat} (hi : 1 ≤ it) (hk : 1 ≤ k) (x : Int32) : vl it k x = fg x (if k = 2 then 9 else 7) := by
  unfold vl
  rw [if_neg (by omega), if_neg (by omega)]
  split <;> rfl
theorem rt72 {u : XM} {t n it : Nat} {f : Nat → Int32} (hx : TX u t n f) (h1 : 1 ≤ it) (h6 : it ≤ 6) {K : Int32 → Int32 → Int32 → XM → Option (Int32 × XM)} {k m pl : Nat} {sd : Nat → Int32} {w : XM} (hk : 1 ≤ k) (hk4 : k < 4) (hm : pl + m = n) (e : EQR u w) (hR : RT w it k pl sd) : FL u n (ps f n m it k pl sd) (F_X5_readsThing_72 K (nI t) (nI (4 * (it - 1))) (nI k) (if k = 2 then 9 else 7) (nI t) w) ∨ ∃ m' sd' w', pl + 1 + m' = n ∧ F_X5_readsThing_72 K (nI t) (nI (4 * (it - 1))) (nI k) (if k = 2 then 9 else 7) (nI t) w = K (nI t) (nI (4 * (it - 1))) (nI (k + 1)) w' ∧ EQR u w' ∧ RT w' it (k + 1) (pl + 1) sd' ∧ ps f n m it k pl sd = ps f n m' (if k + 1 = 4 then it + 1 else it) (if k + 1 = 4 then 0 else k + 1) (pl + 1) sd' := by
  have hn := hx.2.1
  obtain ⟨r1, r2, r3, r4, r5⟩ := hR
  unfold F_X5_readsThing_72
  rcases takes5 hx e r1 (by omega) (if k = 2 then 9 else 7) with ⟨c1, c2, c3⟩ | ⟨c1, X, c2⟩
  · right
    obtain ⟨m', rfl⟩ : ∃ m', m = m' + 1 := ⟨m - 1, by omega⟩
    have cv : ¬ vl it k (f pl) = -9 := by rw [vl_k h1 hk]; exact c2
    refine ⟨m', up1 sd (4 * it + k) (vl it k (f pl)), wi (wi (wi w 35 24 (vl it k (f pl))) 35 19 (nI (pl + 1))) 48 (4 * (it - 1) + k) (vl it k (f pl)), by omega, ?_, eqrS48 (eqrS (eqrS e _ (by decide)) _ (by decide)) _ _, ⟨?_, ?_, ?_, ?_, fun j hj => ?_⟩, ?_⟩
    · rw [c3, bd1, nI_add, if_pos (ainN rfl (show 4 * (it - 1) + k < 24 by omega) (by decide)), nI_clamp (by omega), nI_1, vl_k h1 hk]
      rfl
    · rw [xmi_ne (by decide), mi_wi, if_pos ⟨rfl, rfl⟩]
    · rw [xmi_ne (by decide), mi_wi, if_neg (by decide), mi_wi, if_neg (by decide)]; exact r2
    · rw [xmi_ne (by decide), mi_wi, if_neg (by decide), mi_wi, if_neg (by decide), r3]
      unfold up1
      rw [if_neg (by omega)]
    · rw [xmi_ne (by decide), mi_wi, if_neg (by decide), mi_wi, if_neg (by decide), r4]
      unfold up1
      rw [if_neg (by omega)]
    · rw [mi_wi]
      unfold up1
      by_cases z : j = 4 * (it - 1) + k
      · rw [if_pos ⟨rfl, z⟩, if_pos (by omega)]
      · rw [if_neg (fun y => z y.2), if_neg (by omega), xmi_ne (by decide), xmi_ne (by decide)]
        exact r5 j (by omega)
    · rw [ps_s, if_neg (fun z => by omega), if_neg (by omega), if_neg cv, if_neg (show ¬ it = 0 by omega)]
      by_cases z : k + 1 = 4
      · rw [if_pos z, if_pos z, if_pos z]
      · rw [if_neg z, if_neg z, if_neg z]
  · left
    refine ⟨wi w 35 24 X, pl, by rw [c2, bd0], eqrS e _ (by decide), by rw [mi_wi, if_neg (by decide)]; exact r1, by omega, ?_⟩
    cases m with
    | zero =>
      rw [ps_0, if_neg (fun z => by omega)]
      show nI n = nI pl
      rw [show pl = n by omega]
    | succ m =>
      rcases c1 with c1 | c1
      · omega
      · rw [ps_s, if_neg (fun z => by omega), if_neg (by omega), if_pos (by rw [vl_k h1 hk]; exact c1)]
theorem rt51 {u : XM} {t n it : Nat} {f : Nat → Int32} (hx : TX u t n f) (h1 : 1 ≤ it) (h6 : it ≤ 6) : ∀ (j k m pl : Nat) (sd : Nat → Int32) (w : XM), k + j = 4 → 1 ≤ k → pl + m = n → EQR u w → RT w it k pl sd → ∀ fuel, j < fuel → FL u n (ps f n m (if k = 4 then it + 1 else it) (if k = 4 then 0 else k) pl sd) (F_X5_readsThing_51 fuel (nI t) (nI (4 * (it - 1))) (nI k) w) ∨ GO1 u n (it + 1) f (ps f n m (if k = 4 then it + 1 else it) (if k = 4 then 0 else k) pl sd) (F_X5_readsThing_51 fuel (nI t) (nI (4 * (it - 1))) (nI k) w)
  | 0, k, m, pl, sd, w, hk, h1k, hm, e, hR, fuel + 1, _ => by
    obtain ⟨r1, r2, r3, r4, r5⟩ := hR
    right
    rw [if_pos (show k = 4 by omega), if_pos (show k = 4 by omega)]
    refine ⟨wi w 35 22 (nI it), m, pl, sd, ?_, eqrS e _ (by decide), hm, ⟨?_, ?_, ?_, ?_, fun j hj => ?_⟩, rfl⟩
    · unfold F_X5_readsThing_51
      rw [if_pos (show (4 : Int32) ≤ nI k from nI_le (a := 4) (by omega) (by omega)), r2, nI_1, show it - 1 + 1 = it by omega]
    · rw [mi_wi, if_neg (by decide)]; exact r1
    · rw [mi_wi, if_pos ⟨rfl, rfl⟩]; rfl
    · rw [mi_wi, if_neg (by decide)]; exact r3
    · rw [mi_wi, if_neg (by decide)]; exact r4
    · rw [xmi_ne (by decide)]; exact r5 j (by omega)
  | j + 1, k, m, pl, sd, w, hk, h1k, hm, e, hR, fuel + 1, hf => by
    have hn := hx.2.1
    rw [if_neg (show ¬ k = 4 by omega), if_neg (show ¬ k = 4 by omega)]
    have hE : F_X5_readsThing_51 (fuel + 1) (nI t) (nI (4 * (it - 1))) (nI k) w = F_X5_readsThing_72 (F_X5_readsThing_51 fuel) (nI t) (nI (4 * (it - 1))) (nI k) (if k = 2 then 9 else 7) (nI t) w := by
      rw [F_X5_readsThing_51, if_neg (show ¬ (4 : Int32) ≤ nI k from nI_ge (b := 4) (by omega) (by omega))]
      by_cases z : k = 2
      · rw [if_pos (show nI k = 2 by rw [z]; rfl), if_pos z]
      · rw [if_neg (show ¬ nI k = (2 : Int32) from fun y => z (n_inj (b := 2) y (by omega) (by decide))), if_neg z]
    rw [hE]
    rcases rt72 hx h1 h6 (K := F_X5_readsThing_51 fuel) h1k (show k < 4 by omega) hm e hR with c | ⟨m', sd', w', d1, d2, d3, d4, d5⟩
    · exact Or.inl c
    · rw [d2, d5]
      exact rt51 hx h1 h6 j (k + 1) m' (pl + 1) sd' w' (by omega) (by omega) (by omega) d3 d4 fuel (by omega)
