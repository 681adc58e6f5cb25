/-! ===== a deed on both sides ===== -/
def ds1 (ds : Nat → Nat) (n c : Nat) : Nat → Nat := fun j => if j = n then c else ds j
theorem sq_congr {P : CP} {s0 : PS} {ds ds' : Nat → Nat} : ∀ n, (∀ j, j < n → ds' j = ds j) → sq P s0 ds' n = sq P s0 ds n
  | 0, _ => rfl
  | n + 1, h => by
    show actN P (ds' n / 8) (ds' n % 8) (sq P s0 ds' n) = actN P (ds n / 8) (ds n % 8) (sq P s0 ds n)
    rw [sq_congr n (fun j hj => h j (by omega)), h n (by omega)]
theorem sq_ds1 {P : CP} {s0 : PS} {ds : Nat → Nat} {n c j : Nat} (h : j ≤ n) : sq P s0 (ds1 ds n c) j = sq P s0 ds j := sq_congr j (fun i hi => if_neg (by omega))
theorem sq_new {P : CP} {s0 : PS} {ds : Nat → Nat} {n d i : Nat} (hi : i < 8) : sq P s0 (ds1 ds n (8 * d + i)) (n + 1) = actN P d i (sq P s0 ds n) := by
  show actN P (ds1 ds n (8 * d + i) n / 8) (ds1 ds n (8 * d + i) n % 8) _ = _
  rw [sq_ds1 (Nat.le_refl _), show ds1 ds n (8 * d + i) n = 8 * d + i from if_pos rfl, show (8 * d + i) / 8 = d by omega, show (8 * d + i) % 8 = i by omega]
theorem okH_new {P : CP} {s0 : PS} {ds : Nat → Nat} {n d i : Nat} (hi : i < 8) (h : okH P s0 ds n) (hn : n < 40) (hD : okD P (sq P s0 ds n) d i) : okH P s0 (ds1 ds n (8 * d + i)) (n + 1) := by
  refine ⟨by omega, fun j hj => ?_⟩
  rw [sq_ds1 (by omega)]
  by_cases hjn : j = n
  · subst hjn
    rw [show ds1 ds j (8 * d + i) j = 8 * d + i from if_pos rfl, show (8 * d + i) / 8 = d by omega, show (8 * d + i) % 8 = i by omega]
    exact hD
  · rw [show ds1 ds n (8 * d + i) j = ds j from if_neg hjn]
    exact h.2 j (by omega)
/-- what a deed of the class leaves as it was -/
def frC2 (u v : XM) : Prop := (∀ a, a ≠ 22 → a ≠ 25 → a ≠ 28 → mi v a = mi u a) ∧ ml v = ml u
theorem perform4 {u : XM} {P : CP} {s0 : PS} {ds : Nat → Nat} {n : Nat} (hP : okP P) (hS : okS P (sq P s0 ds n)) (hy : (sq P s0 ds n).2.2 ≤ 40) (hC : curC u P (sq P s0 ds n)) (hH : hisC u P s0 ds n) (hn : n < 40) {d i : Nat} (hD : okD P (sq P s0 ds n) d i) : ∃ v, F_X0_perform (nI d) (nI i) u = some ((), v) ∧ curC v P (actN P d i (sq P s0 ds n)) ∧ hisC v P s0 (ds1 ds n (8 * d + i)) (n + 1) ∧ frC2 u v := by
  have hT := hP.1
  have hi8 : i < 8 := by have := hD.2.1; omega
  have hd5 := hD.1
  obtain ⟨b1, b2, b3, b4⟩ := hH
  have e1 : (8 : Int32) * nI d + nI i = nI (8 * d + i) := by rw [show (8 : Int32) = nI 8 from rfl, pk_mul, nI_add]
  have hC2 : curC (wi (wi u 28 n (nI (8 * d + i))) 22 11 (nI n + 1)) P (sq P s0 ds n) := ⟨hC.1, hC.2.1, hC.2.2.1, hC.2.2.2.1, hC.2.2.2.2⟩
  obtain ⟨v, g1, g2, g3⟩ := act4 hC2 hP hS hy hD
  refine ⟨v, ?_, g2, ?_, ?_⟩
  · unfold F_X0_perform
    rw [b3, if_pos (show nI n < (40 : Int32) from nI_lt (b := 40) hn (by decide)), if_pos (ainN rfl hn (by decide)), nI_clamp (by omega), e1, show mi (wi u 28 n (nI (8 * d + i))) 22 11 = nI n from b3, g1]
    rfl
  · refine ⟨fun j hj => ?_, ?_, ?_, fun j hj => ?_⟩
    · rw [g3.1 24 (by omega) (by omega)]; exact b1 j hj
    · rw [g3.2.1 8 (by omega) (by omega)]; exact b2
    · rw [g3.2.1 11 (by omega) (by omega), mi_wi, if_pos ⟨rfl, rfl⟩, nI_1]
    · rw [g3.1 28 (by omega) (by omega), xmi_ne (by decide), mi_wi]
      by_cases hjn : j = n
      · rw [if_pos ⟨rfl, hjn⟩, show ds1 ds n (8 * d + i) j = 8 * d + i from if_pos hjn]
      · rw [if_neg (fun q => hjn q.2), show ds1 ds n (8 * d + i) j = ds j from if_neg hjn]
        exact b4 j (by omega)
  · refine ⟨fun a h1 h2 h3 => ?_, g3.2.2⟩
    rw [g3.1 a h1 h2, xmi_ne h1, xmi_ne h3]
/-! the reference's side -/
theorem wc_s {u : XM} {a p b q i : Nat} (hab : a ≠ b) : wi (wc u a p b q i) b (q + i) (mi (wc u a p b q i) a (p + i)) = wc u a p b q (i + 1) := by
  have h1 : mi (wc u a p b q i) a (p + i) = mi u a (p + i) := by rw [mi_wc, if_neg (fun h => hab h.1)]
  rw [h1]
  have : (fun x j => if x = b ∧ j = q + i then mi u a (p + i) else (wc u a p b q i).1 x j) = (fun x j => if x = b ∧ q ≤ j ∧ j < q + (i + 1) then u.1 a (p + (j - q)) else u.1 x j) := by
    funext x j
    show (if _ then mi u a (p + i) else if x = b ∧ q ≤ j ∧ j < q + i then u.1 a (p + (j - q)) else u.1 x j) = _
    by_cases h2 : x = b ∧ j = q + i
    · rw [if_pos h2, if_pos (by omega), show j - q = i by omega]; rfl
    · rw [if_neg h2]
      by_cases h3 : x = b ∧ q ≤ j ∧ j < q + i
      · rw [if_pos h3, if_pos (by omega)]
      · rw [if_neg h3, if_neg (by omega)]
  show (_, _) = (_, _)
  rw [this]
  rfl
theorem wc_0 (u : XM) (a p b q : Nat) : wc u a p b q 0 = u := by
  have : (fun x j => if x = b ∧ q ≤ j ∧ j < q + 0 then u.1 a (p + (j - q)) else u.1 x j) = u.1 := by
    funext x j
    rw [if_neg (by omega)]
  show (_, _) = u
  rw [this]
theorem copies_l {a b p q m na nb : Nat} {da db : List Nat} (hab : a ≠ b) (ha : YY[a]? = some (0, na, da)) (hb : YY[b]? = some (0, nb, db)) (hp : p + m ≤ na) (hq : q + m ≤ nb) (h1 : na < 2 ^ 30) (h2 : nb < 2 ^ 30) (u : XM) : ∀ (k i : Nat), i + k = m → ∀ fuel, k < fuel → F_X5_copies_3 fuel a (nI p) b (nI q) (nI m) (nI i) (wc u a p b q i) = some ((), wc u a p b q m)
  | 0, i, hi, fuel + 1, _ => by
    unfold F_X5_copies_3
    rw [if_pos (nI_le (by omega) (by omega)), show i = m by omega]
  | k + 1, i, hi, fuel + 1, hf => by
    unfold F_X5_copies_3
    rw [if_neg (nI_ge (by omega) (by omega)), nI_add, nI_add, if_pos (ainN ha (by omega) (by omega)), if_pos (ainN hb (by omega) (by omega)), nI_clamp (by omega), nI_clamp (by omega), wc_s hab, nI_1]
    exact copies_l hab ha hb hp hq h1 h2 u k (i + 1) (by omega) fuel (by omega)
theorem copies5 {a b p q m na nb : Nat} {da db : List Nat} (hab : a ≠ b) (ha : YY[a]? = some (0, na, da)) (hb : YY[b]? = some (0, nb, db)) (hp : p + m ≤ na) (hq : q + m ≤ nb) (h1 : na < 2 ^ 30) (h2 : nb < 2 ^ 30) (hm : m < 1000) (u : XM) : F_X5_copies a (nI p) b (nI q) (nI m) u = some ((), wc u a p b q m) := by
  have := copies_l hab ha hb hp hq h1 h2 u m 0 (by omega) FU hm
  rw [wc_0] at this
  exact this
def rem5 (u : XM) (n : Nat) : XM := wi (wc u 43 0 44 (8 * n) 8) 35 10 (nI (n + 1))
theorem remember5 {u : XM} {n : Nat} (h : mi u 35 10 = nI n) (hn : n < 40) : F_X5_remember u = some ((), rem5 u n) := by
  unfold F_X5_remember
  rw [h, show (8 : Int32) * nI n = nI (8 * n) from pk_mul 8 n, show (0 : Int32) = nI 0 from rfl, show F_X5_copies 43 (nI 0) 44 (nI (8 * n)) 8 u = some ((), wc u 43 0 44 (8 * n) 8) from copies5 (m := 8) (by decide) rfl rfl (show 0 + 8 ≤ 8 by decide) (show 8 * n + 8 ≤ 320 by omega) (by decide) (by decide) (by decide) u, Option.bind_some]
  show some ((), wi (wc u 43 0 44 (8 * n) 8) 35 10 (mi (wc u 43 0 44 (8 * n) 8) 35 10 + 1)) = _
  rw [show mi (wc u 43 0 44 (8 * n) 8) 35 10 = nI n from h, nI_1]
  rfl
theorem rem5_cur {u : XM} {P : CP} {S : PS} {n : Nat} (h : curM u P S) : curM (rem5 u n) P S := h
theorem rem5_his {u : XM} {P : CP} {s0 : PS} {ds : Nat → Nat} {n c : Nat} (hP : okP P) (hM : curM u P (sq P s0 ds n)) (h : hisM u P s0 ds n) : hisM (rem5 u n) P s0 (ds1 ds n c) (n + 1) := by
  have hT := hP.1
  refine ⟨rfl, fun j hj => ?_⟩
  rw [sq_ds1 (by omega)]
  have e : ∀ b, mi (rem5 u n) 44 b = if 8 * n ≤ b ∧ b < 8 * n + 8 then mi u 43 (0 + (b - 8 * n)) else mi u 44 b := fun b => by
    unfold rem5
    rw [xmi_ne (by decide), mi_wc]
    by_cases q : 8 * n ≤ b ∧ b < 8 * n + 8
    · rw [if_pos ⟨rfl, q⟩, if_pos q]
    · rw [if_neg (fun z => q z.2), if_neg q]
  by_cases hjn : j = n
  · subst hjn
    refine ⟨fun i hi => ?_, ?_, ?_⟩
    · rw [e, if_pos (by omega), show 0 + (8 * j + i - 8 * j) = i by omega]; exact (hM.2.2.2.2 i hi).2.2.2
    · rw [e, if_pos (by omega), show 0 + (8 * j + 6 - 8 * j) = 6 by omega]; exact hM.2.2.1
    · rw [e, if_pos (by omega), show 0 + (8 * j + 7 - 8 * j) = 7 by omega]; exact hM.2.2.2.1
  · obtain ⟨g1, g2, g3⟩ := h.2 j (by omega)
    refine ⟨fun i hi => ?_, ?_, ?_⟩
    · rw [e, if_neg (by omega)]; exact g1 i hi
    · rw [e, if_neg (by omega)]; exact g2
    · rw [e, if_neg (by omega)]; exact g3
def frM2 (u v : XM) : Prop := (∀ a, a ≠ 35 → a ≠ 43 → a ≠ 44 → mi v a = mi u a) ∧ (∀ b, b ≠ 10 → mi v 35 b = mi u 35 b) ∧ ml v = ml u
theorem rem5_fr (u : XM) (n : Nat) : frM2 u (rem5 u n) := ⟨fun a h1 h2 h3 => (xmi_ne h1).trans (xmi_wcne h3), fun b hb => by
  unfold rem5
  rw [mi_wi, if_neg (fun q => hb q.2)]
  rfl, rfl⟩
theorem frM2.tr {u v w : XM} (h : frM2 u v) (g : frM v w) : frM2 u w := ⟨fun a h1 h2 h3 => (g.1 a h2).trans (h.1 a h1 h2 h3), fun b hb => by rw [g.1 35 (by decide)]; exact h.2.1 b hb, g.2.trans h.2.2⟩
theorem hisM.fr {u v : XM} {P : CP} {s0 : PS} {ds : Nat → Nat} {n : Nat} (h : hisM u P s0 ds n) (g : frM u v) : hisM v P s0 ds n := by
  unfold hisM snap
  rw [g.1 35 (by decide), g.1 44 (by decide)]
  exact h
/-- both have done a deed -/
theorem REL_deed {u v w : XM} {P : CP} {s0 : PS} {ds : Nat → Nat} {n d i : Nat} (h1 : RROW u) (h2 : RTXT u) (h3 : RFND u) (h4 : RTLD u) (g1 : okP P) (g2 : okS P s0) (g3 : s0.2.2 = 0) (g4 : okH P s0 ds n) (g9 : ∀ k, k < 3 → kep u P s0 k) (hn : n < 40) (hD : okD P (sq P s0 ds n) d i)
    (c1 : curC v P (actN P d i (sq P s0 ds n))) (c2 : hisC v P s0 (ds1 ds n (8 * d + i)) (n + 1)) (c3 : frC2 u v) (m1 : curM w P (actN P d i (sq P s0 ds n))) (m2 : hisM w P s0 (ds1 ds n (8 * d + i)) (n + 1)) (m3 : frM2 v w) : REL w := by
  have hT := g1.1
  have hi8 : i < 8 := by have := hD.2.1; omega
  have e : ∀ a, ¬ (a = 22 ∨ a = 25 ∨ a = 28 ∨ a = 35 ∨ a = 43 ∨ a = 44) → mi w a = mi u a := fun a ha => (m3.1 a (by omega) (by omega) (by omega)).trans (c3.1 a (by omega) (by omega) (by omega))
  have e35 : ∀ b, b ≠ 10 → mi w 35 b = mi u 35 b := fun b hb => (m3.2.1 b hb).trans (by rw [c3.1 35 (by omega) (by omega) (by omega)])
  have el : ml w = ml u := m3.2.2.trans c3.2
  have eC0 : ∀ a, a < 35 → mi w a = mi v a := fun a ha => m3.1 a (by omega) (by omega) (by omega)
  refine ⟨h1.fr (fun a ha => e a (by omega)), h2.fr (fun a ha => e a (by omega)), h3.fr (e 34 (by omega)) (e 47 (by omega)) (by rw [e 0 (by omega)]) (e35 17 (by omega)), h4.fr (by rw [e 0 (by omega)]) (e35 14 (by omega)) (by rw [el]) (by rw [el]), P, s0, ds1 ds n (8 * d + i), n + 1, g1, g2, g3, okH_new hi8 g4 hn hD, ?_, ?_, ?_, m2, fun k hk => ?_⟩
  · rw [sq_new hi8]
    unfold curC
    rw [eC0 22 (by omega), eC0 23 (by omega), eC0 26 (by omega), eC0 27 (by omega), eC0 25 (by omega)]
    exact c1
  · rw [sq_new hi8]; exact m1
  · unfold hisC
    rw [eC0 24 (by omega), eC0 22 (by omega), eC0 28 (by omega)]
    exact c2
  · have := g9 k hk
    unfold kep snap at this ⊢
    rw [e 19 (by omega), e 46 (by omega), e (16 + k) (by omega), e 45 (by omega)]
    exact this
