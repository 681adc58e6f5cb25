/-! ===== what a state is: the canal by numbers, what was done, and how both sides hold it ===== -/
/-- how many things, the flow; kinds, weights, gates -/
abbrev CP : Type := Nat × Nat × (Nat → Nat) × (Nat → Nat) × (Nat → Nat)
def pT (P : CP) : Nat := P.1
def pF (P : CP) : Nat := P.2.1
def pK (P : CP) : Nat → Nat := P.2.2.1
def pW (P : CP) : Nat → Nat := P.2.2.2.1
def pG (P : CP) : Nat → Nat := P.2.2.2.2
/-- cells (8: taken), the level, the year -/
abbrev PS : Type := (Nat → Nat) × Nat × Nat
/-- a cell as an int -/
def eC (c : Nat) : Int32 := if c = 8 then -9 else nI c
/-- where a thing lies a year later -/
def nx (lv fl k w y c : Nat) : Nat :=
  if lv = 0 then c else
  match k with
  | 1 => min 7 (c + (if w < fl then 1 else 0) + 1)
  | 2 => c
  | 3 => if y % 2 = 0 then min 7 (c + (if w < fl then 1 else 0)) else c
  | 4 => c - ((if w < fl then 1 else 0) + 1)
  | 5 => min 7 (c + y % 2)
  | _ => min 7 (c + (if w < fl then 1 else 0))
def actN (P : CP) (d i : Nat) (s : PS) : PS := match d with
  | 0 => (fun j => if s.1 j = 8 then 8 else nx s.2.1 (pF P) (pK P j) (pW P j) s.2.2 (s.1 j), s.2.1, s.2.2 + 1)
  | 1 => (s.1, s.2.1 - 2, s.2.2)
  | 2 => (s.1, min 9 (s.2.1 + 3), s.2.2)
  | 3 => (fun j => if j = i then s.1 j + 1 else s.1 j, s.2.1, s.2.2)
  | 4 => (fun j => if j = i then s.1 j - 1 else s.1 j, s.2.1, s.2.2)
  | 5 => (fun j => if j = i then 8 else s.1 j, s.2.1, s.2.2)
  | _ => s
def sq (P : CP) (s0 : PS) (ds : Nat → Nat) : Nat → PS
  | 0 => s0
  | n + 1 => actN P (ds n / 8) (ds n % 8) (sq P s0 ds n)
def okP (P : CP) : Prop := pT P ≤ 6 ∧ pF P ≤ 9 ∧ ∀ i, i < pT P → pK P i ≤ 5 ∧ pW P i ≤ 9 ∧ pG P i ≤ 7
def okS (P : CP) (S : PS) : Prop := (∀ i, i < pT P → S.1 i ≤ 8) ∧ S.2.1 ≤ 9
/-- a deed that can be -/
def okD (P : CP) (S : PS) (d i : Nat) : Prop := d ≤ 5 ∧ i < pT P ∧ (d = 3 → S.1 i < 7) ∧ (d = 4 → 1 ≤ S.1 i ∧ S.1 i ≤ 7) ∧ (d = 5 → S.1 i ≤ 7)
def okH (P : CP) (s0 : PS) (ds : Nat → Nat) (n : Nat) : Prop := n ≤ 40 ∧ (∀ j, j < n → okD P (sq P s0 ds j) (ds j / 8) (ds j % 8))
/-- the canal now, on the class' side, on the reference's -/
def curC (u : XM) (P : CP) (S : PS) : Prop := mi u 22 6 = nI (pT P) ∧ mi u 22 7 = nI (pF P) ∧ mi u 22 9 = nI S.2.1 ∧ mi u 22 10 = nI S.2.2 ∧ ∀ i, i < pT P → mi u 23 i = nI (pK P i) ∧ mi u 26 i = nI (pW P i) ∧ mi u 27 i = nI (pG P i) ∧ mi u 25 i = eC (S.1 i)
def curM (u : XM) (P : CP) (S : PS) : Prop := mi u 35 4 = nI (pT P) ∧ mi u 35 5 = nI (pF P) ∧ mi u 43 6 = nI S.2.1 ∧ mi u 43 7 = nI S.2.2 ∧ ∀ i, i < pT P → mi u 40 i = nI (pK P i) ∧ mi u 41 i = nI (pW P i) ∧ mi u 42 i = nI (pG P i) ∧ mi u 43 i = eC (S.1 i)
/-- a state kept in a row of ints, from place b on -/
def snap (u : XM) (a b : Nat) (P : CP) (S : PS) : Prop := (∀ i, i < pT P → mi u a (b + i) = eC (S.1 i)) ∧ mi u a (b + 6) = nI S.2.1 ∧ mi u a (b + 7) = nI S.2.2
def hisC (u : XM) (P : CP) (s0 : PS) (ds : Nat → Nat) (n : Nat) : Prop := (∀ i, i < pT P → mi u 24 i = eC (s0.1 i)) ∧ mi u 22 8 = nI s0.2.1 ∧ mi u 22 11 = nI n ∧ ∀ j, j < n → mi u 28 j = nI (ds j)
def hisM (u : XM) (P : CP) (s0 : PS) (ds : Nat → Nat) (n : Nat) : Prop := mi u 35 10 = nI n ∧ ∀ j, j < n → snap u 44 (8 * j) P (sq P s0 ds j)
def kep (u : XM) (P : CP) (s0 : PS) (k : Nat) : Prop :=
  (mi u 19 k = -1 ∧ mi u 46 k = 0) ∨ ∃ (ds : Nat → Nat) (n : Nat), okH P s0 ds n ∧ mi u 19 k = nI n ∧ mi u 46 k = 1 ∧ (∀ j, j < n → mi u (16 + k) j = nI (ds j)) ∧ mi u 45 (329 * k + 328) = nI n ∧ snap u 45 (329 * k) P (sq P s0 ds n) ∧ ∀ j, j < n → snap u 45 (329 * k + 8 + 8 * j) P (sq P s0 ds j)
def RROW (u : XM) : Prop := ∀ r, r < 6 → mi u 8 r = mi u 36 r ∧ (mi u 8 r = -1 ∨ ∃ n, n ≤ 40 ∧ mi u 8 r = nI n ∧ ∀ i, i < n → mi u (2 + r) i = mi u 37 (40 * r + i))
def RTXT (u : XM) : Prop := ∀ t, t < 4 → mi u 14 t = mi u 38 t ∧ (mi u 14 t = -1 ∨ ∃ n, n ≤ 60 ∧ mi u 14 t = nI n ∧ ∀ i, i < n → mi u (10 + t) i = mi u 39 (60 * t + i))
def RFND (u : XM) : Prop := mi u 0 11 = mi u 35 17 ∧ ∀ f, f < 6 → mi u 34 f = mi u 47 f
def RTLD (u : XM) : Prop := mi u 0 12 = mi u 35 14 ∧ ml u 0 13 = ml u 35 15 ∧ ml u 0 14 = ml u 35 16
def RCAN (u : XM) : Prop := ∃ (P : CP) (s0 : PS) (ds : Nat → Nat) (n : Nat), okP P ∧ okS P s0 ∧ s0.2.2 = 0 ∧ okH P s0 ds n ∧ curC u P (sq P s0 ds n) ∧ curM u P (sq P s0 ds n) ∧ hisC u P s0 ds n ∧ hisM u P s0 ds n ∧ ∀ k, k < 3 → kep u P s0 k
def REL (u : XM) : Prop := RROW u ∧ RTXT u ∧ RFND u ∧ RTLD u ∧ RCAN u
/-- both answer the same, and the relation holds behind -/
def PRI (f g : XM → Option (Int32 × XM)) (u : XM) : Prop := ∃ (r : Int32) (u1 u2 : XM), f u = some (r, u1) ∧ g u1 = some (r, u2) ∧ REL u2
def PRL (f g : XM → Option (Int64 × XM)) (u : XM) : Prop := ∃ (r : Int64) (u1 u2 : XM), f u = some (r, u1) ∧ g u1 = some (r, u2) ∧ REL u2
/-- the places that the relation speaks of are the same -/
def EQR (u v : XM) : Prop := (∀ a, (2 ≤ a ∧ a ≤ 8 ∨ 10 ≤ a ∧ a ≤ 14 ∨ 16 ≤ a ∧ a ≤ 19 ∨ 22 ≤ a ∧ a ≤ 28 ∨ a = 34 ∨ 36 ≤ a ∧ a ≤ 47) → mi v a = mi u a) ∧ mi v 0 11 = mi u 0 11 ∧ mi v 0 12 = mi u 0 12 ∧ ml v 0 = ml u 0 ∧ mi v 35 4 = mi u 35 4 ∧ mi v 35 5 = mi u 35 5 ∧ mi v 35 10 = mi u 35 10 ∧ mi v 35 14 = mi u 35 14 ∧ mi v 35 17 = mi u 35 17 ∧ ml v 35 = ml u 35
theorem EQR.rf (u : XM) : EQR u u := ⟨fun _ _ => rfl, rfl, rfl, rfl, rfl, rfl, rfl, rfl, rfl, rfl⟩
theorem EQR.tr {u v w : XM} (h : EQR u v) (h2 : EQR v w) : EQR u w := by
  obtain ⟨a0, a1, a2, a3, a4, a5, a6, a7, a8, a9⟩ := h
  obtain ⟨b0, b1, b2, b3, b4, b5, b6, b7, b8, b9⟩ := h2
  exact ⟨fun a ha => (b0 a ha).trans (a0 a ha), b1.trans a1, b2.trans a2, b3.trans a3, b4.trans a4, b5.trans a5, b6.trans a6, b7.trans a7, b8.trans a8, b9.trans a9⟩
/-- a write into a scratch cell -/
theorem EQR.wi {u v : XM} (h : EQR u v) (k j : Nat) (x : Int32) (hk : ¬ (2 ≤ k ∧ k ≤ 8 ∨ 10 ≤ k ∧ k ≤ 14 ∨ 16 ≤ k ∧ k ≤ 19 ∨ 22 ≤ k ∧ k ≤ 28 ∨ k = 34 ∨ 36 ≤ k ∧ k ≤ 47)) (h0 : k = 0 → j ≠ 11 ∧ j ≠ 12) (h35 : k = 35 → j ≠ 4 ∧ j ≠ 5 ∧ j ≠ 10 ∧ j ≠ 14 ∧ j ≠ 17) : EQR u (wi v k j x) := by
  refine h.tr ⟨fun a ha => xmi_ne (fun q => hk (q ▸ ha)), ?_, ?_, rfl, ?_, ?_, ?_, ?_, ?_, rfl⟩ <;>
  · rw [mi_wi, if_neg]
    rintro ⟨e1, e2⟩
    first
    | (have := h0 e1.symm; omega)
    | (have := h35 e1.symm; omega)
theorem curC.eqr {u v : XM} {P : CP} {S : PS} (h : curC u P S) (e : EQR u v) : curC v P S := by
  obtain ⟨a0, -⟩ := e
  unfold curC
  rw [a0 22 (by omega), a0 23 (by omega), a0 26 (by omega), a0 27 (by omega), a0 25 (by omega)]
  exact h
theorem curM.eqr {u v : XM} {P : CP} {S : PS} (h : curM u P S) (e : EQR u v) : curM v P S := by
  obtain ⟨a0, a1, a2, a3, a4, a5, a6, a7, a8, a9⟩ := e
  unfold curM
  rw [a4, a5, a0 43 (by omega), a0 40 (by omega), a0 41 (by omega), a0 42 (by omega)]
  exact h
theorem REL.eqr {u v : XM} (h : REL u) (e : EQR u v) : REL v := by
  obtain ⟨h1, h2, h3, h4, P, s0, ds, n, g1, g2, g3, g4, g5, g6, g7, g8, g9⟩ := h
  have e0 := e
  obtain ⟨a0, a1, a2, a3, a4, a5, a6, a7, a8, a9⟩ := e
  refine ⟨fun r hr => ?_, fun t ht => ?_, ?_, ?_, P, s0, ds, n, g1, g2, g3, g4, g5.eqr e0, g6.eqr e0, ?_, ?_, fun k hk => ?_⟩
  · rw [a0 8 (by omega), a0 36 (by omega), a0 (2 + r) (by omega), a0 37 (by omega)]; exact h1 r hr
  · rw [a0 14 (by omega), a0 38 (by omega), a0 (10 + t) (by omega), a0 39 (by omega)]; exact h2 t ht
  · unfold RFND; rw [a1, a8, a0 34 (by omega), a0 47 (by omega)]; exact h3
  · unfold RTLD; rw [a2, a7, a3, a9]; exact h4
  · unfold hisC; rw [a0 24 (by omega), a0 22 (by omega), a0 28 (by omega)]; exact g7
  · unfold hisM snap; rw [a6, a0 44 (by omega)]; exact g8
  · have := g9 k hk
    unfold kep snap at this ⊢
    rw [a0 19 (by omega), a0 46 (by omega), a0 (16 + k) (by omega), a0 45 (by omega)]
    exact this
