/-! ===== by turns ===== -/
def mmI (e : Bool) (a b : Int32) : Int32 := if e = true then (if a < b then b else a) else (if b < a then b else a)
def cst (e : Bool) (f : Nat → Int32) (c : Nat) : Int32 :=
  if c < 7 then mmI e (if 1 ≤ c then mmI e (f c) (f (c - 1)) else f c) (f (c + 1)) else (if 1 ≤ c then mmI e (f c) (f (c - 1)) else f c)
def oN (g o : Nat) : Nat → Nat → Int32
  | 0, c => nI ((c - g) + (g - c)) - nI ((c - o) + (o - c))
  | L + 1, c => cst (decide ((L + 1) % 2 = 0)) (oN g o L) c
theorem out45_s {kR : Int32 → Int32 → Int32 → Int32 → XM → Option (Int32 × XM)} {g o L : Nat} {f : Nat → Int32} {u : XM} (hk : ∀ c, c ≤ 7 → kR (nI c) (nI g) (nI o) (nI L) u = some (f c, u)) {c s : Nat} (hc : c ≤ 7) (hs : s < 2) (e : Bool) (b : Int32) (fuel : Nat) : F_X4_outcome_45 kR (fuel + 1) (nI c) (nI g) (nI o) (nI (L + 1)) (if e = true then 1 else 0) b (mby s) u = F_X4_outcome_45 kR fuel (nI c) (nI g) (nI o) (nI (L + 1)) (if e = true then 1 else 0) (if (if s = 1 then c < 7 else 1 ≤ c ∧ c ≤ 7) then mmI e b (f (if s = 1 then c + 1 else c - 1)) else b) (mby s + 2) u := by
  have hm : ¬ (1 : Int32) < mby s := by
    have : s = 0 ∨ s = 1 := by omega
    rcases this with rfl | rfl <;> decide
  have hc2 := mcell s hs c (by omega)
  rw [F_X4_outcome_45]
  rw [if_neg hm, isCell4]
  unfold F_X4_outcome_102 F_X4_outcome_100 F_X4_outcome_102
  by_cases q : (if s = 1 then c < 7 else 1 ≤ c ∧ c ≤ 7)
  · rw [if_pos (hc2.mpr q), bd1, if_pos q, madd s hs c (by omega) q, show nI (L + 1) - 1 = nI L from nI_pred L]
    have hq : (if s = 1 then c + 1 else c - 1) ≤ 7 := by
      split
      · rw [if_pos (by assumption)] at q; omega
      · omega
    show Option.bind (kR (nI _) (nI g) (nI o) (nI L) u) _ = _
    rw [hk _ hq, Option.bind_some]
    unfold mmI
    cases e
    · rw [if_pos (show (if false = true then (1 : Int32) else 0) = 0 by decide), min4, Option.bind_some]
      rfl
    · rw [if_neg (show ¬ (if true = true then (1 : Int32) else 0) = 0 by decide), max4, Option.bind_some]
      rfl
  · rw [if_neg (fun z => q (hc2.mp z)), bd0, if_neg q]
theorem out45 {kR : Int32 → Int32 → Int32 → Int32 → XM → Option (Int32 × XM)} {g o L : Nat} {f : Nat → Int32} {u : XM} (hk : ∀ c, c ≤ 7 → kR (nI c) (nI g) (nI o) (nI L) u = some (f c, u)) {c : Nat} (hc : c ≤ 7) (e : Bool) : F_X4_outcome_45 kR FU (nI c) (nI g) (nI o) (nI (L + 1)) (if e = true then 1 else 0) (f c) (-1) u = some (cst e f c, u) := by
  show F_X4_outcome_45 kR (999 + 1) (nI c) (nI g) (nI o) (nI (L + 1)) (if e = true then 1 else 0) (f c) (mby 0) u = _
  rw [out45_s hk hc (by decide) e]
  show F_X4_outcome_45 kR (998 + 1) (nI c) (nI g) (nI o) (nI (L + 1)) (if e = true then 1 else 0) _ (mby 1) u = _
  rw [out45_s hk hc (by decide) e]
  show F_X4_outcome_45 kR (997 + 1) (nI c) (nI g) (nI o) (nI (L + 1)) (if e = true then 1 else 0) _ 3 u = _
  rw [F_X4_outcome_45, if_pos (by decide)]
  unfold cst
  congr 2
  show (if c < 7 then mmI e (if 1 ≤ c ∧ c ≤ 7 then _ else _) (f (c + 1)) else (if 1 ≤ c ∧ c ≤ 7 then _ else _)) = _
  by_cases h1 : 1 ≤ c
  · rw [if_pos (show 1 ≤ c ∧ c ≤ 7 from ⟨h1, hc⟩), if_pos h1]; rfl
  · rw [if_neg (show ¬ (1 ≤ c ∧ c ≤ 7) from fun z => h1 z.1), if_neg h1]
theorem outcome4 (u : XM) {g o : Nat} (hg : g < 8) (ho : o < 8) : ∀ (L c fuel : Nat), L ≤ 6 → c ≤ 7 → L < fuel → F_X4_outcome fuel (nI c) (nI g) (nI o) (nI L) u = some (oN g o L c, u)
  | 0, c, fuel + 1, hL, hc, hf => by
    unfold F_X4_outcome B_X4_outcome
    rw [if_neg (show ¬ (0 : Int32) < nI 0 by decide), abs4 u (by omega) hg, Option.bind_some]
    show Option.bind (F_J9_abs_0f7a4 YY (nI c - nI o) u) _ = _
    rw [abs4 u (by omega) ho]
    rfl
  | L + 1, c, fuel + 1, hL, hc, hf => by
    have ih := fun c' hc' => outcome4 u hg ho L c' fuel (by omega) hc' (by omega)
    unfold F_X4_outcome B_X4_outcome
    rw [if_pos (show (0 : Int32) < nI (L + 1) from nI_lt (a := 0) (by omega) (by omega)), n_rem2 (by omega)]
    have key : ∀ e : Bool, F_X4_outcome_29 (F_X4_outcome fuel) (nI c) (nI g) (nI o) (nI (L + 1)) (if e = true then 1 else 0) u = some (cst e (oN g o L) c, u) := fun e => by
      unfold F_X4_outcome_29
      rw [show nI (L + 1) - 1 = nI L from nI_pred L, ih c hc, Option.bind_some]
      exact out45 ih hc e
    unfold oN
    by_cases q : (L + 1) % 2 = 0
    · rw [if_pos (by rw [q]; rfl), decide_eq_true q]
      exact key true
    · rw [if_neg (nI_ne0 (by omega) (by omega)), decide_eq_false q]
      exact key false
/-! the reference's side -/
def mst (e : Bool) (f : Nat → Int32) (c : Nat) : Int32 :=
  if e = true then (if f (c - 1) ≤ (if f (min 7 (c + 1)) ≤ f c then f c else f (min 7 (c + 1))) then (if f (min 7 (c + 1)) ≤ f c then f c else f (min 7 (c + 1))) else f (c - 1))
  else (if (if f c ≤ f (min 7 (c + 1)) then f c else f (min 7 (c + 1))) ≤ f (c - 1) then (if f c ≤ f (min 7 (c + 1)) then f c else f (min 7 (c + 1))) else f (c - 1))
theorem mst_cst (e : Bool) (f : Nat → Int32) {c : Nat} (hc : c ≤ 7) : mst e f c = cst e f c := by
  have ext : ∀ a b : Int32, a.toInt = b.toInt → a = b := fun a b h => Int32.toInt_inj.mp h
  unfold mst cst mmI
  by_cases h7 : c < 7
  · rw [Nat.min_eq_right (show c + 1 ≤ 7 by omega), if_pos h7]
    by_cases h1 : 1 ≤ c
    · rw [if_pos h1]
      generalize f c = a
      generalize f (c + 1) = b
      generalize f (c - 1) = d
      cases e
      · simp only [Bool.false_eq_true, if_false]
        apply ext
        repeat' split
        all_goals simp only [i_lt, i_le] at *
        all_goals omega
      · simp only [if_true]
        apply ext
        repeat' split
        all_goals simp only [i_lt, i_le] at *
        all_goals omega
    · rw [if_neg h1, show c - 1 = c by omega]
      generalize f c = a
      generalize f (c + 1) = b
      cases e
      · simp only [Bool.false_eq_true, if_false]
        apply ext
        repeat' split
        all_goals simp only [i_lt, i_le] at *
        all_goals omega
      · simp only [if_true]
        apply ext
        repeat' split
        all_goals simp only [i_lt, i_le] at *
        all_goals omega
  · rw [show min 7 (c + 1) = c by omega, if_neg h7, if_pos (show 1 ≤ c by omega)]
    generalize f c = a
    generalize f (c - 1) = d
    cases e
    · simp only [Bool.false_eq_true, if_false]
      apply ext
      repeat' split
      all_goals simp only [i_lt, i_le] at *
      all_goals omega
    · simp only [if_true]
      apply ext
      repeat' split
      all_goals simp only [i_lt, i_le] at *
      all_goals omega
