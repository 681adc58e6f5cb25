/-! ===== the small language: items, parts ===== -/
abbrev PR : Type := Int32 × Nat × (Nat → Int32)
def up1 (sd : Nat → Int32) (k : Nat) (v : Int32) : Nat → Int32 := fun j => if j = k then v else sd j
def fg (x most : Int32) : Int32 := if x - 48 < 0 then -9 else if most < x - 48 then -9 else x - 48
def kd (x : Int32) : Int32 := if x = 116 then 0 else if x = 114 then 1 else if x = 115 then 2 else if x = 98 then 3 else if x = 100 then 4 else if x = 99 then 5 else -9
/-- what a sign says as this part of this item; -9: nothing -/
def vl (it pt : Nat) (x : Int32) : Int32 := if it = 0 then (if pt = 0 then (if x = 102 then 0 else -9) else fg x 9) else (if pt = 0 then kd x else if pt = 2 then fg x 9 else fg x 7)
def ps (f : Nat → Int32) (n : Nat) : Nat → Nat → Nat → Nat → (Nat → Int32) → PR
  | 0, it, pt, _, sd => if pt = 0 ∧ 2 ≤ it then (-9, it, sd) else (nI n, it, sd)
  | m + 1, it, pt, pl, sd => if pt = 0 ∧ f pl = 32 then ps f n m it pt (pl + 1) sd else if 6 < it then (nI pl, it, sd) else if vl it pt (f pl) = -9 then (nI pl, it, sd) else if pt + 1 = (if it = 0 then 3 else 4) then ps f n m (it + 1) 0 (pl + 1) (up1 sd (4 * it + pt) (vl it pt (f pl))) else ps f n m it (pt + 1) (pl + 1) (up1 sd (4 * it + pt) (vl it pt (f pl)))
theorem ps_0 (f : Nat → Int32) (n it pt pl : Nat) (sd : Nat → Int32) : ps f n 0 it pt pl sd = if pt = 0 ∧ 2 ≤ it then (-9, it, sd) else (nI n, it, sd) := rfl
theorem ps_s (f : Nat → Int32) (n m it pt pl : Nat) (sd : Nat → Int32) : ps f n (m + 1) it pt pl sd = if pt = 0 ∧ f pl = 32 then ps f n m it pt (pl + 1) sd else if 6 < it then (nI pl, it, sd) else if vl it pt (f pl) = -9 then (nI pl, it, sd) else if pt + 1 = (if it = 0 then 3 else 4) then ps f n m (it + 1) 0 (pl + 1) (up1 sd (4 * it + pt) (vl it pt (f pl))) else ps f n m it (pt + 1) (pl + 1) (up1 sd (4 * it + pt) (vl it pt (f pl))) := rfl
/-! the class' side -/
def st21 (u : XM) (sd : Nat → Int32) : XM := (fun a j => if a = 21 then sd j else u.1 a j, u.2)
theorem mi_st (u : XM) (sd : Nat → Int32) (a j : Nat) : mi (st21 u sd) a j = if a = 21 then sd j else mi u a j := rfl
theorem xmi_st {u : XM} {sd : Nat → Int32} {a : Nat} (h : a ≠ 21) : mi (st21 u sd) a = mi u a := by
  funext j
  rw [mi_st, if_neg h]
theorem wi_st (u : XM) (sd : Nat → Int32) (k : Nat) (v : Int32) : wi (st21 u sd) 21 k v = st21 u (up1 sd k v) := xm_ext (fun a b => by
  rw [mi_wi, mi_st, mi_st]
  unfold up1
  by_cases h : a = 21
  · rw [if_pos h, if_pos h]
    by_cases q : b = k
    · rw [if_pos ⟨h, q⟩, if_pos q]
    · rw [if_neg (fun z => q z.2), if_neg q]
  · rw [if_neg h, if_neg h, if_neg (fun z => h z.1)]) (fun a b => rfl)
theorem st_0 (u : XM) : st21 u (mi u 21) = u := xm_ext (fun a b => by
  rw [mi_st]
  by_cases h : a = 21
  · rw [if_pos h, h]
  · rw [if_neg h]) (fun a b => rfl)
theorem tsw_map {u : XM} (x z : Int32) : ∀ (l : List Int32) (k : Int), tsw x k (l.map (fun v => some (v, u))) (some (z, u)) = some (tsw x k l z, u)
  | [], k => rfl
  | a :: l, k => by
    show (if x.toInt = k then some (a, u) else tsw x (k + 1) (l.map (fun v => some (v, u))) (some (z, u))) = some (if x.toInt = k then a else tsw x (k + 1) l z, u)
    rw [tsw_map x z l (k + 1)]
    split <;> rfl
theorem kd_in : ∀ j, j < 117 → 98 ≤ j → tsw (nI j) 98 [3, 5, 4, -9, -9, -9, -9, -9, -9, -9, -9, -9, -9, -9, -9, -9, 1, 2, 0] (-9 : Int32) = kd (nI j) := by decide +kernel
theorem kind4 (x : Int32) (u : XM) : F_X3_kindOfLetter x u = some (kd x, u) := by
  unfold F_X3_kindOfLetter
  show tsw x 98 (List.map (fun v => some (v, u)) [3, 5, 4, -9, -9, -9, -9, -9, -9, -9, -9, -9, -9, -9, -9, -9, 1, 2, 0]) (some (-9, u)) = _
  rw [tsw_map]
  by_cases h : 98 ≤ x.toInt ∧ x.toInt < 117
  · obtain ⟨j, hj, rfl⟩ := i_nat (v := x) (n := 117) (by omega) (by decide)
    rw [nI_toInt (by omega)] at h
    rw [kd_in j hj (by omega)]
  · rw [tsw_out x _ _ _ (by show x.toInt < 98 ∨ 98 + (19 : Int) ≤ x.toInt; omega)]
    unfold kd
    have e : ∀ k : Nat, 98 ≤ k → k < 117 → ¬ x = nI k := fun k h1 h2 z => by
      rw [z, nI_toInt (by omega)] at h
      omega
    rw [if_neg (show ¬ x = (116 : Int32) from e 116 (by decide) (by decide)), if_neg (show ¬ x = (114 : Int32) from e 114 (by decide) (by decide)), if_neg (show ¬ x = (115 : Int32) from e 115 (by decide) (by decide)), if_neg (show ¬ x = (98 : Int32) from e 98 (by decide) (by decide)), if_neg (show ¬ x = (100 : Int32) from e 100 (by decide) (by decide)), if_neg (show ¬ x = (99 : Int32) from e 99 (by decide) (by decide))]
theorem fig4 (x most : Int32) (u : XM) : F_X3_figure x most u = some (fg x most, u) := by
  unfold F_X3_figure fg
  by_cases h1 : x - 48 < 0
  · rw [if_pos h1, if_pos h1]
  · rw [if_neg h1, if_neg h1]
    by_cases h2 : most < x - 48
    · rw [if_pos h2, if_pos h2]
    · rw [if_neg h2, if_neg h2]
theorem head4 {pt : Nat} (hp : pt < 4) (x : Int32) (u : XM) : F_X3_headPart (nI pt) x u = some (vl 0 pt x, u) := by
  unfold F_X3_headPart vl
  rw [if_pos rfl, fig4, Option.bind_some]
  by_cases h : pt = 0
  · subst h
    rw [if_pos (show nI 0 = 0 from rfl), if_pos rfl]
    split <;> rfl
  · rw [if_neg (nI_ne0 (by omega) (by omega)), if_neg h]
theorem thing4 {it pt : Nat} (hi : it ≠ 0) (hp : pt < 4) (x : Int32) (u : XM) : F_X3_thingPart (nI pt) x u = some (vl it pt x, u) := by
  unfold F_X3_thingPart F_X3_thingPart_22 vl
  rw [if_neg hi, kind4, fig4, fig4, Option.bind_some, Option.bind_some, Option.bind_some]
  by_cases h : pt = 0
  · subst h
    rw [if_pos (show nI 0 = 0 from rfl), if_pos rfl]
  · rw [if_neg (nI_ne0 (by omega) (by omega)), if_neg h]
    by_cases h2 : pt = 2
    · subst h2
      rw [if_pos (show nI 2 = 2 from rfl), if_pos rfl]
    · rw [if_neg (show ¬ nI pt = (2 : Int32) from fun z => h2 (n_inj (b := 2) z (by omega) (by decide))), if_neg h2]
theorem f72 {K : Nat → Int32 → Int32 → Int32 → Int32 → XM → Option (Int32 × XM)} {v1 it pt pl : Nat} {v2 : Int32} (hi : it ≤ 6) (hp : pt < 4) (v : Int32) (u : XM) (sd : Nat → Int32) : F_X3_firstFault_72 K v1 v2 (nI it) (nI pt) (nI pl) v (st21 u sd) = if v = -9 then some (nI pl, st21 u sd) else if pt + 1 = (if it = 0 then 3 else 4) then K v1 v2 (nI (it + 1)) 0 (nI (pl + 1)) (st21 u (up1 sd (4 * it + pt) v)) else K v1 v2 (nI it) (nI (pt + 1)) (nI (pl + 1)) (st21 u (up1 sd (4 * it + pt) v)) := by
  unfold F_X3_firstFault_72 F_X3_firstFault_111 F_X3_firstFault_120
  by_cases h : v = -9
  · rw [if_pos h, if_pos h]
  · rw [if_neg h, if_neg h, show (4 : Int32) * nI it = nI (4 * it) from pk_mul 4 it, nI_add, if_pos (ainN rfl (show 4 * it + pt < 28 by omega) (by decide)), nI_clamp (by omega), wi_st, nI_1, nI_1, nI_1]
    by_cases h0 : it = 0
    · rw [if_pos (show nI it = 0 by rw [h0]; rfl), if_pos h0]
      by_cases q : pt + 1 = 3
      · rw [if_pos (show nI (pt + 1) = 3 by rw [q]; rfl), if_pos q]
      · rw [if_neg (show ¬ nI (pt + 1) = (3 : Int32) from fun z => q (n_inj (b := 3) z (by omega) (by decide))), if_neg q]
    · rw [if_neg (show ¬ nI it = 0 from nI_ne0 (by omega) (by omega)), if_neg h0]
      by_cases q : pt + 1 = 4
      · rw [if_pos (show nI (pt + 1) = 4 by rw [q]; rfl), if_pos q]
      · rw [if_neg (show ¬ nI (pt + 1) = (4 : Int32) from fun z => q (n_inj (b := 4) z (by omega) (by decide))), if_neg q]
theorem f42 {K : Nat → Int32 → Int32 → Int32 → Int32 → XM → Option (Int32 × XM)} {v1 it pt pl : Nat} {v2 : Int32} (hi : it ≤ 7) (hp : pt < 4) (x : Int32) (u : XM) (sd : Nat → Int32) : F_X3_firstFault_42 K v1 v2 (nI it) (nI pt) (nI pl) x (st21 u sd) = if 6 < it then some (nI pl, st21 u sd) else if vl it pt x = -9 then some (nI pl, st21 u sd) else if pt + 1 = (if it = 0 then 3 else 4) then K v1 v2 (nI (it + 1)) 0 (nI (pl + 1)) (st21 u (up1 sd (4 * it + pt) (vl it pt x))) else K v1 v2 (nI it) (nI (pt + 1)) (nI (pl + 1)) (st21 u (up1 sd (4 * it + pt) (vl it pt x))) := by
  unfold F_X3_firstFault_42
  by_cases h6 : 6 < it
  · rw [if_neg (show ¬ nI it ≤ (6 : Int32) from nI_ge (a := 6) h6 (by omega)), if_pos h6]
  · rw [if_pos (show nI it ≤ (6 : Int32) from nI_le (b := 6) (by omega) (by omega)), if_neg h6]
    by_cases h0 : it = 0
    · rw [if_pos (show nI it = 0 by rw [h0]; rfl), head4 hp, Option.bind_some]
      have := f72 (K := K) (v1 := v1) (pl := pl) (v2 := v2) (show it ≤ 6 by omega) hp (vl 0 pt x) u sd
      rw [h0] at this ⊢
      exact this
    · rw [if_neg (show ¬ nI it = 0 from nI_ne0 (by omega) (by omega)), thing4 h0 hp, Option.bind_some]
      exact f72 (by omega) hp _ u sd
def u1C (u : XM) (R : PR) : XM := if R.1 = -9 then wi (st21 u R.2.2) 20 1 (nI (R.2.1 - 1)) else st21 u R.2.2
theorem ff_l {t n : Nat} (ht : t < 4) (hn : n ≤ 60) (u : XM) : ∀ (m it pt pl : Nat) (sd : Nat → Int32), pl + m = n → it ≤ 7 → pt < 4 → (it = 0 → pt < 3) → ∀ fuel, m < fuel → F_X3_firstFault_8 fuel (10 + t) (nI n) (nI it) (nI pt) (nI pl) (st21 u sd) = some ((ps (mi u (10 + t)) n m it pt pl sd).1, u1C u (ps (mi u (10 + t)) n m it pt pl sd))
  | 0, it, pt, pl, sd, hm, hi, hp, hz, fuel + 1, _ => by
    rw [F_X3_firstFault_8, if_pos (nI_le (by omega) (by omega))]
    unfold F_X3_firstFault_126
    rw [ps_0]
    have nn : ¬ nI n = -9 := n_neg9 (by omega)
    by_cases h0 : pt = 0
    · rw [if_pos (show nI pt = 0 by rw [h0]; rfl)]
      by_cases h2 : 2 ≤ it
      · rw [if_pos (show (2 : Int32) ≤ nI it from nI_le (a := 2) h2 (by omega)), if_pos ⟨h0, h2⟩]
        show _ = some ((-9 : Int32), if (-9 : Int32) = -9 then wi (st21 u sd) 20 1 (nI (it - 1)) else st21 u sd)
        rw [if_pos rfl, show nI it - 1 = nI (it - 1) from pk_sub (b := 1) (by omega)]
      · rw [if_neg (show ¬ (2 : Int32) ≤ nI it from nI_ge (b := 2) (by omega) (by omega)), if_neg (fun z => h2 z.2)]
        show _ = some (nI n, if nI n = -9 then wi (st21 u sd) 20 1 (nI (it - 1)) else st21 u sd)
        rw [if_neg nn]
    · rw [if_neg (show ¬ nI pt = 0 from nI_ne0 (by omega) (by omega)), if_neg (fun z => h0 z.1)]
      show _ = some (nI n, if nI n = -9 then wi (st21 u sd) 20 1 (nI (it - 1)) else st21 u sd)
      rw [if_neg nn]
  | m + 1, it, pt, pl, sd, hm, hi, hp, hz, fuel + 1, hf => by
    have ih := fun it pt sd h1 h2 h3 => ff_l ht hn u m it pt (pl + 1) sd (by omega) h1 h2 h3 fuel (by omega)
    have np : ¬ nI pl = -9 := n_neg9 (by omega)
    rw [F_X3_firstFault_8, if_neg (nI_ge (by omega) (by omega)), alenN (YY_txt ht), Option.bind_some, if_neg (nI_ge (by omega) (by omega)), if_pos (ainN (YY_txt ht) (show pl < 60 by omega) (by decide)), nI_clamp (by omega), xmi_st (show 10 + t ≠ 21 by omega), f42 hi hp]
    unfold F_X3_firstFault_120
    rw [nI_1, ih it pt sd hi hp hz, ps_s]
    generalize mi u (10 + t) pl = x
    have key : (if 6 < it then some (nI pl, st21 u sd) else if vl it pt x = -9 then some (nI pl, st21 u sd) else if pt + 1 = (if it = 0 then 3 else 4) then F_X3_firstFault_8 fuel (10 + t) (nI n) (nI (it + 1)) 0 (nI (pl + 1)) (st21 u (up1 sd (4 * it + pt) (vl it pt x))) else F_X3_firstFault_8 fuel (10 + t) (nI n) (nI it) (nI (pt + 1)) (nI (pl + 1)) (st21 u (up1 sd (4 * it + pt) (vl it pt x)))) = some ((if 6 < it then (nI pl, it, sd) else if vl it pt x = -9 then (nI pl, it, sd) else if pt + 1 = (if it = 0 then 3 else 4) then ps (mi u (10 + t)) n m (it + 1) 0 (pl + 1) (up1 sd (4 * it + pt) (vl it pt x)) else ps (mi u (10 + t)) n m it (pt + 1) (pl + 1) (up1 sd (4 * it + pt) (vl it pt x))).1, u1C u (if 6 < it then (nI pl, it, sd) else if vl it pt x = -9 then (nI pl, it, sd) else if pt + 1 = (if it = 0 then 3 else 4) then ps (mi u (10 + t)) n m (it + 1) 0 (pl + 1) (up1 sd (4 * it + pt) (vl it pt x)) else ps (mi u (10 + t)) n m it (pt + 1) (pl + 1) (up1 sd (4 * it + pt) (vl it pt x)))) := by
      have z : u1C u (nI pl, it, sd) = st21 u sd := if_neg np
      by_cases c1 : 6 < it
      · rw [if_pos c1, if_pos c1, z]
      · rw [if_neg c1, if_neg c1]
        by_cases c2 : vl it pt x = -9
        · rw [if_pos c2, if_pos c2, z]
        · rw [if_neg c2, if_neg c2]
          by_cases c3 : pt + 1 = (if it = 0 then 3 else 4)
          · rw [if_pos c3, if_pos c3]
            exact ih (it + 1) 0 _ (by omega) (by omega) (by omega)
          · rw [if_neg c3, if_neg c3]
            by_cases i0 : it = 0
            · rw [if_pos i0] at c3
              have := hz i0
              exact ih it (pt + 1) _ hi (by omega) (by omega)
            · rw [if_neg i0] at c3
              exact ih it (pt + 1) _ hi (by omega) (fun z => absurd z i0)
    by_cases h0 : pt = 0
    · rw [if_pos (show nI pt = 0 by rw [h0]; rfl)]
      by_cases h32 : x = 32
      · rw [if_pos h32, if_pos ⟨h0, h32⟩]
      · rw [if_neg h32, if_neg (show ¬ (pt = 0 ∧ x = 32) from fun z => h32 z.2)]
        exact key
    · rw [if_neg (show ¬ nI pt = 0 from nI_ne0 (by omega) (by omega)), if_neg (show ¬ (pt = 0 ∧ x = 32) from fun z => h0 z.1)]
      exact key
