theorem kd_b {x : Int32} (h : ¬ kd x = -9) : ∃ k, k ≤ 5 ∧ kd x = nI k := by
  unfold kd at h ⊢
  by_cases c1 : x = 116
  · rw [if_pos c1]; exact ⟨0, by decide, rfl⟩
  · rw [if_neg c1] at h ⊢
    by_cases c2 : x = 114
    · rw [if_pos c2]; exact ⟨1, by decide, rfl⟩
    · rw [if_neg c2] at h ⊢
      by_cases c3 : x = 115
      · rw [if_pos c3]; exact ⟨2, by decide, rfl⟩
      · rw [if_neg c3] at h ⊢
        by_cases c4 : x = 98
        · rw [if_pos c4]; exact ⟨3, by decide, rfl⟩
        · rw [if_neg c4] at h ⊢
          by_cases c5 : x = 100
          · rw [if_pos c5]; exact ⟨4, by decide, rfl⟩
          · rw [if_neg c5] at h ⊢
            by_cases c6 : x = 99
            · rw [if_pos c6]; exact ⟨5, by decide, rfl⟩
            · rw [if_neg c6] at h
              exact absurd rfl h
theorem kind5 (x : Int32) (u : XM) : F_X5_kindOf x u = some (if kd x = -9 then -1 else kd x, u) := by
  unfold F_X5_kindOf kd
  by_cases c1 : x = 116
  · rw [if_pos c1, if_pos c1]; rfl
  · rw [if_neg c1, if_neg c1]
    by_cases c2 : x = 114
    · rw [if_pos c2, if_pos c2]; rfl
    · rw [if_neg c2, if_neg c2]
      by_cases c3 : x = 115
      · rw [if_pos c3, if_pos c3]; rfl
      · rw [if_neg c3, if_neg c3]
        by_cases c4 : x = 98
        · rw [if_pos c4, if_pos c4]; rfl
        · rw [if_neg c4, if_neg c4]
          by_cases c5 : x = 100
          · rw [if_pos c5, if_pos c5]; rfl
          · rw [if_neg c5, if_neg c5]
            by_cases c6 : x = 99
            · rw [if_pos c6, if_pos c6]; rfl
            · rw [if_neg c6, if_neg c6]; rfl
theorem vl_0 {it : Nat} (h1 : 1 ≤ it) (x : Int32) : vl it 0 x = kd x := by
  unfold vl
  rw [if_neg (by omega), if_pos rfl]
theorem readsThing5 {u : XM} {t n it m pl : Nat} {f : Nat → Int32} {sd : Nat → Int32} {w : XM} (hx : TX u t n f) (h1 : 1 ≤ it) (h7 : it ≤ 7) (hm : pl + m = n) (e : EQR u w) (hR : RT w it 0 pl sd) (hz : m = 0 → it < 2) (hb : 0 < m → ¬ f pl = 32) : FL u n (ps f n m it 0 pl sd) (F_X5_readsThing (nI t) w) ∨ (it ≤ 6 ∧ GO1 u n (it + 1) f (ps f n m it 0 pl sd) (F_X5_readsThing (nI t) w)) := by
  have hn := hx.2.1
  obtain ⟨r1, r2, r3, r4, r5⟩ := hR
  unfold F_X5_readsThing
  rw [byteAt5 hx e r1 (by omega), Option.bind_some]
  show FL u n _ (Option.bind (F_X5_kindOf (btx f n pl) w) _) ∨ (_ ∧ GO1 u n (it + 1) f _ (Option.bind (F_X5_kindOf (btx f n pl) w) _))
  rw [kind5, Option.bind_some]
  by_cases c : kd (btx f n pl) = -9
  · left
    rw [if_pos c]
    refine ⟨w, pl, by rw [if_pos (show ((-1 : Int32), w).1 < 0 by show (-1 : Int32) < 0; decide)], e, r1, by omega, ?_⟩
    cases m with
    | zero =>
      rw [ps_0, if_neg (fun z => by have := hz rfl; omega)]
      show nI n = nI pl
      rw [show pl = n by omega]
    | succ m =>
      rw [ps_s, if_neg (fun z => hb (by omega) z.2)]
      by_cases c6 : 6 < it
      · rw [if_pos c6]
      · rw [if_neg c6, if_pos]
        rw [vl_0 h1, ← c]
        unfold btx
        rw [if_pos (by omega)]
  · rw [if_neg c]
    have hpl : pl < n := by
      by_cases q : pl < n
      · exact q
      · refine absurd ?_ c
        unfold btx
        rw [if_neg q]
        decide
    have eb : btx f n pl = f pl := if_pos hpl
    rw [eb] at c ⊢
    obtain ⟨kk, hk5, hkk⟩ := kd_b c
    obtain ⟨m', rfl⟩ : ∃ m', m = m' + 1 := ⟨m - 1, by omega⟩
    show FL u n _ (if kd (f pl) < 0 then some (0, w) else if mi w 35 22 = 6 then some (0, w) else _) ∨ (_ ∧ GO1 u n (it + 1) f _ (if kd (f pl) < 0 then some (0, w) else if mi w 35 22 = 6 then some (0, w) else _))
    rw [if_neg (show ¬ kd (f pl) < 0 by rw [hkk]; exact nI_lt0 (by omega)), r2]
    by_cases c7 : it = 7
    · left
      refine ⟨w, pl, by rw [if_pos (show nI (it - 1) = 6 by rw [c7]; rfl)], e, r1, by omega, ?_⟩
      rw [ps_s, if_neg (fun z => hb (by omega) z.2), if_pos (by omega)]
    · rw [if_neg (show ¬ nI (it - 1) = (6 : Int32) from fun y => by have := n_inj (b := 6) y (by omega) (by decide); omega)]
      have e22 : mi (wi w 35 19 (mi w 35 19 + 1)) 35 22 = nI (it - 1) := by rw [mi_wi, if_neg (by decide)]; exact r2
      show FL u n _ (if ain YY 0 48 (4 * mi (wi w 35 19 (mi w 35 19 + 1)) 35 22) = true then F_X5_readsThing_51 FU (nI t) (4 * mi (wi w 35 19 (mi w 35 19 + 1)) 35 22) 1 (wi (wi w 35 19 (mi w 35 19 + 1)) 48 (Int32.toNatClampNeg (4 * mi (wi w 35 19 (mi w 35 19 + 1)) 35 22)) (kd (f pl))) else none) ∨ (_ ∧ GO1 u n (it + 1) f _ (if ain YY 0 48 (4 * mi (wi w 35 19 (mi w 35 19 + 1)) 35 22) = true then F_X5_readsThing_51 FU (nI t) (4 * mi (wi w 35 19 (mi w 35 19 + 1)) 35 22) 1 (wi (wi w 35 19 (mi w 35 19 + 1)) 48 (Int32.toNatClampNeg (4 * mi (wi w 35 19 (mi w 35 19 + 1)) 35 22)) (kd (f pl))) else none))
      rw [e22, show (4 : Int32) * nI (it - 1) = nI (4 * (it - 1)) from pk_mul 4 (it - 1), if_pos (ainN rfl (show 4 * (it - 1) < 24 by omega) (by decide)), nI_clamp (by omega), r1, nI_1]
      have ep : ps f n (m' + 1) it 0 pl sd = ps f n m' it 1 (pl + 1) (up1 sd (4 * it) (kd (f pl))) := by
        rw [ps_s, if_neg (fun z => hb (by omega) z.2), if_neg (by omega), vl_0 h1, if_neg c, if_neg (show ¬ it = 0 by omega), if_neg (by decide)]
        rfl
      rw [ep]
      have := rt51 hx h1 (show it ≤ 6 by omega) 3 1 m' (pl + 1) (up1 sd (4 * it) (kd (f pl))) (wi (wi w 35 19 (nI (pl + 1))) 48 (4 * (it - 1)) (kd (f pl))) (by decide) (by decide) (by omega) (eqrS48 (eqrS e _ (by decide)) _ _) ⟨by rw [xmi_ne (by decide), mi_wi, if_pos ⟨rfl, rfl⟩], by rw [xmi_ne (by decide), mi_wi, if_neg (by decide)]; exact r2, by
          rw [xmi_ne (by decide), mi_wi, if_neg (by decide), r3]
          unfold up1
          rw [if_neg (by omega)], by
          rw [xmi_ne (by decide), mi_wi, if_neg (by decide), r4]
          unfold up1
          rw [if_neg (by omega)], fun j hj => by
          rw [mi_wi]
          unfold up1
          by_cases z : j = 4 * (it - 1)
          · rw [if_pos ⟨rfl, z⟩, if_pos (by omega)]
          · rw [if_neg (fun y => z y.2), if_neg (by omega), xmi_ne (by decide)]
            exact r5 j (by omega)⟩ FU (by decide)
      rw [if_neg (show ¬ 1 = 4 by decide), if_neg (show ¬ 1 = 4 by decide)] at this
      rcases this with z | z
      · exact Or.inl z
      · exact Or.inr ⟨by omega, z⟩
/-- what is told in the end -/
def GD (u : XM) (R : PR) (o : Option (Int32 × XM)) : Prop := ∃ w, o = some (R.1, w) ∧ EQR u w ∧ (R.1 = -9 → mi w 35 22 = nI (R.2.1 - 1) ∧ mi w 35 20 = R.2.2 1 ∧ mi w 35 21 = R.2.2 2 ∧ ∀ j, j < 4 * (R.2.1 - 1) → mi w 48 j = R.2.2 (4 + j))
theorem GD_fl {u : XM} {n t : Nat} {R : PR} {o : Option (Int32 × XM)} {k : Nat} (hn : n ≤ 60) (h : FL u n R o) : GD u R (Option.bind o (fun x1 => F_X5_faultOf_21 (k + 1) (nI t) x1.1 x1.2)) := by
  obtain ⟨w', q, h1, h2, h3, h4, h5⟩ := h
  refine ⟨w', ?_, h2, fun z => absurd z (by rw [h5]; exact n_neg9 (by omega))⟩
  rw [h1, Option.bind_some]
  show F_X5_faultOf_21 (k + 1) (nI t) 0 w' = _
  rw [F_X5_faultOf_21, if_pos rfl, h3, h5]
theorem fo21 {u : XM} {t n : Nat} {f : Nat → Int32} (hx : TX u t n f) : ∀ (fuel it m pl : Nat) (sd : Nat → Int32) (w : XM), 1 ≤ it → it ≤ 7 → 9 ≤ fuel + it → pl + m = n → EQR u w → RT w it 0 pl sd → GD u (ps f n m it 0 pl sd) (F_X5_faultOf_21 fuel (nI t) 1 w)
  | 0, it, m, pl, sd, w, h1, h7, hf, hm, e, hR => by omega
  | fuel + 1, it, m, pl, sd, w, h1, h7, hf, hm, e, hR => by
    have hn := hx.2.1
    obtain ⟨w1, m1, pl1, d1, d2, d3, d4, d5, d6, d7⟩ := blanks_l hx m pl w hm e hR.1 FU (show m < 1000 by omega)
    have hR1 : RT w1 it 0 pl1 sd := by
      obtain ⟨r1, r2, r3, r4, r5⟩ := hR
      refine ⟨d4, by rw [d5 35 22 (by decide)]; exact r2, by rw [d5 35 20 (by decide)]; exact r3, by rw [d5 35 21 (by decide)]; exact r4, fun j hj => ?_⟩
      rw [d5 48 j (by omega)]
      exact r5 j hj
    rw [d7 it sd, F_X5_faultOf_21, if_neg ne10, show F_X5_blanks (nI t) w = some ((), w1) from d1, Option.bind_some]
    have key : (m1 = 0 → it < 2) → GD u (ps f n m1 it 0 pl1 sd) (F_X5_faultOf_53 (F_X5_faultOf_21 fuel) (nI t) w1) := fun hz => by
      unfold F_X5_faultOf_53
      obtain ⟨k, rfl⟩ : ∃ k, fuel = k + 1 := ⟨fuel - 1, by omega⟩
      rcases readsThing5 hx h1 h7 d3 d2 hR1 hz d6 with c | ⟨c6, w', m', pl', sd', g1, g2, g3, g4, g5⟩
      · exact GD_fl hn c
      · rw [g1, Option.bind_some, g5]
        exact fo21 hx (k + 1) (it + 1) m' pl' sd' w' (by omega) (by omega) (by omega) g3 g2 g4
    show GD u _ (if ain YY 0 38 (nI t) = true then (if mi w1 35 19 = mi w1 38 (Int32.toNatClampNeg (nI t)) then (if mi w1 35 22 ≤ 0 then F_X5_faultOf_53 (F_X5_faultOf_21 fuel) (nI t) w1 else some (-9, w1)) else F_X5_faultOf_53 (F_X5_faultOf_21 fuel) (nI t) w1) else none)
    rw [if_pos (ainN rfl hx.1 (by decide)), nI_clamp (by have := hx.1; omega), d2.1 38 (by omega), hx.2.2.1, d4, hR1.2.1]
    by_cases c : pl1 = n
    · rw [if_pos (show nI pl1 = nI n by rw [c])]
      by_cases c2 : it = 1
      · rw [if_pos (show nI (it - 1) ≤ 0 by rw [c2]; decide)]
        exact key (fun _ => by omega)
      · have m0 : m1 = 0 := by omega
        rw [if_neg (show ¬ nI (it - 1) ≤ 0 from nI_nle (by omega) (by omega)), m0, ps_0, if_pos ⟨rfl, by omega⟩]
        exact ⟨w1, rfl, d2, fun _ => ⟨hR1.2.1, hR1.2.2.1, hR1.2.2.2.1, fun j hj => hR1.2.2.2.2 j (by show j < 4 * (it - 1) + 0; exact hj)⟩⟩
    · rw [if_neg (show ¬ nI pl1 = nI n from fun y => c (n_inj y (by omega) (by omega)))]
      exact key (fun z => by omega)
theorem vl_h0 (x : Int32) : vl 0 0 x = if x = 102 then 0 else -9 := rfl
theorem vl_h {k : Nat} (hk : 1 ≤ k) (x : Int32) : vl 0 k x = fg x 9 := by
  unfold vl
  rw [if_pos rfl, if_neg (by omega)]
theorem first5 {u : XM} {t n m pl : Nat} {f : Nat → Int32} {sd : Nat → Int32} {w : XM} (hx : TX u t n f) (hm : pl + m = n) (e : EQR u w) (h19 : mi w 35 19 = nI pl) (h22 : mi w 35 22 = 0) (hb : 0 < m → ¬ f pl = 32) : FL u n (ps f n m 0 0 pl sd) (F_X5_readsFirst (nI t) w) ∨ GO1 u n 1 f (ps f n m 0 0 pl sd) (F_X5_readsFirst (nI t) w) := by
  have hn := hx.2.1
  unfold F_X5_readsFirst
  rw [byteAt5 hx e h19 (by omega), Option.bind_some]
  by_cases c : btx f n pl = 102
  · have hpl : pl < n := by
      by_cases q : pl < n
      · exact q
      · refine absurd c ?_
        unfold btx
        rw [if_neg q]
        decide
    have eb : btx f n pl = f pl := if_pos hpl
    rw [eb] at c
    rw [if_pos (show (btx f n pl, w).1 = 102 by show btx f n pl = 102; rw [eb]; exact c)]
    obtain ⟨m1, rfl⟩ : ∃ m1, m = m1 + 1 := ⟨m - 1, by omega⟩
    have ep : ps f n (m1 + 1) 0 0 pl sd = ps f n m1 0 1 (pl + 1) (up1 sd 0 0) := by
      rw [ps_s, if_neg (fun z => hb (by omega) z.2), if_neg (by omega), vl_h0, if_pos c, if_neg (by decide), if_pos rfl, if_neg (by decide)]
    rw [ep]
    show FL u n _ (Option.bind (F_X5_takes (nI t) 9 (wi w 35 19 (mi w 35 19 + 1))) _) ∨ GO1 u n 1 f _ (Option.bind (F_X5_takes (nI t) 9 (wi w 35 19 (mi w 35 19 + 1))) _)
    rw [h19, nI_1]
    have e1 : EQR u (wi w 35 19 (nI (pl + 1))) := eqrS e _ (by decide)
    rcases takes5 hx e1 (show mi (wi w 35 19 (nI (pl + 1))) 35 19 = nI (pl + 1) by rw [mi_wi, if_pos ⟨rfl, rfl⟩]) (by omega) 9 with ⟨c1, c2, c3⟩ | ⟨c1, X, c2⟩
    · rw [c3, bd1]
      obtain ⟨m2, rfl⟩ : ∃ m2, m1 = m2 + 1 := ⟨m1 - 1, by omega⟩
      have ep2 : ps f n (m2 + 1) 0 1 (pl + 1) (up1 sd 0 0) = ps f n m2 0 2 (pl + 1 + 1) (up1 (up1 sd 0 0) 1 (fg (f (pl + 1)) 9)) := by
        rw [ps_s, if_neg (by omega), if_neg (by omega), vl_h (by decide), if_neg c2, if_pos rfl, if_neg (by decide)]
      rw [ep2]
      generalize fg (f (pl + 1)) 9 = a1
      have ea : mi (wi (wi (wi w 35 19 (nI (pl + 1))) 35 24 a1) 35 19 (nI (pl + 1 + 1))) 35 24 = a1 := by rw [mi_wi, if_neg (by decide), mi_wi, if_pos ⟨rfl, rfl⟩]
      show FL u n _ (Option.bind (F_X5_takes (nI t) 9 (wi (wi (wi (wi w 35 19 (nI (pl + 1))) 35 24 a1) 35 19 (nI (pl + 1 + 1))) 35 20 (mi (wi (wi (wi w 35 19 (nI (pl + 1))) 35 24 a1) 35 19 (nI (pl + 1 + 1))) 35 24))) _) ∨ GO1 u n 1 f _ (Option.bind (F_X5_takes (nI t) 9 (wi (wi (wi (wi w 35 19 (nI (pl + 1))) 35 24 a1) 35 19 (nI (pl + 1 + 1))) 35 20 (mi (wi (wi (wi w 35 19 (nI (pl + 1))) 35 24 a1) 35 19 (nI (pl + 1 + 1))) 35 24))) _)
      rw [ea]
      have e2 : EQR u (wi (wi (wi (wi w 35 19 (nI (pl + 1))) 35 24 a1) 35 19 (nI (pl + 1 + 1))) 35 20 a1) := eqrS (eqrS (eqrS e1 _ (by decide)) _ (by decide)) _ (by decide)
      have e19 : mi (wi (wi (wi (wi w 35 19 (nI (pl + 1))) 35 24 a1) 35 19 (nI (pl + 1 + 1))) 35 20 a1) 35 19 = nI (pl + 1 + 1) := by rw [mi_wi, if_neg (by decide), mi_wi, if_pos ⟨rfl, rfl⟩]
      have e20 : mi (wi (wi (wi (wi w 35 19 (nI (pl + 1))) 35 24 a1) 35 19 (nI (pl + 1 + 1))) 35 20 a1) 35 20 = a1 := by rw [mi_wi, if_pos ⟨rfl, rfl⟩]
      have e22 : mi (wi (wi (wi (wi w 35 19 (nI (pl + 1))) 35 24 a1) 35 19 (nI (pl + 1 + 1))) 35 20 a1) 35 22 = 0 := by rw [mi_wi, if_neg (by decide), mi_wi, if_neg (by decide), mi_wi, if_neg (by decide), mi_wi, if_neg (by decide)]; exact h22
      generalize (wi (wi (wi (wi w 35 19 (nI (pl + 1))) 35 24 a1) 35 19 (nI (pl + 1 + 1))) 35 20 a1) = w2 at e2 e19 e20 e22
      rcases takes5 hx e2 e19 (by omega) 9 with ⟨b1, b2, b3⟩ | ⟨b1, X, b2⟩
      · right
        rw [b3, bd1]
        obtain ⟨m3, rfl⟩ : ∃ m3, m2 = m3 + 1 := ⟨m2 - 1, by omega⟩
        have ep3 : ps f n (m3 + 1) 0 2 (pl + 1 + 1) (up1 (up1 sd 0 0) 1 a1) = ps f n m3 1 0 (pl + 1 + 1 + 1) (up1 (up1 (up1 sd 0 0) 1 a1) 2 (fg (f (pl + 1 + 1)) 9)) := by
          rw [ps_s, if_neg (by omega), if_neg (by omega), vl_h (by decide), if_neg b2, if_pos rfl, if_pos (by decide)]
        rw [ep3]
        generalize fg (f (pl + 1 + 1)) 9 = a2
        have eb2 : mi (wi (wi w2 35 24 a2) 35 19 (nI (pl + 1 + 1 + 1))) 35 24 = a2 := by rw [mi_wi, if_neg (by decide), mi_wi, if_pos ⟨rfl, rfl⟩]
        refine ⟨wi (wi (wi w2 35 24 a2) 35 19 (nI (pl + 1 + 1 + 1))) 35 21 a2, m3, pl + 1 + 1 + 1, _, ?_, eqrS (eqrS (eqrS e2 _ (by decide)) _ (by decide)) _ (by decide), by omega, ⟨?_, ?_, ?_, ?_, fun j hj => absurd hj (by omega)⟩, rfl⟩
        · show some ((1 : Int32), wi (wi (wi w2 35 24 a2) 35 19 (nI (pl + 1 + 1 + 1))) 35 21 (mi (wi (wi w2 35 24 a2) 35 19 (nI (pl + 1 + 1 + 1))) 35 24)) = _
          rw [eb2]
        · rw [mi_wi, if_neg (by decide), mi_wi, if_pos ⟨rfl, rfl⟩]
        · rw [mi_wi, if_neg (by decide), mi_wi, if_neg (by decide), mi_wi, if_neg (by decide)]; exact e22
        · rw [mi_wi, if_neg (by decide), mi_wi, if_neg (by decide), mi_wi, if_neg (by decide)]; exact e20
        · rw [mi_wi, if_pos ⟨rfl, rfl⟩]; rfl
      · left
        refine ⟨wi w2 35 24 X, pl + 1 + 1, by rw [b2, bd0], eqrS e2 _ (by decide), by rw [mi_wi, if_neg (by decide)]; exact e19, by omega, ?_⟩
        cases m2 with
        | zero =>
          rw [ps_0, if_neg (fun z => by omega)]
          show nI n = nI (pl + 1 + 1)
          rw [show pl + 1 + 1 = n by omega]
        | succ m3 =>
          rcases b1 with b1 | b1
          · omega
          · rw [ps_s, if_neg (fun z => by omega), if_neg (by omega), if_pos (by rw [vl_h (by decide)]; exact b1)]
    · left
      refine ⟨wi (wi w 35 19 (nI (pl + 1))) 35 24 X, pl + 1, by rw [c2, bd0], eqrS e1 _ (by decide), by rw [mi_wi, if_neg (by decide), mi_wi, if_pos ⟨rfl, rfl⟩], by omega, ?_⟩
      cases m1 with
      | zero =>
        rw [ps_0, if_neg (fun z => by omega)]
        show nI n = nI (pl + 1)
        rw [show pl + 1 = n by omega]
      | succ m2 =>
        rcases c1 with c1 | c1
        · omega
        · rw [ps_s, if_neg (fun z => by omega), if_neg (by omega), if_pos (by rw [vl_h (by decide)]; exact c1)]
  · left
    refine ⟨w, pl, by rw [if_neg (show ¬ (btx f n pl, w).1 = 102 from c)], e, h19, by omega, ?_⟩
    cases m with
    | zero =>
      rw [ps_0, if_neg (fun z => by omega)]
      show nI n = nI pl
      rw [show pl = n by omega]
    | succ m =>
      rw [ps_s, if_neg (fun z => hb (by omega) z.2), if_neg (by omega), if_pos]
      rw [vl_h0, if_neg]
      intro z
      refine c ?_
      unfold btx
      rw [if_pos (by omega)]
      exact z
theorem faultOf5 {u : XM} {t n : Nat} {f : Nat → Int32} (hx : TX u t n f) (sd : Nat → Int32) : GD u (ps f n n 0 0 0 sd) (F_X5_faultOf (nI t) u) := by
  have hn := hx.2.1
  have e0 : EQR u (wi (wi u 35 19 0) 35 22 0) := eqrS (eqrS (EQR.rf u) _ (by decide)) _ (by decide)
  obtain ⟨w1, m1, pl1, d1, d2, d3, d4, d5, d6, d7⟩ := blanks_l hx n 0 (wi (wi u 35 19 0) 35 22 0) (by omega) e0 (by rw [mi_wi, if_neg (by decide), mi_wi, if_pos ⟨rfl, rfl⟩]; rfl) FU (show n < 1000 by omega)
  unfold F_X5_faultOf
  rw [show F_X5_blanks (nI t) (wi (wi u 35 19 0) 35 22 0) = some ((), w1) from d1, Option.bind_some, d7 0 sd]
  rcases first5 (sd := sd) hx d3 d2 d4 (by rw [d5 35 22 (by decide), mi_wi, if_pos ⟨rfl, rfl⟩]) d6 with c | ⟨w', m', pl', sd', g1, g2, g3, g4, g5⟩
  · exact GD_fl (k := 999) hn c
  · show GD u _ (Option.bind (F_X5_readsFirst (nI t) w1) _)
    rw [g1, Option.bind_some, g5]
    exact fo21 hx FU 1 m' pl' sd' w' (by omega) (by omega) (show 9 ≤ 1000 + 1 by decide) g3 g2 g4
