/-! ===== canal: laid into the reference's rows ===== -/
theorem c159_l : ∀ (m i : Nat) (u : XM), i + m = 3 → ∀ fuel, m < fuel → F_X5_canal_159 fuel (nI i) u = some (mi u 35 4, wf u 46 i m 0)
  | 0, i, u, hi, fuel + 1, _ => by
    rw [F_X5_canal_159, if_pos (show (3 : Int32) ≤ nI i from nI_le (a := 3) (by omega) (by omega)), wf_0]
  | m + 1, i, u, hi, fuel + 1, hf => by
    rw [F_X5_canal_159, if_neg (show ¬ (3 : Int32) ≤ nI i from nI_ge (b := 3) (by omega) (by omega)), if_pos (ainN rfl (show i < 3 by omega) (by decide)), nI_1, nI_clamp (by omega), c159_l m (i + 1) _ (by omega) fuel (by omega), show vp_nar .boolean 0 = 0 from by decide, wf_s]
    rfl
theorem c55 {T : Nat} (hT : T ≤ 6) : ∀ (k i : Nat) (u : XM), i + k = T → mi u 35 4 = nI T → ∀ fuel, k < fuel → ∃ w, F_X5_canal_55 fuel (nI i) u = F_X5_canal_159 FU 0 (wi (wi (wi w 43 6 (mi w 35 21)) 43 7 0) 35 10 0) ∧ (∀ a, a ≠ 40 → a ≠ 41 → a ≠ 42 → a ≠ 43 → mi w a = mi u a) ∧ ml w = ml u ∧ (∀ j, j < i → mi w 40 j = mi u 40 j ∧ mi w 43 j = mi u 43 j ∧ mi w 41 j = mi u 41 j ∧ mi w 42 j = mi u 42 j) ∧ ∀ j, i ≤ j → j < T → mi w 40 j = mi u 48 (4 * j) ∧ mi w 43 j = mi u 48 (4 * j + 1) ∧ mi w 41 j = mi u 48 (4 * j + 2) ∧ mi w 42 j = mi u 48 (4 * j + 3)
  | 0, i, u, hi, h4, fuel + 1, _ => by
    refine ⟨u, ?_, fun _ _ _ _ _ => rfl, rfl, fun _ _ => ⟨rfl, rfl, rfl, rfl⟩, fun j h1 h2 => absurd h2 (by omega)⟩
    rw [F_X5_canal_55, h4, if_pos (nI_le (by omega) (by omega)), if_pos (by decide), if_pos (by decide), c_6, c_7]
  | k + 1, i, u, hi, h4, fuel + 1, hf => by
    obtain ⟨w, a1, a2, a3, a4, a5⟩ := c55 hT k (i + 1) (wi (wi (wi (wi u 40 i (mi u 48 (4 * i))) 43 i (mi u 48 (4 * i + 1))) 41 i (mi u 48 (4 * i + 2))) 42 i (mi u 48 (4 * i + 3))) (by omega) h4 fuel (by omega)
    refine ⟨w, ?_, fun a p1 p2 p3 p4 => ?_, a3, fun j hj => ?_, fun j h1 h2 => ?_⟩
    · rw [F_X5_canal_55, h4, if_neg (nI_ge (by omega) (by omega)), z_add, show (4 : Int32) * nI i = nI (4 * i) from pk_mul 4 i, nI_1, nI_2, nI_3, if_pos (ainN rfl (show 4 * i < 24 by omega) (by decide)), if_pos (ainN rfl (show i < 6 by omega) (by decide)), if_pos (ainN rfl (show 4 * i + 1 < 24 by omega) (by decide)), if_pos (ainN rfl (show i < 8 by omega) (by decide)), if_pos (ainN rfl (show 4 * i + 2 < 24 by omega) (by decide)), if_pos (ainN rfl (show i < 6 by omega) (by decide)), if_pos (ainN rfl (show 4 * i + 3 < 24 by omega) (by decide)), if_pos (ainN rfl (show i < 6 by omega) (by decide)), nI_clamp (show i < 2 ^ 31 by omega), nI_clamp (show 4 * i < 2 ^ 31 by omega), nI_clamp (show 4 * i + 1 < 2 ^ 31 by omega), nI_clamp (show 4 * i + 2 < 2 ^ 31 by omega), nI_clamp (show 4 * i + 3 < 2 ^ 31 by omega), nI_1]
      exact a1
    · rw [a2 a p1 p2 p3 p4, xmi_ne p3, xmi_ne p2, xmi_ne p4, xmi_ne p1]
    · obtain ⟨b1, b2, b3, b4⟩ := a4 j (by omega)
      refine ⟨b1.trans ?_, b2.trans ?_, b3.trans ?_, b4.trans ?_⟩
      · rw [xmi_ne (by decide), xmi_ne (by decide), xmi_ne (by decide), mi_wi, if_neg (by omega)]
      · rw [xmi_ne (by decide), xmi_ne (by decide), mi_wi, if_neg (by omega), xmi_ne (by decide)]
      · rw [xmi_ne (by decide), mi_wi, if_neg (by omega), xmi_ne (by decide), xmi_ne (by decide)]
      · rw [mi_wi, if_neg (by omega), xmi_ne (by decide), xmi_ne (by decide), xmi_ne (by decide)]
    · by_cases q : j = i
      · obtain ⟨b1, b2, b3, b4⟩ := a4 j (by omega)
        refine ⟨b1.trans ?_, b2.trans ?_, b3.trans ?_, b4.trans ?_⟩
        · rw [xmi_ne (by decide), xmi_ne (by decide), xmi_ne (by decide), mi_wi, if_pos ⟨rfl, q⟩, q]
        · rw [xmi_ne (by decide), xmi_ne (by decide), mi_wi, if_pos ⟨rfl, q⟩, q]
        · rw [xmi_ne (by decide), mi_wi, if_pos ⟨rfl, q⟩, q]
        · rw [mi_wi, if_pos ⟨rfl, q⟩, q]
      · exact a5 j (by omega) h2
theorem canal_m {w : XM} {P : CP} {s0 : PS} {T : Nat} {sd : Nat → Int32} (hT : T ≤ 6) (p4 : pT P = T) (p5 : sd 1 = nI (pF P)) (p6 : sd 2 = nI s0.2.1) (hz : s0.2.2 = 0) (p7 : ∀ j, j < T → sd (4 * (j + 1)) = nI (pK P j) ∧ sd (4 * (j + 1) + 1) = eC (s0.1 j) ∧ sd (4 * (j + 1) + 2) = nI (pW P j) ∧ sd (4 * (j + 1) + 3) = nI (pG P j)) (q1 : mi w 35 22 = nI T) (q2 : mi w 35 20 = sd 1) (q3 : mi w 35 21 = sd 2) (q4 : ∀ j, j < 4 * T → mi w 48 j = sd (4 + j)) : ∃ w3, F_X5_canal_55 FU 0 (wi (wi w 35 4 (mi w 35 22)) 35 5 (mi w 35 20)) = some (nI T, w3) ∧ curM w3 P s0 ∧ mi w3 35 10 = nI 0 ∧ (∀ k, k < 3 → mi w3 46 k = 0) ∧ (∀ a, a ≠ 35 → a ≠ 40 → a ≠ 41 → a ≠ 42 → a ≠ 43 → a ≠ 46 → mi w3 a = mi w a) ∧ (∀ b, b ≠ 4 → b ≠ 5 → b ≠ 10 → mi w3 35 b = mi w 35 b) ∧ ml w3 = ml w := by
  rw [q1, q2]
  have e4 : mi (wi (wi w 35 4 (nI T)) 35 5 (sd 1)) 35 4 = nI T := by rw [mi_wi, if_neg (by decide), mi_wi, if_pos ⟨rfl, rfl⟩]
  obtain ⟨w2, k1, k2, k3, k4, k5⟩ := c55 hT T 0 (wi (wi w 35 4 (nI T)) 35 5 (sd 1)) (by omega) e4 FU (show T < 1000 by omega)
  have k35 := k2 35 (by decide) (by decide) (by decide) (by decide)
  have k21 : mi w2 35 21 = sd 2 := by rw [k35, mi_wi, if_neg (by decide), mi_wi, if_neg (by decide)]; exact q3
  rw [k21] at k1
  have k159 := c159_l 3 0 (wi (wi (wi w2 43 6 (sd 2)) 43 7 0) 35 10 0) (by omega) FU (show 3 < 1000 by decide)
  have o4 : mi (wi (wi (wi w2 43 6 (sd 2)) 43 7 0) 35 10 0) 35 4 = nI T := by rw [mi_wi, if_neg (by decide), xmi_ne (by decide), xmi_ne (by decide), k35]; exact e4
  rw [o4] at k159
  refine ⟨wf (wi (wi (wi w2 43 6 (sd 2)) 43 7 0) 35 10 0) 46 0 3 0, k1.trans k159, ⟨?_, ?_, ?_, ?_, fun i hi => ?_⟩, ?_, fun k hk => ?_, fun a n1 n2 n3 n4 n5 n6 => ?_, fun b n1 n2 n3 => ?_, ?_⟩
  · rw [xmi_wf (by decide), o4, p4]
  · rw [xmi_wf (by decide), mi_wi, if_neg (by decide), xmi_ne (by decide), xmi_ne (by decide), k35, mi_wi, if_pos ⟨rfl, rfl⟩]; exact p5
  · rw [xmi_wf (by decide), xmi_ne (by decide), mi_wi, if_neg (by decide), mi_wi, if_pos ⟨rfl, rfl⟩]; exact p6
  · rw [xmi_wf (by decide), xmi_ne (by decide), mi_wi, if_pos ⟨rfl, rfl⟩, hz]; rfl
  · rw [p4] at hi
    obtain ⟨b1, b2, b3, b4⟩ := k5 i (by omega) hi
    obtain ⟨d1, d2, d3, d4⟩ := p7 i hi
    have e48 : mi (wi (wi w 35 4 (nI T)) 35 5 (sd 1)) 48 = mi w 48 := by rw [xmi_ne (by decide), xmi_ne (by decide)]
    rw [e48, q4 _ (by omega)] at b1 b2 b3 b4
    rw [show 4 + 4 * i = 4 * (i + 1) by omega] at b1
    rw [show 4 + (4 * i + 1) = 4 * (i + 1) + 1 by omega] at b2
    rw [show 4 + (4 * i + 2) = 4 * (i + 1) + 2 by omega] at b3
    rw [show 4 + (4 * i + 3) = 4 * (i + 1) + 3 by omega] at b4
    refine ⟨?_, ?_, ?_, ?_⟩
    · rw [xmi_wf (by decide), xmi_ne (by decide), xmi_ne (by decide), xmi_ne (by decide), b1, d1]
    · rw [xmi_wf (by decide), xmi_ne (by decide), xmi_ne (by decide), xmi_ne (by decide), b3, d3]
    · rw [xmi_wf (by decide), xmi_ne (by decide), xmi_ne (by decide), xmi_ne (by decide), b4, d4]
    · rw [xmi_wf (by decide), xmi_ne (by decide), mi_wi, if_neg (by omega), mi_wi, if_neg (by omega), b2, d2]
  · rw [xmi_wf (by decide), mi_wi, if_pos ⟨rfl, rfl⟩]; rfl
  · rw [mi_wf, if_pos ⟨rfl, by omega⟩]
  · rw [xmi_wf n6, xmi_ne n1, xmi_ne n5, xmi_ne n5, k2 a n2 n3 n4 n5, xmi_ne n1, xmi_ne n1]
  · rw [xmi_wf (by decide), mi_wi, if_neg (fun z => n3 z.2), xmi_ne (by decide), xmi_ne (by decide), k35, mi_wi, if_neg (fun z => n2 z.2), mi_wi, if_neg (fun z => n1 z.2)]
  · exact k3
theorem ST_canal (v1 : Int32) (u : XM) (h : REL u) : PRI (F_X4_canal v1) (F_X5_canal v1) u := by
  unfold PRI F_X4_canal F_X5_canal
  rw [isText4]
  by_cases hv : 0 ≤ v1.toInt ∧ v1.toInt < 4
  · obtain ⟨t, ht, rfl⟩ := i_nat (v := v1) (n := 4) hv (by decide)
    rw [if_pos hv, bd1, if_pos (ainN rfl ht (by decide)), nI_clamp (by omega)]
    show ∃ r u1 u2, (if mi u 14 t = -1 then Option.bind (F_X4_found 1 u) (fun x5 => some (x5.1, x5.2)) else (if ain YY 4 9 (nI t) = true then (if ain YY 0 14 (nI t) = true then Option.bind (F_X3_firstFault (10 + t) (mi u 14 t) u) (fun x2 => (if x2.1 = (-9) then (Option.bind (F_X0_fillFrom x2.2) (fun x3 => (Option.bind (F_J7_fill_53178 YY 19 (-1) x3.2) (fun x4 => some ((mi x4.2 22 6), x4.2))))) else some ((-4), x2.2))) else none) else none)) = some (r, u1) ∧ _
    obtain ⟨g1, g2⟩ := h.2.1 t ht
    rcases g2 with g2 | ⟨n, hn, g2, g3⟩
    · rw [g2, if_pos rfl, fX4_1, Option.bind_some]
      refine ⟨-3, fC u 1, fM (fC u 1) 1, rfl, ?_, REL_found h (by decide)⟩
      rw [isText5, if_pos hv, bd1, if_pos (ainN rfl ht (by decide))]
      show (if 0 ≤ mi (fC u 1) 38 t then _ else Option.bind (F_X5_found 1 (fC u 1)) _) = _
      rw [fC_ne u 1 38 (by decide) (by decide), ← g1, g2, if_neg m1_ge0, fX5_1]
      rfl
    · rw [g2, if_neg (n_neg (by omega)), if_pos (ainN rfl ht (by decide)), if_pos (ainN rfl ht (by decide)), firstFault4 ht hn, Option.bind_some]
      have hx : ∀ v, mi v 38 = mi u 38 → mi v 39 = mi u 39 → TX v t n (mi u (10 + t)) := fun v e1 e2 => tx_of h.2.1 ht hn g2 g3 e1 e2
      have ho := ps_ok (f := mi u (10 + t)) hn n 0 0 0 (mi u 21) (by omega) (by omega) (by omega) (by omega) (fun q hq => absurd hq (by omega))
      have hf := fun v e1 e2 => faultOf5 (hx v e1 e2) (mi u 21)
      generalize ps (mi u (10 + t)) n n 0 0 0 (mi u 21) = R at ho hf ⊢
      show ∃ r u1 u2, (if R.1 = (-9) then (Option.bind (F_X0_fillFrom (u1C u R)) (fun x3 => (Option.bind (F_J7_fill_53178 YY 19 (-1) x3.2) (fun x4 => some ((mi x4.2 22 6), x4.2))))) else some ((-4), u1C u R)) = some (r, u1) ∧ _
      by_cases c : R.1 = -9
      · obtain ⟨o1, o2, o3⟩ := ho c
        obtain ⟨T, hT⟩ : ∃ T, R.2.1 = T + 1 := ⟨R.2.1 - 1, by omega⟩
        rw [hT] at o3
        obtain ⟨P, s0, p1, p2, p3, p4, p5, p6, p7⟩ := can_of (T := T) (by omega) o3
        have hz : u1C u R = wi (st21 u R.2.2) 20 1 (nI T) := by
          unfold u1C
          rw [if_pos c, hT]
          rfl
        obtain ⟨w1, a1, a2, a3, a4, a5, a6, a7⟩ := fillFrom4 (u := u1C u R) (T := T) (by omega) (by rw [hz, mi_wi, if_pos ⟨rfl, rfl⟩])
        have m21 : mi (u1C u R) 21 = R.2.2 := by
          rw [hz, xmi_ne (by decide)]
          funext j
          rw [mi_st, if_pos rfl]
        rw [m21] at a3 a4 a7
        obtain ⟨v, b1, b2, b3, b4, b5⟩ := replay0 (u := w1) (P := P) (s0 := s0) p1 p2 p3 (by rw [a2, p4]) (by rw [a3]; exact p5) (by rw [a4]; exact p6) (fun i hi => by
          rw [p4] at hi
          obtain ⟨x1, x2, x3, x4⟩ := a7 i hi
          obtain ⟨y1, y2, y3, y4⟩ := p7 i hi
          exact ⟨x1.trans y1, x3.trans y3, x4.trans y4, x2.trans y2⟩)
        rw [if_pos c, a1, b1, Option.bind_some, Option.bind_some, fill_i YY 19 (-1) (n := 3) rfl (by decide), Option.bind_some]
        show ∃ r u1 u2, some (mi (wf v 19 0 3 (-1)) 22 6, wf v 19 0 3 (-1)) = some (r, u1) ∧ _
        have ev19 : ∀ k, k < 3 → mi (wf v 19 0 3 (-1)) 19 k = -1 := fun k hk => by rw [mi_wf, if_pos ⟨rfl, by omega⟩]
        have ev : ∀ a, a ≠ 19 → mi (wf v 19 0 3 (-1)) a = mi v a := fun a ha => xmi_wf ha
        have e1 : ∀ a, ¬ (a = 19 ∨ a = 20 ∨ a = 21 ∨ 22 ≤ a ∧ a ≤ 27) → mi (wf v 19 0 3 (-1)) a = mi u a := fun a ha => by
          rw [ev a (by omega), b4 a (by omega) (by omega), a5 a (by omega) (by omega) (by omega) (by omega) (by omega), hz, xmi_ne (by omega), xmi_st (by omega)]
        have el : ml (wf v 19 0 3 (-1)) = ml u := by
          rw [ml_wf, b5, a6, hz]
          rfl
        generalize wf v 19 0 3 (-1) = v2 at ev19 ev e1 el
        obtain ⟨w, d1, d2, d3⟩ := hf v2 (e1 38 (by omega)) (e1 39 (by omega))
        obtain ⟨q1, q2, q3, q4⟩ := d3 c
        rw [hT] at q1 q4
        obtain ⟨w3, r1, r2, r3, r4, r5, r6, r7⟩ := canal_m (by omega) p4 p5 p6 p3 p7 q1 q2 q3 q4
        refine ⟨nI T, v2, w3, ?_, ?_, ?_⟩
        · rw [ev 22 (by decide), b2.1, p4]
        · rw [isText5, if_pos hv, bd1, if_pos (ainN rfl ht (by decide))]
          show (if 0 ≤ mi v2 38 t then Option.bind (F_X5_faultOf (nI t) v2) _ else _) = _
          rw [(hx v2 (e1 38 (by omega)) (e1 39 (by omega))).2.2.1, if_pos (nI_ge0 (by omega)), d1, Option.bind_some]
          show (if R.1 = -9 then F_X5_canal_55 FU 0 (wi (wi w 35 4 (mi w 35 22)) 35 5 (mi w 35 20)) else some (-4, w)) = _
          rw [if_pos c]
          exact r1
        · obtain ⟨h1, h2, h3, h4, -⟩ := h
          obtain ⟨z0, z1, z2, z3, z4, z5, z6, z7, z8, z9⟩ := d2
          have f : ∀ a, (2 ≤ a ∧ a ≤ 8 ∨ 10 ≤ a ∧ a ≤ 14 ∨ a = 34 ∨ 36 ≤ a ∧ a ≤ 39 ∨ a = 47) → mi w3 a = mi u a := fun a ha => by
            rw [r5 a (by omega) (by omega) (by omega) (by omega) (by omega) (by omega), z0 a (by omega), e1 a (by omega)]
          have fc : ∀ a, 22 ≤ a → a ≤ 28 → mi w3 a = mi v a := fun a _ _ => by
            rw [r5 a (by omega) (by omega) (by omega) (by omega) (by omega) (by omega), z0 a (by omega), ev a (by omega)]
          have f0 : mi w3 0 = mi w 0 := r5 0 (by decide) (by decide) (by decide) (by decide) (by decide) (by decide)
          have g0 : mi v2 0 = mi u 0 := e1 0 (by omega)
          have g35 : mi v2 35 = mi u 35 := e1 35 (by omega)
          refine ⟨h1.fr (fun a ha => f a (by omega)), h2.fr (fun a ha => f a (by omega)), h3.fr (f 34 (by omega)) (f 47 (by omega)) (by rw [f0, z1, g0]) (by rw [r6 17 (by decide) (by decide) (by decide), z8, g35]), h4.fr (by rw [f0, z2, g0]) (by rw [r6 14 (by decide) (by decide) (by decide), z7, g35]) (by rw [r7, z3, el]) (by rw [r7, z9, el]), P, s0, (fun _ => 0), 0, p1, p2, p3, ⟨by decide, fun j hj => absurd hj (Nat.not_lt_zero _)⟩, ?_, r2, ?_, ⟨r3, fun j hj => absurd hj (Nat.not_lt_zero _)⟩, fun k hk => Or.inl ⟨?_, r4 k hk⟩⟩
          · show curC w3 P s0
            unfold curC
            rw [fc 22 (by decide) (by decide), fc 23 (by decide) (by decide), fc 26 (by decide) (by decide), fc 27 (by decide) (by decide), fc 25 (by decide) (by decide)]
            exact b2
          · unfold hisC
            rw [fc 24 (by decide) (by decide), fc 22 (by decide) (by decide), fc 28 (by decide) (by decide)]
            exact b3
          · rw [r5 19 (by decide) (by decide) (by decide) (by decide) (by decide) (by decide), z0 19 (by omega), ev19 k hk]
      · obtain ⟨w, e1, e2, -⟩ := hf (u1C u R) ((eqr_u1C u R).1 38 (by omega)) ((eqr_u1C u R).1 39 (by omega))
        refine ⟨-4, u1C u R, w, by rw [if_neg c], ?_, (h.eqr (eqr_u1C u R)).eqr e2⟩
        rw [isText5, if_pos hv, bd1, if_pos (ainN rfl ht (by decide))]
        show (if 0 ≤ mi (u1C u R) 38 t then Option.bind (F_X5_faultOf (nI t) (u1C u R)) _ else _) = _
        rw [(hx (u1C u R) ((eqr_u1C u R).1 38 (by omega)) ((eqr_u1C u R).1 39 (by omega))).2.2.1, if_pos (nI_ge0 (by omega)), e1, Option.bind_some]
        show (if R.1 = -9 then F_X5_canal_55 FU 0 (wi (wi w 35 4 (mi w 35 22)) 35 5 (mi w 35 20)) else some (-4, w)) = _
        rw [if_neg c]
  · refine ⟨-1, u, u, ?_, ?_, h⟩
    · rw [if_neg hv]; rfl
    · rw [isText5, if_neg hv]; rfl
