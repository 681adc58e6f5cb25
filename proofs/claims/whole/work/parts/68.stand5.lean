/-! ===== stand ===== -/
theorem bb_bf {P : CP} {S : PS} (hP : okP P) : bbQ P S = bfQ (bbQ P S 0) (bbQ P S 1) (bbQ P S 2) (bbQ P S 3) (bbQ P S 4) (bbQ P S 5) := by
  have hT := hP.1
  funext x
  match x with
  | 0 => rfl
  | 1 => rfl
  | 2 => rfl
  | 3 => rfl
  | 4 => rfl
  | 5 => rfl
  | n + 6 => exact bbQ_o (n + 6) (by omega)
theorem ca_bb {P : CP} (S : PS) (hP : okP P) : caQ (bbQ P S) = true := by
  rw [bb_bf hP]
  exact ca_all _ _ _ _ _ _
theorem lv_all {P : CP} {S : PS} {A : List Nat} {b : Nat → Bool} {L : List (List Nat)} (h : plQ A.length b = A :: L) : lvQ (dsQ P S) A b 0 [] = (A :: L).map (fun l => (csQ (dsQ P S) A l, zpQ A l)) := by
  rw [lvQ_pl, h]
  refine congrArg (fun g => List.map g (A :: L)) (funext fun l => ?_)
  show (0 + csQ (dsQ P S) A l, [] ++ zpQ A l) = _
  rw [Nat.zero_add, List.nil_append]
theorem st53 {P : CP} {S : PS} {A π : List Nat} {r : Nat} {v2 : Int32} (hP : okP P) (hS : okS P S) (hr : r < 6) : ∀ (m i : Nat) (Z : List Nat) (w : XM), i + m = pT P → curC w P S → A = Z ++ lyQ (bbQ P S) (6 - i) i → Z.length ≤ i → (∀ k, k < A.length → mi w 31 (gtQ A k) = nI (gtQ π k)) → mi w 8 r = nI Z.length → (∀ j, j < Z.length → mi w (2 + r) j = nI (gtQ π j)) → ∀ fuel, m < fuel → ∃ w', F_X4_stand_53 fuel (nI r) v2 (nI i) w = some (v2, w') ∧ mi w' 8 r = nI A.length ∧ (∀ j, j < A.length → mi w' (2 + r) j = nI (gtQ π j)) ∧ (∀ a, a ≠ 8 → a ≠ 2 + r → mi w' a = mi w a) ∧ (∀ j, j ≠ r → mi w' 8 j = mi w 8 j) ∧ ml w' = ml w
  | 0, i, Z, w, hi, hC, hA, hz, hb, h8, hr', fuel + 1, _ => by
    have hT := hP.1
    rw [lyQ_nil (T := pT P) bbQ_o _ _ (by omega), List.append_nil] at hA
    rw [← hA] at h8 hr'
    refine ⟨w, ?_, h8, hr', fun _ _ _ => rfl, fun _ _ => rfl, rfl⟩
    rw [F_X4_stand_53, hC.1, if_pos (nI_le (by omega) (by omega))]
  | m + 1, i, Z, w, hi, hC, hA, hz, hb, h8, hr', fuel + 1, hf => by
    have hT := hP.1
    have hiT : i < pT P := by omega
    rw [lyQ_s _ (show i < 6 by omega)] at hA
    rw [F_X4_stand_53, hC.1, if_neg (nI_ge (by omega) (by omega)), isTaken4 hC hP hS hiT]
    unfold F_X4_stand_110
    by_cases q8 : S.1 i = 8
    · rw [if_neg (show ¬ bbQ P S i = true by rw [bbQ_8 q8]; decide)] at hA
      rw [if_pos q8, bd1, nI_1]
      exact st53 hP hS hr m (i + 1) Z w (by omega) hC hA (by omega) hb h8 hr' fuel (by omega)
    · rw [if_pos (bbQ_t hiT q8)] at hA
      rw [if_neg q8, bd0]
      show ∃ w', (if ain YY 3 1 (nI r) = true then (if ain YY 0 8 (nI r) = true then (if ain YY 0 31 (nI i) = true then (if ain YY 0 (2 + Int32.toNatClampNeg (nI r)) (mi w 8 (Int32.toNatClampNeg (nI r))) = true then (if ain YY 0 8 (nI r) = true then (if ain YY 0 8 (nI r) = true then F_X4_stand_53 fuel (nI r) v2 (nI i + 1) (wi (wi w (2 + Int32.toNatClampNeg (nI r)) (Int32.toNatClampNeg (mi w 8 (Int32.toNatClampNeg (nI r)))) (mi w 31 (Int32.toNatClampNeg (nI i)))) 8 (Int32.toNatClampNeg (nI r)) ((mi (wi w (2 + Int32.toNatClampNeg (nI r)) (Int32.toNatClampNeg (mi w 8 (Int32.toNatClampNeg (nI r)))) (mi w 31 (Int32.toNatClampNeg (nI i)))) 8 (Int32.toNatClampNeg (nI r))) + 1)) else none) else none) else none) else none) else none) else none) = _ ∧ _
      have hlA : Z.length < A.length := by
        rw [hA, List.length_append]
        show Z.length < Z.length + ((lyQ (bbQ P S) (6 - (i + 1)) (i + 1)).length + 1)
        omega
      have hgt : gtQ A Z.length = i := by rw [hA]; exact gtQ_1 _ _ Z
      have hbz := hb Z.length hlA
      rw [hgt] at hbz
      rw [if_pos (ainN rfl hr (by decide)), if_pos (ainN rfl hr (by decide)), if_pos (ainN rfl (show i < 6 by omega) (by decide)), nI_clamp (show r < 2 ^ 31 by omega), nI_clamp (show i < 2 ^ 31 by omega), xmi_ne (show 8 ≠ 2 + r by omega), h8, if_pos (ainN (YY_row hr) (show Z.length < 40 by omega) (by decide)), if_pos (ainN rfl hr (by decide)), if_pos (ainN rfl hr (by decide)), nI_clamp (show Z.length < 2 ^ 31 by omega), hbz, nI_1, nI_1]
      have hlen : (Z ++ [i]).length = Z.length + 1 := by rw [List.length_append]; rfl
      have f1 : ∀ a, a ≠ 8 → a ≠ 2 + r → mi (wi (wi w (2 + r) Z.length (nI (gtQ π Z.length))) 8 r (nI (Z.length + 1))) a = mi w a := fun a h1 h2 => by rw [xmi_ne h1, xmi_ne h2]
      obtain ⟨w', a1, a2, a3, a4, a5, a6⟩ := st53 (v2 := v2) (A := A) (π := π) hP hS hr m (i + 1) (Z ++ [i]) (wi (wi w (2 + r) Z.length (nI (gtQ π Z.length))) 8 r (nI (Z.length + 1))) (by omega) (by
          unfold curC
          rw [f1 22 (by decide) (by omega), f1 23 (by decide) (by omega), f1 26 (by decide) (by omega), f1 27 (by decide) (by omega), f1 25 (by decide) (by omega)]
          exact hC) (by rw [List.append_assoc]; exact hA) (by omega) (fun k hk => by rw [f1 31 (by decide) (by omega)]; exact hb k hk) (by rw [mi_wi, if_pos ⟨rfl, rfl⟩, hlen]) (fun j hj => by
          rw [hlen] at hj
          rw [xmi_ne (show 2 + r ≠ 8 by omega), mi_wi]
          by_cases q : j = Z.length
          · rw [if_pos ⟨rfl, q⟩, q]
          · rw [if_neg (fun z => q z.2)]
            exact hr' j (by omega)) fuel (by omega)
      refine ⟨w', a1, a2, a3, fun a h1 h2 => by rw [a4 a h1 h2, f1 a h1 h2], fun j hj => ?_, ?_⟩
      · rw [a5 j hj, mi_wi, if_neg (fun z => hj z.2), xmi_ne (by omega)]
      · rw [a6]; rfl
theorem ST_stand (v1 : Int32) (u : XM) (h : REL u) : PRI (F_X4_stand v1) (F_X5_stand v1) u := by
  have hh := h
  obtain ⟨P, S, hP, hS, hy, hC, hM⟩ := h.cur
  have hT := hP.1
  unfold PRI F_X4_stand F_X5_stand
  rw [isRow4]
  by_cases hv : 0 ≤ v1.toInt ∧ v1.toInt < 6
  · obtain ⟨r, hr, rfl⟩ := i_nat (v := v1) (n := 6) hv (by decide)
    rw [if_pos hv, bd1]
    show ∃ r' u1 u2, (if mi u 22 6 = 0 then some (-4, u) else Option.bind (F_X1_leastSum u) _) = some (r', u1) ∧ _
    rw [hC.1]
    by_cases h0 : pT P = 0
    · refine ⟨-4, u, u, by rw [h0]; rfl, ?_, hh⟩
      rw [isRow5, if_pos hv, bd1]
      show (if mi u 35 4 = 0 then some (-4, u) else _) = _
      rw [hM.1, h0]
      rfl
    · obtain ⟨w1, a1, a2, a3⟩ := leastSum4 hC hP hS
      rw [if_neg (nI_ne0 (by omega) (by omega)), a1, Option.bind_some, if_pos (ainN rfl hr (by decide)), nI_clamp (show r < 2 ^ 31 by omega), fill_i YY (2 + r) 0 (YY_row hr) (by decide), Option.bind_some, if_pos (ainN rfl hr (by decide))]
      show ∃ r' u1 u2, F_X4_stand_53 FU (nI r) (mi w1 29 2) 0 (wi (wf w1 (2 + r) 0 40 0) 8 r 0) = some (r', u1) ∧ _
      obtain ⟨L, hpl, hlen, hck⟩ := caQ_ex (ca_bb S hP)
      have hA6 := lyQ_len (b := bbQ P S) 6 0
      have hAm : ∀ x ∈ lyQ (bbQ P S) 6 0, bbQ P S x = true := fun x hx => lyQ_mem 6 0 x hx
      generalize hAe : lyQ (bbQ P S) 6 0 = A at hpl hck hA6 hAm a2
      rw [lv_all hpl] at a2
      -- the best of all
      obtain ⟨z, z1, z2⟩ := bsQ_in (L.map (fun l => (csQ (dsQ P S) A l, zpQ A l))) (csQ (dsQ P S) A A, zpQ A A)
      have hz : bsQ none ((A :: L).map (fun l => (csQ (dsQ P S) A l, zpQ A l))) = some z := z1
      have hzm : z ∈ (A :: L).map (fun l => (csQ (dsQ P S) A l, zpQ A l)) := by
        rcases z2 with e | e
        · rw [e]; exact List.mem_cons_self
        · exact List.mem_cons_of_mem _ e
      obtain ⟨π, hπ, rfl⟩ := List.mem_map.mp hzm
      obtain ⟨o1, o2⟩ := okQ_x (ckQ_all L A hck π hπ)
      rw [hz] at a2
      have hb : mi w1 29 2 = nI (csQ (dsQ P S) A π) ∧ ∀ k, k < A.length → mi w1 31 (gtQ A k) = nI (gtQ π k) := by
        rcases a2 with ⟨e, -⟩ | ⟨c, q, e, e1, e2, e3⟩
        · exact absurd e (by simp)
        · obtain ⟨rfl, rfl⟩ := Prod.mk.inj (Option.some.inj e)
          exact ⟨e1, fun k hk => e3 _ (zpQ_mem A π k o1.symm hk)⟩
      -- the class' row
      have f1 : ∀ a, a ≠ 8 → a ≠ 2 + r → a ≠ 29 → a ≠ 30 → a ≠ 31 → mi (wi (wf w1 (2 + r) 0 40 0) 8 r 0) a = mi u a := fun a n1 n2 n3 n4 n5 => by rw [xmi_ne n1, xmi_wf n2, a3.1 a n3 n4 n5]
      obtain ⟨v, b1, b2, b3, b4, b5, b6⟩ := st53 (v2 := mi w1 29 2) (A := A) (π := π) hP hS hr (pT P) 0 [] (wi (wf w1 (2 + r) 0 40 0) 8 r 0) (by omega) (by
          unfold curC
          rw [f1 22 (by decide) (by omega) (by decide) (by decide) (by decide), f1 23 (by decide) (by omega) (by decide) (by decide) (by decide), f1 26 (by decide) (by omega) (by decide) (by decide) (by decide), f1 27 (by decide) (by omega) (by decide) (by decide) (by decide), f1 25 (by decide) (by omega) (by decide) (by decide) (by decide)]
          exact hC) hAe.symm (Nat.le_refl _) (fun k hk => by rw [xmi_ne (by decide), xmi_wf (by omega)]; exact hb.2 k hk) (by rw [mi_wi, if_pos ⟨rfl, rfl⟩]; rfl) (fun j hj => absurd hj (Nat.not_lt_zero _)) FU (show pT P < 1000 by omega)
      rw [hb.1] at b1
      have ev : ∀ a, a ≠ 8 → a ≠ 2 + r → a ≠ 29 → a ≠ 30 → a ≠ 31 → mi v a = mi u a := fun a n1 n2 n3 n4 n5 => (b4 a n1 n2).trans (f1 a n1 n2 n3 n4 n5)
      have ev8 : ∀ j, j ≠ r → mi v 8 j = mi u 8 j := fun j hj => by
        rw [b5 j hj, mi_wi, if_neg (fun z => hj z.2), xmi_wf (by omega), a3.1 8 (by decide) (by decide) (by decide)]
      have evl : ml v = ml u := by rw [b6]; exact a3.2.1
      have hMv : curM v P S := by
        unfold curM
        rw [ev 35 (by decide) (by omega) (by decide) (by decide) (by decide), ev 43 (by decide) (by omega) (by decide) (by decide) (by decide), ev 40 (by decide) (by omega) (by decide) (by decide) (by decide), ev 41 (by decide) (by omega) (by decide) (by decide) (by decide), ev 42 (by decide) (by omega) (by decide) (by decide) (by decide)]
        exact hM
      -- the reference's row
      obtain ⟨w2, c1, c2, c3⟩ := firstOrder5 hMv hP hS
      rw [hAe] at c3
      obtain ⟨w3, v3, d1, d2, d3, d4⟩ := st28 (v1 := nI r) hMv hP hS hA6 hAm L A w2 1000000 none hck ⟨c2, c3.1, c3.2⟩ (Or.inl ⟨rfl, rfl⟩) FU (show L.length + 1 < 1000 by omega)
      rw [hz] at d4
      have hb5 : v3 = nI (csQ (dsQ P S) A π) ∧ ∀ k, k < A.length → mi w3 51 k = nI (gtQ π k) := by
        rcases d4 with ⟨e, -⟩ | ⟨c, q, e, e1, e2, e3⟩
        · exact absurd e (by simp)
        · obtain ⟨rfl, rfl⟩ := Prod.mk.inj (Option.some.inj e)
          exact ⟨e1, fun k hk => by rw [e3 k hk, gsQ_zp A π k o1.symm hk]⟩
      refine ⟨nI (csQ (dsQ P S) A π), v, wi (wc w3 51 0 37 (40 * r) A.length) 36 r (nI A.length), ?_, ?_, ?_⟩
      · rw [hb.1]
        exact b1
      · rw [isRow5, if_pos hv, bd1]
        show (if mi v 35 4 = 0 then some (-4, v) else Option.bind (F_X5_firstOrder v) (fun x6 => F_X5_stand_28 FU (nI r) 1000000 1 x6.2)) = _
        rw [hMv.1, if_neg (nI_ne0 (by omega) (by omega)), c1, Option.bind_some]
        show F_X5_stand_28 FU (nI r) 1000000 1 w2 = _
        rw [d1, d3, show (40 : Int32) * nI r = nI (40 * r) from pk_mul 40 r, show (0 : Int32) = nI 0 from rfl, copies5 (a := 51) (b := 37) (p := 0) (q := 40 * r) (m := A.length) (na := 6) (nb := 240) (by decide) rfl rfl (by omega) (by omega) (by decide) (by decide) (by omega) w3, Option.bind_some, if_pos (ainN rfl hr (by decide)), nI_clamp (show r < 2 ^ 31 by omega), hb5.1]
        show some (_, wi (wc w3 51 0 37 (40 * r) A.length) 36 r (mi (wc w3 51 0 37 (40 * r) A.length) 35 28)) = _
        rw [xmi_wcne (show 35 ≠ 37 by decide), d3]
      · obtain ⟨h1, h2, h3, h4, h5⟩ := h
        have ew : ∀ a, a ≠ 36 → a ≠ 37 → mi (wi (wc w3 51 0 37 (40 * r) A.length) 36 r (nI A.length)) a = mi w3 a := fun a n1 n2 => by rw [xmi_ne n1, xmi_wcne n2]
        have ew36 : ∀ j, mi (wi (wc w3 51 0 37 (40 * r) A.length) 36 r (nI A.length)) 36 j = if j = r then nI A.length else mi w3 36 j := fun j => by
          rw [mi_wi]
          by_cases q : j = r
          · rw [if_pos ⟨rfl, q⟩, if_pos q]
          · rw [if_neg (fun z => q z.2), if_neg q, xmi_wcne (by decide)]
        have ew37 : ∀ j, mi (wi (wc w3 51 0 37 (40 * r) A.length) 36 r (nI A.length)) 37 j = if 40 * r ≤ j ∧ j < 40 * r + A.length then mi w3 51 (j - 40 * r) else mi w3 37 j := fun j => by
          rw [xmi_ne (by decide), mi_wc]
          by_cases q : 40 * r ≤ j ∧ j < 40 * r + A.length
          · rw [if_pos ⟨rfl, q⟩, if_pos q, show 0 + (j - 40 * r) = j - 40 * r by omega]
          · rw [if_neg (fun z => q z.2), if_neg q]
        have ewl : ml (wi (wc w3 51 0 37 (40 * r) A.length) 36 r (nI A.length)) = ml w3 := rfl
        generalize wi (wc w3 51 0 37 (40 * r) A.length) 36 r (nI A.length) = x at ew ew36 ew37 ewl
        obtain ⟨y0, y1, y2, y3, y4, y5, y6, y7, y8, y9⟩ := d2
        have k35 : mi v 35 = mi u 35 := ev 35 (by decide) (by omega) (by decide) (by decide) (by decide)
        have k0 : mi v 0 = mi u 0 := ev 0 (by decide) (by omega) (by decide) (by decide) (by decide)
        have e : ∀ a, (10 ≤ a ∧ a ≤ 14 ∨ 16 ≤ a ∧ a ≤ 19 ∨ 22 ≤ a ∧ a ≤ 28 ∨ a = 34 ∨ 38 ≤ a ∧ a ≤ 47) → mi x a = mi u a := fun a ha => by
          rw [ew a (by omega) (by omega), y0 a (by omega), ev a (by omega) (by omega) (by omega) (by omega) (by omega)]
        refine ⟨fun r' hr' => ?_, h2.fr (fun a ha => e a (by omega)), h3.fr (e 34 (by omega)) (e 47 (by omega)) (by rw [ew 0 (by decide) (by decide), y1, k0]) (by rw [ew 35 (by decide) (by decide), y8, k35]), h4.fr (by rw [ew 0 (by decide) (by decide), y2, k0]) (by rw [ew 35 (by decide) (by decide), y7, k35]) (by rw [ewl, y3, evl]) (by rw [ewl, y9, evl]), h5.fr (fun a ha => e a (by omega)) (by rw [ew 35 (by decide) (by decide), y4, k35]) (by rw [ew 35 (by decide) (by decide), y5, k35]) (by rw [ew 35 (by decide) (by decide), y6, k35])⟩
        rw [ew 8 (by decide) (by decide), y0 8 (by omega), ew36, ew (2 + r') (by omega) (by omega), y0 (2 + r') (by omega)]
        by_cases q : r' = r
        · subst q
          rw [if_pos rfl, b2]
          refine ⟨rfl, Or.inr ⟨A.length, by omega, rfl, fun i hi => ?_⟩⟩
          rw [b3 i hi, ew37, if_pos (by omega), show 40 * r' + i - 40 * r' = i by omega, hb5.2 i hi]
        · rw [if_neg q, ev8 r' q, y0 36 (by omega), ev 36 (by decide) (by omega) (by decide) (by decide) (by decide), ev (2 + r') (by omega) (by omega) (by omega) (by omega) (by omega)]
          obtain ⟨g1, g2⟩ := h1 r' hr'
          refine ⟨g1, g2.imp id fun ⟨n', hn', hs', hq⟩ => ⟨n', hn', hs', fun i hi => ?_⟩⟩
          rw [ew37, if_neg (by omega), y0 37 (by omega), ev 37 (by decide) (by omega) (by decide) (by decide) (by decide)]
          exact hq i hi
  · refine ⟨-1, u, u, ?_, ?_, hh⟩
    · rw [if_neg hv]; rfl
    · rw [isRow5, if_neg hv]; rfl
