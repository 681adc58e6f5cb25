/-! ===== stand: the reference's side, all orders ===== -/
def ODQ (w : XM) (A : List Nat) : Prop := mi w 35 28 = nI A.length ∧ ∀ j, j < A.length → mi w 49 j = nI (gtQ A j) ∧ mi w 50 j = nI (gtQ A j)
theorem first_l {u : XM} {P : CP} {S : PS} (hM : curM u P S) (hP : okP P) (hS : okS P S) : ∀ (m i : Nat) (Z : List Nat) (w : XM), i + m = pT P → EQR u w → ODQ w Z → Z.length ≤ i → ∀ fuel, m < fuel → ∃ w', F_X5_firstOrder_7 fuel (nI i) w = some ((), w') ∧ EQR u w' ∧ ODQ w' (Z ++ lyQ (bbQ P S) (6 - i) i)
  | 0, i, Z, w, hi, e, hO, hz, fuel + 1, _ => by
    have hT := hP.1
    refine ⟨w, ?_, e, ?_⟩
    · rw [F_X5_firstOrder_7, (hM.eqr e).1, if_pos (nI_le (by omega) (by omega))]
    · rw [lyQ_nil (T := pT P) bbQ_o _ _ (by omega), List.append_nil]
      exact hO
  | m + 1, i, Z, w, hi, e, hO, hz, fuel + 1, hf => by
    have hT := hP.1
    have hiT : i < pT P := by omega
    rw [F_X5_firstOrder_7, (hM.eqr e).1, if_neg (nI_ge (by omega) (by omega)), isTaken5 (hM.eqr e) hP hS hiT, lyQ_s _ (show i < 6 by omega)]
    unfold F_X5_firstOrder_53
    by_cases h8 : S.1 i = 8
    · rw [if_pos h8, bd1, nI_1, if_neg (show ¬ bbQ P S i = true by rw [bbQ_8 h8]; decide)]
      exact first_l hM hP hS m (i + 1) Z w (by omega) e hO (by omega) fuel (by omega)
    · rw [if_neg h8, bd0, if_pos (bbQ_t hiT h8)]
      show ∃ w', (if ain YY 0 49 (mi w 35 28) = true then (if ain YY 0 50 (mi w 35 28) = true then F_X5_firstOrder_7 fuel (nI i + 1) (wi (wi (wi w 49 (Int32.toNatClampNeg (mi w 35 28)) (nI i)) 50 (Int32.toNatClampNeg (mi w 35 28)) (nI i)) 35 28 (mi w 35 28 + 1)) else none) else none) = _ ∧ _
      obtain ⟨o1, o2⟩ := hO
      rw [o1, if_pos (ainN rfl (show Z.length < 6 by omega) (by decide)), if_pos (ainN rfl (show Z.length < 6 by omega) (by decide)), nI_clamp (show Z.length < 2 ^ 31 by omega), nI_1, nI_1]
      have hlen : (Z ++ [i]).length = Z.length + 1 := by rw [List.length_append]; rfl
      obtain ⟨w', a1, a2, a3⟩ := first_l hM hP hS m (i + 1) (Z ++ [i]) (wi (wi (wi w 49 Z.length (nI i)) 50 Z.length (nI i)) 35 28 (nI (Z.length + 1))) (by omega) (EQR.wi (EQR.wi (EQR.wi e 49 _ _ (by omega) (by omega) (by omega)) 50 _ _ (by omega) (by omega) (by omega)) 35 28 _ (by omega) (by omega) (by omega)) ⟨by rw [mi_wi, if_pos ⟨rfl, rfl⟩, hlen], fun j hj => by
        rw [hlen] at hj
        by_cases q : j = Z.length
        · subst q
          rw [gtQ_1 i []]
          refine ⟨?_, ?_⟩
          · rw [xmi_ne (by decide), xmi_ne (by decide), mi_wi, if_pos ⟨rfl, rfl⟩]
          · rw [xmi_ne (by decide), mi_wi, if_pos ⟨rfl, rfl⟩]
        · rw [gtQ_0 [i] Z j (by omega)]
          obtain ⟨p1, p2⟩ := o2 j (by omega)
          refine ⟨?_, ?_⟩
          · rw [xmi_ne (by decide), xmi_ne (by decide), mi_wi, if_neg (fun z => q z.2)]; exact p1
          · rw [xmi_ne (by decide), mi_wi, if_neg (fun z => q z.2), xmi_ne (by decide)]; exact p2⟩ (by omega) fuel (by omega)
      refine ⟨w', a1, a2, ?_⟩
      rw [List.append_assoc] at a3
      exact a3
theorem firstOrder5 {u : XM} {P : CP} {S : PS} (hM : curM u P S) (hP : okP P) (hS : okS P S) : ∃ w', F_X5_firstOrder u = some ((), w') ∧ EQR u w' ∧ ODQ w' (lyQ (bbQ P S) 6 0) := by
  have hT := hP.1
  obtain ⟨w', a1, a2, a3⟩ := first_l hM hP hS (pT P) 0 [] (wi u 35 28 0) (by omega) (EQR.wi (EQR.rf u) 35 28 _ (by omega) (by omega) (by omega)) ⟨by rw [mi_wi, if_pos ⟨rfl, rfl⟩]; rfl, fun j hj => absurd hj (Nat.not_lt_zero _)⟩ (Nat.le_refl _) FU (show pT P < 1000 by omega)
  exact ⟨w', a1, a2, a3⟩
theorem csQ_le {P : CP} {S : PS} (hP : okP P) (hS : okS P S) : ∀ (R Q : List Nat), (∀ x ∈ R, bbQ P S x = true) → (∀ x ∈ Q, bbQ P S x = true) → csQ (dsQ P S) R Q ≤ 7 * R.length
  | [], _, _, _ => Nat.zero_le _
  | _ :: _, [], _, _ => Nat.zero_le _
  | i :: R, q :: Q, hR, hQ => by
    have h1 := bbQ_x (hR i List.mem_cons_self)
    have h2 := bbQ_x (hQ q List.mem_cons_self)
    have h3 := dsQ_le hP hS h2.1 h1.1 h1.2
    have h4 := csQ_le hP hS R Q (fun x hx => hR x (List.mem_cons_of_mem _ hx)) (fun x hx => hQ x (List.mem_cons_of_mem _ hx))
    show dsQ P S q i + csQ (dsQ P S) R Q ≤ 7 * (R.length + 1)
    omega
theorem st38 {u w : XM} {P : CP} {S : PS} (hM : curM u P S) (e : EQR u w) (hP : okP P) (hS : okS P S) {K : Int32 → Int32 → Int32 → XM → Option (Int32 × XM)} {v1 v2 : Int32} : ∀ (R Q : List Nat) (j acc : Nat), R.length = Q.length → mi w 35 28 = nI (j + R.length) → j + R.length ≤ 6 → (∀ k, k < R.length → mi w 49 (j + k) = nI (gtQ R k) ∧ mi w 50 (j + k) = nI (gtQ Q k)) → (∀ x ∈ R, bbQ P S x = true) → (∀ x ∈ Q, bbQ P S x = true) → ∀ fuel, R.length < fuel → F_X5_stand_38 K fuel v1 v2 (nI acc) (nI j) w = if v2 ≤ nI (acc + csQ (dsQ P S) R Q) then F_X5_stand_112 K v1 v2 w else Option.bind (F_X5_copies 50 0 51 0 6 w) (fun x2 => F_X5_stand_112 K v1 (nI (acc + csQ (dsQ P S) R Q)) x2.2)
  | [], Q, j, acc, hl, h28, h6, hk, hR, hQ, fuel + 1, _ => by
    have h28' : mi w 35 28 = nI j := h28
    have h6' : j ≤ 6 := h6
    show _ = if v2 ≤ nI acc then F_X5_stand_112 K v1 v2 w else Option.bind (F_X5_copies 50 0 51 0 6 w) (fun x2 => F_X5_stand_112 K v1 (nI acc) x2.2)
    rw [F_X5_stand_38, h28', if_pos (nI_le (Nat.le_refl _) (by omega))]
  | _ :: _, [], _, _, hl, _, _, _, _, _, _, _ => absurd hl (Nat.succ_ne_zero _)
  | i :: R, q :: Q, j, acc, hl, h28, h6, hk, hR, hQ, fuel + 1, hf => by
    have hT := hP.1
    have hlen : (i :: R).length = R.length + 1 := rfl
    have h1 := bbQ_x (hR i List.mem_cons_self)
    have h2 := bbQ_x (hQ q List.mem_cons_self)
    have hMw := hM.eqr e
    have hc7 : S.1 i ≤ 7 := by have := hS.1 i h1.1; have := h1.2; omega
    have hg := (hP.2.2 q h2.1).2.2
    obtain ⟨e1, e2⟩ := hk 0 (by omega)
    have e1' : mi w 49 j = nI i := e1
    have e2' : mi w 50 j = nI q := e2
    rw [F_X5_stand_38, h28, if_neg (nI_ge (by omega) (by omega)), if_pos (ainN rfl (show j < 6 by omega) (by decide)), nI_clamp (show j < 2 ^ 31 by omega), e2', e1', z_add, if_pos (ainN rfl (show q < 6 by omega) (by decide)), if_pos (ainN rfl (show j < 6 by omega) (by decide)), if_pos (ainN rfl (show i < 8 by omega) (by decide)), nI_clamp (show q < 2 ^ 31 by omega), nI_clamp (show i < 2 ^ 31 by omega), (hMw.2.2.2.2 q h2.1).2.2.1, (hMw.2.2.2.2 i h1.1).2.2.2, eC_n hc7, abs5 _ (by omega) (by omega), Option.bind_some]
    show F_X5_stand_38 K fuel v1 v2 (nI acc + nI (dsQ P S q i)) (nI j + 1) w = if v2 ≤ nI (acc + (dsQ P S q i + csQ (dsQ P S) R Q)) then F_X5_stand_112 K v1 v2 w else Option.bind (F_X5_copies 50 0 51 0 6 w) (fun x2 => F_X5_stand_112 K v1 (nI (acc + (dsQ P S q i + csQ (dsQ P S) R Q))) x2.2)
    rw [nI_add, nI_1, ← Nat.add_assoc]
    exact st38 hM e hP hS R Q (j + 1) (acc + dsQ P S q i) (Nat.succ.inj hl) (by rw [h28, hlen]; congr 1; omega) (by omega) (fun k hk' => by
      have := hk (k + 1) (by omega)
      rw [show j + 1 + k = j + (k + 1) by omega]
      exact this) (fun x hx => hR x (List.mem_cons_of_mem _ hx)) (fun x hx => hQ x (List.mem_cons_of_mem _ hx)) fuel (by omega)
theorem cp5051 (w : XM) : F_X5_copies 50 0 51 0 6 w = some ((), wc w 50 0 51 0 6) := by
  rw [show (0 : Int32) = nI 0 from rfl, show (6 : Int32) = nI 6 from rfl]
  exact copies5 (m := 6) (by decide) rfl rfl (by decide) (by decide) (by decide) (by decide) (by decide) w
theorem eqr_wc51 {u w : XM} (e : EQR u w) : EQR u (wc w 50 0 51 0 6) := e.tr ⟨fun a ha => xmi_wcne (by omega), by rw [xmi_wcne (by decide)], by rw [xmi_wcne (by decide)], rfl, by rw [xmi_wcne (by decide)], by rw [xmi_wcne (by decide)], by rw [xmi_wcne (by decide)], by rw [xmi_wcne (by decide)], by rw [xmi_wcne (by decide)], rfl⟩
def L5Q (A : List Nat) (w : XM) (v2 : Int32) (st : Option (Nat × AL)) : Prop := (st = none ∧ v2 = 1000000) ∨ ∃ (c : Nat) (q : AL), st = some (c, q) ∧ v2 = nI c ∧ c < 1000 ∧ ∀ k, k < A.length → mi w 51 k = nI (gsQ q k)
/-- the state within all orders: order a now -/
def W5Q (u w : XM) (A a : List Nat) : Prop := EQR u w ∧ mi w 35 28 = nI A.length ∧ ∀ k, k < A.length → mi w 49 k = nI (gtQ A k) ∧ mi w 50 k = nI (gtQ a k)
theorem st28s {u w : XM} {P : CP} {S : PS} {A a : List Nat} {v1 v2 : Int32} {st : Option (Nat × AL)} (hM : curM u P S) (hP : okP P) (hS : okS P S) (h6 : A.length ≤ 6) (hA : ∀ x ∈ A, bbQ P S x = true) (ha : okQ A.length (bbQ P S) a = true) (hW : W5Q u w A a) (hL : L5Q A w v2 st) (n : Nat) : ∃ w1 v', F_X5_stand_28 (n + 1) v1 v2 1 w = F_X5_stand_112 (F_X5_stand_28 n) v1 v' w1 ∧ W5Q u w1 A a ∧ L5Q A w1 v' (b1Q st (csQ (dsQ P S) A a, zpQ A a)) := by
  obtain ⟨w0, w1, w2⟩ := hW
  obtain ⟨o1, o2⟩ := okQ_x ha
  have hle := csQ_le hP hS A a hA o2
  have hE : F_X5_stand_28 (n + 1) v1 v2 1 w = if v2 ≤ nI (csQ (dsQ P S) A a) then F_X5_stand_112 (F_X5_stand_28 n) v1 v2 w else Option.bind (F_X5_copies 50 0 51 0 6 w) (fun x2 => F_X5_stand_112 (F_X5_stand_28 n) v1 (nI (csQ (dsQ P S) A a)) x2.2) := by
    have := st38 (K := F_X5_stand_28 n) (v1 := v1) (v2 := v2) hM w0 hP hS A a 0 0 o1.symm (by rw [Nat.zero_add]; exact w1) (by omega) (fun k hk => by rw [Nat.zero_add]; exact w2 k hk) hA o2 FU (show A.length < 1000 by omega)
    rw [Nat.zero_add] at this
    rw [F_X5_stand_28, if_neg ne10]
    exact this
  rw [hE]
  have hcp : L5Q A (wc w 50 0 51 0 6) (nI (csQ (dsQ P S) A a)) (some (csQ (dsQ P S) A a, zpQ A a)) := Or.inr ⟨_, _, rfl, rfl, by omega, fun k hk => by
    rw [mi_wc, if_pos ⟨rfl, by omega⟩, show 0 + (k - 0) = k by omega, (w2 k hk).2, gsQ_zp A a k o1.symm hk]⟩
  have hWc : W5Q u (wc w 50 0 51 0 6) A a := ⟨eqr_wc51 w0, by rw [xmi_wcne (by decide)]; exact w1, fun k hk => by
    rw [xmi_wcne (show 49 ≠ 51 by decide), xmi_wcne (show 50 ≠ 51 by decide)]; exact w2 k hk⟩
  rcases hL with ⟨e1, e2⟩ | ⟨c, q, e1, e2, e3, e4⟩
  · rw [e1, e2, if_neg (show ¬ (1000000 : Int32) ≤ nI (csQ (dsQ P S) A a) from nI_ge (b := 1000000) (by omega) (by decide)), cp5051, Option.bind_some]
    exact ⟨_, _, rfl, hWc, hcp⟩
  · rw [e1, e2]
    show ∃ w1 v', _ ∧ _ ∧ L5Q A w1 v' (if csQ (dsQ P S) A a < c then some (csQ (dsQ P S) A a, zpQ A a) else some (c, q))
    by_cases l : csQ (dsQ P S) A a < c
    · rw [if_pos l, if_neg (nI_ge l (by omega)), cp5051, Option.bind_some]
      exact ⟨_, _, rfl, hWc, hcp⟩
    · rw [if_neg l, if_pos (nI_le (by omega) (by omega))]
      exact ⟨_, _, rfl, ⟨w0, w1, w2⟩, Or.inr ⟨c, q, rfl, rfl, e3, e4⟩⟩
theorem st28 {u : XM} {P : CP} {S : PS} {A : List Nat} {v1 : Int32} (hM : curM u P S) (hP : okP P) (hS : okS P S) (h6 : A.length ≤ 6) (hA : ∀ x ∈ A, bbQ P S x = true) : ∀ (L : List (List Nat)) (a : List Nat) (w : XM) (v2 : Int32) (st : Option (Nat × AL)), ckQ A.length (bbQ P S) L a = true → W5Q u w A a → L5Q A w v2 st → ∀ fuel, L.length + 1 < fuel → ∃ w' v', F_X5_stand_28 fuel v1 v2 1 w = Option.bind (F_X5_copies 51 0 37 (40 * v1) (mi w' 35 28) w') (fun x4 => (if ain YY 0 36 v1 = true then some (v', (wi x4.2 36 (Int32.toNatClampNeg v1) (mi x4.2 35 28))) else none)) ∧ EQR u w' ∧ mi w' 35 28 = nI A.length ∧ L5Q A w' v' (bsQ st ((a :: L).map (fun l => (csQ (dsQ P S) A l, zpQ A l))))
  | [], a, w, v2, st, hc, hW, hL, fuel + 2, _ => by
    obtain ⟨k1, k2⟩ := ckQ_n hc
    obtain ⟨w1, v', a1, a2, a3⟩ := st28s (v1 := v1) hM hP hS h6 hA k1 hW hL (fuel + 1)
    refine ⟨w1, v', ?_, a2.1, a2.2.1, a3⟩
    rw [a1]
    unfold F_X5_stand_112
    rw [(nextOrder5 (σ := gtQ a) h6 a2.2.1 (fun j hj => (a2.2.2 j hj).2) (fun j hj => by
      obtain ⟨o1, o2⟩ := okQ_x k1
      have := (bbQ_x (o2 _ (gtQ_mem a j (by omega)))).1
      have hT := hP.1
      omega)).1 k2, Option.bind_some]
    show F_X5_stand_28 (fuel + 1) v1 v' 0 w1 = _
    rw [F_X5_stand_28, if_pos rfl]
  | c :: L, a, w, v2, st, hc, hW, hL, fuel + 2, hf => by
    obtain ⟨k1, k2, k3⟩ := ckQ_c hc
    have hlen : (c :: L).length = L.length + 1 := rfl
    obtain ⟨w1, v', a1, a2, a3⟩ := st28s (v1 := v1) hM hP hS h6 hA k1 hW hL (fuel + 1)
    obtain ⟨σ, s1, s2⟩ := neQ_x k2
    obtain ⟨w2, b1, b2, b3⟩ := (nextOrder5 (σ := gtQ a) h6 a2.2.1 (fun j hj => (a2.2.2 j hj).2) (fun j hj => by
      obtain ⟨o1, o2⟩ := okQ_x k1
      have := (bbQ_x (o2 _ (gtQ_mem a j (by omega)))).1
      have hT := hP.1
      omega)).2 σ s1
    have hW2 : W5Q u w2 A c := ⟨a2.1.tr b3.eqr, by rw [b3.1 35 (by decide)]; exact a2.2.1, fun k hk => ⟨by rw [b3.1 49 (by decide)]; exact (a2.2.2 k hk).1, by rw [b2 k hk, s2 k hk]⟩⟩
    have hL2 : L5Q A w2 v' (b1Q st (csQ (dsQ P S) A a, zpQ A a)) := by
      unfold L5Q at a3 ⊢
      rw [b3.1 51 (by decide)]
      exact a3
    obtain ⟨w3, v3, c1, c2, c3, c4⟩ := st28 (v1 := v1) hM hP hS h6 hA L c w2 v' _ k3 hW2 hL2 (fuel + 1) (by omega)
    refine ⟨w3, v3, ?_, c2, c3, c4⟩
    rw [a1]
    unfold F_X5_stand_112
    rw [b1, Option.bind_some]
    exact c1
