def pfM (u : XM) (v k : Nat) : XM := (fun x j => if x = 52 ∧ j < k then nI (if j = v then 0 else 1000000) else u.1 x j, u.2)
theorem pfM_0 (u : XM) (v : Nat) : pfM u v 0 = u := by
  have : (fun x j => if x = 52 ∧ j < 0 then nI (if j = v then 0 else 1000000) else u.1 x j) = u.1 := by
    funext x j
    rw [if_neg (by omega)]
  show (_, _) = u
  rw [this]
theorem pfM_s (u : XM) (v k : Nat) : wi (pfM u v k) 52 k (nI (if k = v then 0 else 1000000)) = pfM u v (k + 1) := by
  have : (fun x j => if x = 52 ∧ j = k then nI (if k = v then 0 else 1000000) else (pfM u v k).1 x j) = (fun x j => if x = 52 ∧ j < k + 1 then nI (if j = v then 0 else 1000000) else u.1 x j) := by
    funext x j
    show (if x = 52 ∧ j = k then nI (if k = v then 0 else 1000000) else if x = 52 ∧ j < k then nI (if j = v then 0 else 1000000) else u.1 x j) = _
    by_cases h1 : x = 52 ∧ j = k
    · rw [if_pos h1, if_pos (show x = 52 ∧ j < k + 1 by omega), h1.2]
    · rw [if_neg h1]
      by_cases h2 : x = 52 ∧ j < k
      · rw [if_pos h2, if_pos (show x = 52 ∧ j < k + 1 by omega)]
      · rw [if_neg h2, if_neg (show ¬ (x = 52 ∧ j < k + 1) by omega)]
  show (_, _) = (_, _)
  rw [this]
  rfl
theorem pfM_10 (u : XM) {v : Nat} (hv : v < 10) : pfM u v 10 = sl u 52 ((List.replicate 10 1000000).set v 0) := by
  have : (fun x j => if x = 52 ∧ j < 10 then nI (if j = v then 0 else 1000000) else u.1 x j) = (fun x j => if x = 52 ∧ j < ((List.replicate 10 1000000).set v 0).length then nI (((List.replicate 10 1000000).set v 0).getD j 0) else u.1 x j) := by
    funext x j
    rw [List.length_set, List.length_replicate, getD_set (by rw [List.length_replicate]; exact hv)]
    by_cases h : x = 52 ∧ j < 10
    · rw [if_pos h, if_pos h]
      by_cases q : j = v
      · rw [if_pos q, if_pos q]
      · rw [if_neg q, if_neg q, List.getD_eq_getElem?_getD, List.getElem?_replicate, if_pos h.2]
        rfl
    · rw [if_neg h, if_neg h]
  show (_, _) = (_, _)
  rw [this]
def T5 (v : Nat) : List Nat := itS (sw5 0 10) 10 ((List.replicate 10 1000000).set v 0)
theorem lay2 (u : XM) {v : Nat} (hv : v < 10) : ∀ (m k : Nat), k + m = 10 → ∀ fuel, m < fuel → F_X5_layFar_2 fuel (nI v) (nI k) (pfM u v k) = some ((), sl u 52 (T5 v))
  | 0, k, hk, fuel + 1, _ => by
    unfold F_X5_layFar_2
    rw [if_pos (show (10 : Int32) ≤ nI k from nI_le (a := 10) (by omega) (by omega)), show k = 10 by omega, pfM_10 u hv]
    exact lay33 u 10 0 _ (by omega) (bnd_set (rep_bnd 10 1000000) hv (by omega)) FU (by decide)
  | m + 1, k, hk, fuel + 1, hf => by
    have a : ain YY 0 52 (nI k) = true := ainN rfl (show k < 10 by omega) (by decide)
    have s := pfM_s u v k
    have ih := lay2 u hv m (k + 1) (by omega) fuel (by omega)
    unfold F_X5_layFar_2 F_X5_layFar_24
    rw [if_neg (show ¬ (10 : Int32) ≤ nI k from nI_ge (b := 10) (by omega) (by omega)), nI_clamp (by omega), nI_1]
    by_cases q : k = v
    · rw [if_pos (by rw [q]), if_pos a]
      rw [if_pos q] at s
      show F_X5_layFar_2 fuel (nI v) (nI (k + 1)) (wi (pfM u v k) 52 k (nI 0)) = _
      rw [s]
      exact ih
    · rw [if_neg (fun z => q (n_inj z (by omega) (by omega))), if_pos a]
      rw [if_neg q] at s
      show F_X5_layFar_2 fuel (nI v) (nI (k + 1)) (wi (pfM u v k) 52 k (nI 1000000)) = _
      rw [s]
      exact ih
theorem layFar5 (u : XM) {v : Nat} (hv : v < 10) : F_X5_layFar (nI v) u = some ((), sl u 52 (T5 v)) := by
  have := lay2 u hv 10 0 (by omega) FU (by decide)
  rw [pfM_0] at this
  exact this
def fz {α : Type} (n : Nat) (f : Nat → α) : α := match n with
  | 0 => f 0
  | n + 1 => f (n + 1)
theorem fz_eq {α : Type} (n : Nat) (f : Nat → α) : fz n f = f n := by cases n <;> rfl
def nrm {α : Type} : List Nat → (List Nat → α) → α
  | [], k => k []
  | x :: t, k => fz x (fun x' => nrm t (fun t' => k (x' :: t')))
theorem nrm_eq {α : Type} : ∀ (l : List Nat) (k : List Nat → α), nrm l k = k l
  | [], _ => rfl
  | x :: t, k => by
    unfold nrm
    rw [fz_eq, nrm_eq t]
def sw4f : Nat → Nat → List Nat → List Nat
  | _, 0, l => l
  | k, m + 1, l => nrm (l.set k (min (l.getD k 0) (1 + min (l.getD (k - 2) 0) (l.getD (min 9 (k + 3)) 0)))) (fun l' => sw4f (k + 1) m l')
theorem sw4f_eq : ∀ (m k : Nat) (l : List Nat), sw4f k m l = sw4 k m l
  | 0, _, _ => rfl
  | m + 1, k, l => by
    unfold sw4f sw4
    rw [nrm_eq, sw4f_eq m]
def sw5f : Nat → Nat → List Nat → List Nat
  | _, 0, l => l
  | k, m + 1, l => nrm (l.set k (min (min (l.getD k 0) (l.getD (k - 2) 0 + 1)) (l.getD (min 9 (k + 3)) 0 + 1))) (fun l' => sw5f (k + 1) m l')
theorem sw5f_eq : ∀ (m k : Nat) (l : List Nat), sw5f k m l = sw5 k m l
  | 0, _, _ => rfl
  | m + 1, k, l => by
    unfold sw5f sw5
    rw [nrm_eq, sw5f_eq m]
def itF (f : List Nat → List Nat) : Nat → List Nat → List Nat
  | 0, l => l
  | m + 1, l => nrm (f l) (fun l' => itF f m l')
theorem itF_eq {f g : List Nat → List Nat} (h : ∀ l, f l = g l) : ∀ (m : Nat) (l : List Nat), itF f m l = itS g m l
  | 0, _ => rfl
  | m + 1, l => by
    unfold itF itS
    rw [nrm_eq, itF_eq h m, h]
def okT (v : Nat) : Bool := nrm (itF (sw4f 0 10) 10 ((List.replicate 10 10).set v 0)) (fun a => nrm (itF (sw5f 0 10) 10 ((List.replicate 10 1000000).set v 0)) (fun b => a == b && a.length == 10 && a.all (fun x => decide (x ≤ 9))))
theorem okT_q : ∀ v, v < 10 → okT v = true := by decide +kernel
theorem okT_u {v : Nat} (hv : v < 10) : T4 v = T5 v ∧ (T4 v).length = 10 ∧ ∀ x, x ∈ T4 v → x ≤ 9 := by
  have := okT_q v hv
  unfold okT at this
  rw [nrm_eq, nrm_eq, itF_eq (g := sw4 0 10) (fun l => sw4f_eq 10 0 l), itF_eq (g := sw5 0 10) (fun l => sw5f_eq 10 0 l)] at this
  rw [Bool.and_eq_true, Bool.and_eq_true, List.all_eq_true] at this
  exact ⟨beq_iff_eq.mp this.1.1, beq_iff_eq.mp this.1.2, fun x hx => of_decide_eq_true (this.2 x hx)⟩
theorem T45 (v : Nat) (hv : v < 10) : T5 v = T4 v := (okT_u hv).1.symm
theorem T4_len (v : Nat) (hv : v < 10) : (T4 v).length = 10 := (okT_u hv).2.1
theorem T4_9 (v : Nat) (hv : v < 10) (j : Nat) (hj : j < 10) : (T4 v).getD j 0 ≤ 9 := by
  have h := T4_len v hv
  rw [List.getD_eq_getElem?_getD, List.getElem?_eq_getElem (by omega)]
  exact (okT_u hv).2.2 _ (List.getElem_mem _)
theorem T4_bnd {v : Nat} (hv : v < 10) : bnd 10 9 (T4 v) := ⟨T4_len v hv, fun j => by
  by_cases h : j < 10
  · exact T4_9 v hv j h
  · rw [List.getD_eq_getElem?_getD, List.getElem?_eq_none (by rw [T4_len v hv]; omega)]
    exact Nat.zero_le _⟩
theorem row5_lv (u : XM) {l : List Nat} (hl : bnd 10 10 l) {many : Nat} (hm : many ≤ 9) : ∀ (f row lv k : Nat), many ≤ k + f → k ≤ many → lv ≤ 9 → ∀ fuel, f < fuel → F_X5_level_59 fuel (nI lv) (nI many) (nI row) (nI k) (sl u 52 l) = some (nI many, wi (sl u 52 l) 35 14 (nI (rw4 l f row lv many k)))
  | 0, row, lv, k, h1, h2, h3, fuel + 1, _ => by
    unfold F_X5_level_59
    rw [if_pos (nI_le (by omega) (by omega))]
    rfl
  | f + 1, row, lv, k, h1, h2, h3, fuel + 1, hf => by
    have e2 := hl.2 (lv - 2)
    unfold F_X5_level_59 rw4
    by_cases hk : many ≤ k
    · rw [if_pos (nI_le hk (by omega)), if_pos hk]; rfl
    · rw [if_neg (nI_ge (by omega) (by omega)), if_neg hk, t5_0 _ h3, Option.bind_some, if_pos (ainN rfl (show lv - 2 < 10 by omega) (by decide)), nI_clamp (by omega), mi_sl (by rw [hl.1]; omega), pk_sub (by omega), show nI (many - k) - 1 = nI (many - k - 1) from pk_sub (b := 1) (by omega)]
      unfold F_X5_level_89 F_X5_level_106
      by_cases q : l.getD (lv - 2) 0 = many - k - 1
      · rw [if_pos (show nI _ = nI _ by rw [q]), if_pos q, if_pos rfl]
        show Option.bind (F_X5_turned (nI lv) 0 (sl u 52 l)) _ = _
        rw [t5_0 _ h3, Option.bind_some, nI_1, or_z]
        exact row5_lv u hl hm f row (lv - 2) (k + 1) (by omega) (by omega) (by omega) fuel (by omega)
      · rw [if_neg (show ¬ nI _ = nI _ from fun z => q (n_inj z (by omega) (by omega))), if_neg q, if_neg ne10]
        show Option.bind (F_X5_turned (nI lv) 1 (sl u 52 l)) _ = _
        rw [t5_1 _ h3, Option.bind_some, nI_1, shl1 k (by omega), nI_or]
        exact row5_lv u hl hm f _ (min 9 (lv + 3)) (k + 1) (by omega) (by omega) (by omega) fuel (by omega)
theorem EQR_sl {u v : XM} (h : EQR u v) (k : Nat) (l : List Nat) (hk : ¬ (2 ≤ k ∧ k ≤ 8 ∨ 10 ≤ k ∧ k ≤ 14 ∨ 16 ≤ k ∧ k ≤ 19 ∨ 22 ≤ k ∧ k ≤ 28 ∨ k = 34 ∨ 36 ≤ k ∧ k ≤ 47)) (h0 : k ≠ 0) (h35 : k ≠ 35) : EQR u (sl v k l) := by
  have e0 : mi (sl v k l) 0 = mi v 0 := xmi_sl (fun q => h0 q.symm)
  have e35 : mi (sl v k l) 35 = mi v 35 := xmi_sl (fun q => h35 q.symm)
  refine h.tr ⟨fun a ha => xmi_sl (fun q => hk (q ▸ ha)), ?_, ?_, rfl, ?_, ?_, ?_, ?_, ?_, rfl⟩ <;> first | rw [e0] | rw [e35]
theorem EQR_cong {u v : XM} (h : EQR u v) (k j : Nat) (x : Int32) : EQR (wi u k j x) (wi v k j x) := by
  obtain ⟨a0, a1, a2, a3, a4, a5, a6, a7, a8, a9⟩ := h
  refine ⟨fun a ha => ?_, ?_, ?_, a3, ?_, ?_, ?_, ?_, ?_, a9⟩
  · funext b
    rw [mi_wi, mi_wi, a0 a ha]
  all_goals
    rw [mi_wi, mi_wi]
    split
    · rfl
    · assumption
theorem ST_level (v1 : Int32) (u : XM) (h : REL u) : PRI (F_X4_level v1) (F_X5_level v1) u := by
  obtain ⟨P, S, hP, hS, hy, hC, hM⟩ := h.cur
  have hT := hP.1
  have hl := hS.2
  unfold PRI F_X4_level F_X5_level
  rw [rngLe (M := 9) (N := 10) (by decide)]
  have b1 := fun w => in5i v1 0 9 w (lo := 0) (hi := 10) (by decide) (by decide)
  by_cases hv : 0 ≤ v1.toInt ∧ v1.toInt < 10
  · have k1 : ∀ w, F_X5_in (Int32.toInt64 v1) 0 9 w = some (1, w) := fun w => by rw [b1, if_pos hv]
    obtain ⟨v, hv', rfl⟩ := i_nat (n := 10) hv (by decide)
    rw [if_pos hv, hC.1]
    by_cases h0 : pT P = 0
    · refine ⟨-4, u, u, by rw [h0]; rfl, ?_, h⟩
      rw [k1, bd1]
      show (if mi u 35 4 = 0 then _ else _) = _
      rw [hM.1, h0]
      rfl
    · have hz : ¬ nI (pT P) = 0 := nI_ne0 (by omega) (by omega)
      obtain ⟨L, hb, hL4, hL5⟩ : ∃ L, bnd 10 9 L ∧ F_X2_countTurnsTo (nI v) u = some ((), sl u 33 L) ∧ ∀ w, F_X5_layFar (nI v) w = some ((), sl w 52 L) := ⟨T4 v, T4_bnd hv', countTurns4 u hv', fun w => by rw [layFar5 w hv', T45 v hv']⟩
      have hb10 : bnd 10 10 L := ⟨hb.1, fun j => Nat.le_succ_of_le (hb.2 j)⟩
      have hm := hb.2 S.2.1
      generalize hmany : L.getD S.2.1 0 = many at hm
      rw [if_neg hz, hL4, Option.bind_some]
      show ∃ r u1 u2, (if ain YY 0 33 (mi (sl u 33 L) 22 9) = true then (if mi (sl u 33 L) 33 (Int32.toNatClampNeg (mi (sl u 33 L) 22 9)) ≤ 9 then Option.bind (F_X2_firstRowFrom (mi (sl u 33 L) 22 9) (sl u 33 L)) _ else _) else none) = _ ∧ _
      have e22 : mi (sl u 33 L) 22 9 = nI S.2.1 := by rw [xmi_sl (by decide)]; exact hC.2.2.1
      have e33 : mi (sl u 33 L) 33 S.2.1 = nI many := by rw [mi_sl (by rw [hb.1]; omega), hmany]
      have a33 : ain YY 0 33 (nI S.2.1) = true := ainN rfl (show S.2.1 < 10 by omega) (by decide)
      rw [e22, if_pos a33, nI_clamp (by omega), e33, if_pos (show nI many ≤ (9 : Int32) from nI_le (b := 9) hm (by decide))]
      unfold F_X2_firstRowFrom
      have er : F_X2_firstRowFrom_15 FU 0 (nI S.2.1) (nI many) 0 (sl u 33 L) = some (nI (rw4 L 10 0 S.2.1 many 0), sl u 33 L) := row4_l u hb10 hm 10 0 S.2.1 0 (by omega) (by omega) hl FU (by decide)
      rw [if_pos a33, nI_clamp (by omega), e33, er, Option.bind_some]
      generalize hrow : rw4 L 10 0 S.2.1 many 0 = row
      have hR1 : REL (sl u 33 L) := h.eqr (EQR_sl (EQR.rf u) 33 L (by omega) (by decide) (by decide))
      have hM1 : curM (wi (sl u 33 L) 0 12 (nI row)) P S := (hM.eqr (EQR_sl (EQR.rf u) 33 L (by omega) (by decide) (by decide))).tell _
      refine ⟨nI many, wi (sl u 33 L) 0 12 (nI row), wi (sl (wi (sl u 33 L) 0 12 (nI row)) 52 L) 35 14 (nI row), ?_, ?_, ?_⟩
      · rfl
      · generalize wi (sl u 33 L) 0 12 (nI row) = w at hM1
        have er5 : F_X5_level_59 FU (nI S.2.1) (nI many) 0 0 (sl w 52 L) = some (nI many, wi (sl w 52 L) 35 14 (nI (rw4 L 10 0 S.2.1 many 0))) := row5_lv w hb10 hm 10 0 S.2.1 0 (by omega) (by omega) hl FU (by decide)
        rw [k1, bd1]
        show (if mi w 35 4 = 0 then _ else Option.bind (F_X5_layFar (nI v) w) _) = _
        rw [hM1.1, if_neg hz, hL5 w, Option.bind_some, if_pos (by decide)]
        have e43 : mi (sl w 52 L) 43 6 = nI S.2.1 := by rw [xmi_sl (by decide)]; exact hM1.2.2.1
        have e52 : mi (sl w 52 L) 52 S.2.1 = nI many := by rw [mi_sl (by rw [hb.1]; omega), hmany]
        have a52 : ain YY 0 52 (nI S.2.1) = true := ainN rfl (show S.2.1 < 10 by omega) (by decide)
        show (if ain YY 0 52 (mi (sl w 52 L) 43 6) = true then (if mi (sl w 52 L) 52 (Int32.toNatClampNeg (mi (sl w 52 L) 43 6)) < 1000000 then F_X5_level_59 FU (mi (sl w 52 L) 43 6) (mi (sl w 52 L) 52 (Int32.toNatClampNeg (mi (sl w 52 L) 43 6))) 0 0 (sl w 52 L) else _) else none) = _
        rw [e43, if_pos a52, nI_clamp (by omega), e52, if_pos (show nI many < (1000000 : Int32) from nI_lt (b := 1000000) (by omega) (by decide)), er5, hrow]
      · exact (REL_tell hR1 (nI row)).eqr (EQR_cong (EQR_sl (EQR.rf _) 52 L (by omega) (by decide) (by decide)) 35 14 (nI row))
  · refine ⟨-1, u, u, by rw [if_neg hv], ?_, h⟩
    rw [b1, if_neg hv]
    rfl
