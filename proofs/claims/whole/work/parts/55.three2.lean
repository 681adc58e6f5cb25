theorem cnN_le (P : CP) (S : PS) (n c : Nat) : ∀ (m i acc : Nat), cnN P S n c i m acc ≤ acc + m
  | 0, _, _ => Nat.le_refl _
  | m + 1, i, acc => by
    unfold cnN
    refine Nat.le_trans (cnN_le P S n c m (i + 1) _) ?_
    split <;> omega
theorem three31 {u : XM} {P : CP} {S : PS} (hM : curM u P S) (hP : okP P) (hS : okS P S) (hy : S.2.2 ≤ 40) {n c : Nat} (hn : n < 900) (hc : c < 8) (k : Int32 → Int32 → XM → Option (Int32 × XM)) : ∀ (m i acc : Nat), i + m = pT P → acc ≤ i → ∀ fuel, m < fuel → F_X5_three_31 k fuel (nI n) (nI c) (nI acc) (nI i) u = if 3 ≤ cnN P S n c i m acc then some (nI n, wi u 35 14 (nI c)) else k (nI n) (nI (c + 1)) u
  | 0, i, acc, hi, ha, fuel + 1, _ => by
    have hT := hP.1
    unfold F_X5_three_31
    rw [hM.1, if_pos (nI_le (by omega) (by omega))]
    show _ = if 3 ≤ acc then _ else _
    by_cases h3 : 3 ≤ acc
    · rw [if_neg (show ¬ nI acc ≤ (2 : Int32) from nI_ge (a := 2) (by omega) (by omega)), if_pos h3]
      rfl
    · rw [if_pos (show nI acc ≤ (2 : Int32) from nI_le (b := 2) (by omega) (by omega)), if_neg h3, nI_1]
  | m + 1, i, acc, hi, ha, fuel + 1, hf => by
    have hT := hP.1
    have hi' : i < pT P := by omega
    have hs := hS.1 i hi'
    have ih := fun x hx => three31 hM hP hS hy hn hc k m (i + 1) x (by omega) hx fuel (by omega)
    unfold F_X5_three_31 cnN F_X5_three_74 F_X5_three_75
    rw [hM.1, if_neg (nI_ge (by omega) (by omega)), isTaken5 hM hP hS hi']
    by_cases h8 : S.1 i = 8
    · rw [if_pos h8, bd1, nI_1, show (if S.1 i ≠ 8 ∧ inY P S i n (S.1 i) = c then acc + 1 else acc) = acc from if_neg (fun z => z.1 h8)]
      show F_X5_three_31 k fuel (nI n) (nI c) (nI acc + nI 0) (nI (i + 1)) u = _
      rw [nI_add]
      exact ih acc (by omega)
    · rw [if_neg h8, bd0, z_add, if_pos (ainN rfl (show i < 8 by omega) (by decide)), nI_clamp (by omega)]
      show Option.bind (F_X5_afterOf (nI i) (mi u 43 i) (nI n) u) _ = _
      have hle := inY_le (P := P) (S := S) (i := i) (n := n) (c := S.1 i) (by omega)
      rw [(hM.2.2.2.2 i hi').2.2.2, eC_n (by omega), afterOf5 hM hP hS hy hi' hn (by omega), Option.bind_some]
      generalize inY P S i n (S.1 i) = x at *
      show (if nI x = nI c then F_X5_three_31 k fuel (nI n) (nI c) (nI acc + 1) (nI i + 1) u else F_X5_three_31 k fuel (nI n) (nI c) (nI acc + nI 0) (nI i + 1) u) = _
      rw [nI_1, nI_1, nI_add]
      by_cases q : x = c
      · rw [if_pos (show nI x = nI c by rw [q]), show (if S.1 i ≠ 8 ∧ x = c then acc + 1 else acc) = acc + 1 from if_pos ⟨h8, q⟩]
        exact ih (acc + 1) (by omega)
      · rw [if_neg (show ¬ nI x = nI c from fun z => q (n_inj z (by omega) (by omega))), show (if S.1 i ≠ 8 ∧ x = c then acc + 1 else acc) = acc from if_neg (fun z => q z.2)]
        exact ih acc (by omega)
theorem three20 {u : XM} {P : CP} {S : PS} (hM : curM u P S) (hP : okP P) (hS : okS P S) (hy : S.2.2 ≤ 40) {n : Nat} (hn : n < 900) (k : Int32 → XM → Option (Int32 × XM)) : ∀ (m c : Nat), c + m = 8 → ∀ fuel, m < fuel → F_X5_three_20 k fuel (nI n) (nI c) u = match fcF (fun c => decide (3 ≤ cnN P S n c 0 (pT P) 0)) c m with
    | none => k (nI (n + 1)) u
    | some c' => some (nI n, wi u 35 14 (nI c'))
  | 0, c, hc, fuel + 1, _ => by
    unfold F_X5_three_20
    rw [if_pos (show (8 : Int32) ≤ nI c from nI_le (a := 8) (by omega) (by omega)), nI_1]
    rfl
  | m + 1, c, hc, fuel + 1, hf => by
    have hT := hP.1
    unfold F_X5_three_20 fcF
    rw [if_neg (show ¬ (8 : Int32) ≤ nI c from nI_ge (b := 8) (by omega) (by omega)), show (0 : Int32) = nI 0 from rfl, three31 hM hP hS hy hn (by omega) (F_X5_three_20 k fuel) (pT P) 0 0 (by omega) (by omega) FU (by show pT P < 1000; omega)]
    by_cases q : 3 ≤ cnN P S n c 0 (pT P) 0
    · rw [if_pos q, if_pos (decide_eq_true q)]
    · rw [if_neg q, if_neg (by simp [q])]
      exact three20 hM hP hS hy hn k m (c + 1) (by omega) fuel (by omega)
def fyF (P : CP) (S : PS) : Nat → Nat → Option (Nat × Nat)
  | _, 0 => none
  | n, m + 1 => match thr P S n with
    | some c => some (n, c)
    | none => fyF P S (n + 1) m
theorem three12 {u : XM} {P : CP} {S : PS} (hM : curM u P S) (hP : okP P) (hS : okS P S) (hy : S.2.2 ≤ 40) : ∀ (m n : Nat), n + m = 61 → ∀ fuel, m < fuel → F_X5_three_12 fuel (nI n) u = match fyF P S n m with
    | none => some (-9, u)
    | some (n', c') => some (nI n', wi u 35 14 (nI c'))
  | 0, n, hn, fuel + 1, _ => by
    unfold F_X5_three_12
    rw [if_pos (show (61 : Int32) ≤ nI n from nI_le (a := 61) (by omega) (by omega))]
    rfl
  | m + 1, n, hn, fuel + 1, hf => by
    unfold F_X5_three_12 fyF
    rw [if_neg (show ¬ (61 : Int32) ≤ nI n from nI_ge (b := 61) (by omega) (by omega)), show (0 : Int32) = nI 0 from rfl, three20 hM hP hS hy (by omega) (F_X5_three_12 fuel) 8 0 (by omega) FU (by decide)]
    show (match thr P S n with | none => _ | some c' => _) = _
    cases thr P S n with
    | some c => rfl
    | none => exact three12 hM hP hS hy m (n + 1) (by omega) fuel (by omega)
theorem fcF_lt {p : Nat → Bool} : ∀ (m c : Nat) {c' : Nat}, fcF p c m = some c' → c' < c + m
  | 0, c, c', h => by cases h
  | m + 1, c, c', h => by
    unfold fcF at h
    by_cases q : p c = true
    · rw [if_pos q] at h
      cases h
      omega
    · rw [if_neg q] at h
      have := fcF_lt m (c + 1) h
      omega
theorem three15 {u : XM} {P : CP} {S : PS} (hC : curC u P S) (hP : okP P) (hS : okS P S) (hy : S.2.2 ≤ 40) : ∀ (m n : Nat), n + m = 61 → ∀ fuel, m < fuel → F_X4_three_15 fuel (nI n) u = match fyF P S n m with
    | none => some (-9, u)
    | some (n', c') => some (nI n', wi u 0 12 (nI c'))
  | 0, n, hn, fuel + 1, _ => by
    unfold F_X4_three_15
    rw [if_pos (show (60 : Int32) < nI n from nI_lt (a := 60) (by omega) (by omega))]
    rfl
  | m + 1, n, hn, fuel + 1, hf => by
    unfold F_X4_three_15 fyF
    rw [if_neg (show ¬ (60 : Int32) < nI n from nI_nlt (a := 60) (by omega) (by omega)), crowd4 hC hP hS hy (by omega), Option.bind_some, nI_1]
    have hl : ∀ c', thr P S n = some c' → c' < 8 := fun c' h => fcF_lt 8 0 h
    generalize thr P S n = o at *
    cases o with
    | some c =>
      have := hl c rfl
      show (if nI c = -9 then _ else _) = _
      rw [if_neg (n_neg9 (by omega))]
      rfl
    | none => exact three15 hC hP hS hy m (n + 1) (by omega) fuel (by omega)
theorem ST_three (u : XM) (h : REL u) : PRI F_X4_three F_X5_three u := by
  obtain ⟨P, S, hP, hS, hy, hC, hM⟩ := h.cur
  have hT := hP.1
  unfold PRI F_X4_three F_X5_three
  rw [hC.1]
  by_cases h0 : pT P = 0
  · refine ⟨-4, u, u, by rw [h0]; rfl, ?_, h⟩
    rw [hM.1, h0]
    rfl
  · rw [if_neg (nI_ne0 (by omega) (by omega))]
    have e4 := three15 hC hP hS hy 61 0 (by omega) FU (by decide)
    have e5 := fun v => three12 (hM.tell v) hP hS hy 61 0 (by omega) FU (by decide)
    have e5' := three12 hM hP hS hy 61 0 (by omega) FU (by decide)
    have hz : ¬ nI (pT P) = 0 := nI_ne0 (by omega) (by omega)
    generalize fyF P S 0 61 = o at *
    cases o with
    | none =>
      refine ⟨-9, u, u, e4, ?_, h⟩
      rw [hM.1, if_neg hz]
      exact e5'
    | some p =>
      obtain ⟨n', c'⟩ := p
      refine ⟨nI n', wi u 0 12 (nI c'), wi (wi u 0 12 (nI c')) 35 14 (nI c'), e4, ?_, REL_tell h _⟩
      rw [(hM.tell (nI c')).1, if_neg hz]
      exact e5 _
