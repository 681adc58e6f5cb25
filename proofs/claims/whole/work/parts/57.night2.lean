def fr55 (u v : XM) : Prop := (∀ a, a ≠ 54 → a ≠ 55 → mi v a = mi u a) ∧ ml v = ml u
theorem fr55.rf (u : XM) : fr55 u u := ⟨fun _ _ _ => rfl, rfl⟩
theorem fr55.tr {u v w : XM} (h : fr55 u v) (g : fr55 v w) : fr55 u w := ⟨fun a h1 h2 => (g.1 a h1 h2).trans (h.1 a h1 h2), g.2.trans h.2⟩
theorem fr55.w {u v : XM} (h : fr55 u v) {k : Nat} (hk : k = 54 ∨ k = 55) (j : Nat) (x : Int32) : fr55 u (wi v k j x) := h.tr ⟨fun a h1 h2 => xmi_ne (by omega), rfl⟩
theorem fr55.eqr {u v : XM} (h : fr55 u v) : EQR u v := ⟨fun a ha => h.1 a (by omega) (by omega), by rw [h.1 0 (by decide) (by decide)], by rw [h.1 0 (by decide) (by decide)], by rw [h.2], by rw [h.1 35 (by decide) (by decide)], by rw [h.1 35 (by decide) (by decide)], by rw [h.1 35 (by decide) (by decide)], by rw [h.1 35 (by decide) (by decide)], by rw [h.1 35 (by decide) (by decide)], by rw [h.2]⟩
theorem bnd_up : ∀ c, c < 8 → (if (0 : Int32) ≤ nI c + 1 then (if nI c + 1 ≤ 7 then nI c + 1 else 7) else 0) = nI (min 7 (c + 1)) := by decide +kernel
theorem bnd_dn : ∀ c, c < 8 → (if (0 : Int32) ≤ nI c - 1 then (if nI c - 1 ≤ 7 then nI c - 1 else 7) else 0) = nI (c - 1) := by decide +kernel
theorem cp_55 (w : XM) : F_X5_copies 55 0 54 0 8 w = some ((), wc w 55 0 54 0 8) := copies5 (p := 0) (q := 0) (m := 8) (by decide) rfl rfl (show 0 + 8 ≤ 8 by decide) (show 0 + 8 ≤ 8 by decide) (by decide) (by decide) (by decide) w
theorem night107 {K : Int32 → Int32 → XM → Option (Int32 × XM)} {i t : Nat} (ht : t < 100) {f : Nat → Int32} : ∀ (m c : Nat) (w : XM), c + m = 8 → (∀ j, j < 8 → mi w 54 j = f j) → (∀ j, j < c → mi w 55 j = mst (decide (t % 2 = 0)) f j) → ∀ fuel, m < fuel → ∃ w', F_X5_night_107 K fuel (nI i) (nI t) (nI c) w = K (nI i) (nI t + (-1)) w' ∧ (∀ j, j < 8 → mi w' 54 j = mst (decide (t % 2 = 0)) f j) ∧ fr55 w w'
  | 0, c, w, hc, h54, h55, fuel + 1, _ => by
    unfold F_X5_night_107
    rw [if_pos (show (8 : Int32) ≤ nI c from nI_le (a := 8) (by omega) (by omega)), cp_55, Option.bind_some]
    refine ⟨wc w 55 0 54 0 8, rfl, fun j hj => ?_, ⟨fun a h1 h2 => xmi_wcne h1, rfl⟩⟩
    rw [mi_wc, if_pos ⟨rfl, by omega⟩, show 0 + (j - 0) = j by omega]
    exact h55 j (by omega)
  | m + 1, c, w, hc, h54, h55, fuel + 1, hf => by
    have a : ∀ j, j < 8 → ain YY 0 54 (nI j) = true := fun j hj => ainN rfl hj (by decide)
    have a5 : ain YY 0 55 (nI c) = true := ainN rfl (show c < 8 by omega) (by decide)
    have ih := night107 (K := K) (i := i) ht (f := f) m (c + 1) (wi w 55 c (mst (decide (t % 2 = 0)) f c)) (by omega) (fun j hj => by rw [xmi_ne (by decide)]; exact h54 j hj) (fun j hj => by
      rw [mi_wi]
      by_cases q : j = c
      · rw [if_pos ⟨rfl, q⟩, q]
      · rw [if_neg (fun z => q z.2)]; exact h55 j (by omega)) fuel (by omega)
    obtain ⟨w', e1, e2, e3⟩ := ih
    refine ⟨w', ?_, e2, ((fr55.rf w).w (Or.inr rfl) c _).tr e3⟩
    rw [← e1]
    rw [F_X5_night_107]
    rw [if_neg (show ¬ (8 : Int32) ≤ nI c from nI_ge (b := 8) (by omega) (by omega)), bound5, Option.bind_some]
    show (if ain YY 0 54 (if (0 : Int32) ≤ nI c + 1 then (if nI c + 1 ≤ 7 then nI c + 1 else 7) else 0) = true then Option.bind (F_X5_bound (nI c - 1) w) _ else none) = _
    rw [bnd_up c (by omega), if_pos (a _ (by omega)), bound5, Option.bind_some]
    show (if ain YY 0 54 (if (0 : Int32) ≤ nI c - 1 then (if nI c - 1 ≤ 7 then nI c - 1 else 7) else 0) = true then _ else none) = _
    rw [bnd_dn c (by omega), if_pos (a _ (by omega)), if_pos (a c (by omega)), n_rem2 (by omega), nI_clamp (show min 7 (c + 1) < 2 ^ 31 by omega), nI_clamp (show c - 1 < 2 ^ 31 by omega), nI_clamp (show c < 2 ^ 31 by omega)]
    show (if nI (t % 2) = 0 then (if mi w 54 (min 7 (c + 1)) ≤ mi w 54 c then F_X5_night_172 (F_X5_night_107 K fuel) (nI i) (nI t) (nI c) (mi w 54 (c - 1)) (mi w 54 c) w else F_X5_night_172 (F_X5_night_107 K fuel) (nI i) (nI t) (nI c) (mi w 54 (c - 1)) (mi w 54 (min 7 (c + 1))) w) else (if mi w 54 c ≤ mi w 54 (min 7 (c + 1)) then F_X5_night_207 (F_X5_night_107 K fuel) (nI i) (nI t) (nI c) (mi w 54 (c - 1)) (mi w 54 c) w else F_X5_night_207 (F_X5_night_107 K fuel) (nI i) (nI t) (nI c) (mi w 54 (c - 1)) (mi w 54 (min 7 (c + 1))) w)) = _
    rw [h54 c (by omega), h54 (c - 1) (by omega), h54 (min 7 (c + 1)) (by omega)]
    unfold F_X5_night_172 F_X5_night_207 F_X5_night_188 F_X5_night_223 F_X5_night_225
    rw [if_pos a5, if_pos a5, if_pos a5, nI_1, nI_clamp (show c < 2 ^ 31 by omega)]
    unfold mst
    by_cases q : t % 2 = 0
    · rw [if_pos (by rw [q]; rfl), decide_eq_true q, if_pos rfl]
      by_cases q1 : f (min 7 (c + 1)) ≤ f c
      · rw [if_pos q1, if_pos q1]
        split <;> rfl
      · rw [if_neg q1, if_neg q1]
        split <;> rfl
    · rw [if_neg (nI_ne0 (by omega) (by omega)), decide_eq_false q, if_neg (show ¬ false = true by decide)]
      by_cases q1 : f c ≤ f (min 7 (c + 1))
      · rw [if_pos q1, if_pos q1]
        split <;> rfl
      · rw [if_neg q1, if_neg q1]
        split <;> rfl
def tv (T : Nat) : Int32 := nI T - 1
theorem tv_s (T : Nat) : tv (T + 1) = nI T := nI_pred T
theorem tv_0 : tv 0 < 0 := by decide
theorem tv_d (T : Nat) : nI T + (-1) = tv T := by
  cases T with
  | zero => decide
  | succ T => rw [pk_m1, tv_s]
theorem night99 {P : CP} {S : PS} (hP : okP P) {i g o n : Nat} (hi : i < pT P) (h7 : S.1 i ≤ 7) (hn : n ≤ 3) : ∀ (T k : Nat) (w : XM), k + T = 2 * n → curM w P S → (∀ j, j < 8 → mi w 54 j = oN g o k j) → ∀ fuel, T < fuel → ∃ w', F_X5_night_99 fuel (nI i) (tv T) w = some (1, wi w' 35 14 (oN g o (2 * n) (S.1 i))) ∧ fr55 w w'
  | 0, k, w, hk, hM, h54, fuel + 1, _ => by
    have hT := hP.1
    refine ⟨w, ?_, fr55.rf w⟩
    unfold F_X5_night_99
    rw [if_pos tv_0, z_add, if_pos (ainN rfl (show i < 8 by omega) (by decide)), nI_clamp (by omega), (hM.2.2.2.2 i hi).2.2.2, eC_n h7, if_pos (ainN rfl (show S.1 i < 8 by omega) (by decide)), nI_clamp (by omega), h54 _ (by omega), show k = 2 * n by omega]
    rfl
  | T + 1, k, w, hk, hM, h54, fuel + 1, hf => by
    unfold F_X5_night_99
    rw [tv_s, if_neg (nI_lt0 (by omega))]
    obtain ⟨w1, e1, e2, e3⟩ := night107 (K := F_X5_night_99 fuel) (i := i) (t := T) (by omega) (f := oN g o k) 8 0 w (by omega) h54 (fun j hj => by omega) FU (by decide)
    have hp : decide (T % 2 = 0) = decide ((k + 1) % 2 = 0) := by
      simp only [decide_eq_decide]
      omega
    obtain ⟨w', d1, d2⟩ := night99 (g := g) (o := o) hP hi h7 hn T (k + 1) w1 (by omega) (hM.eqr e3.eqr) (fun j hj => by
      rw [e2 j hj, mst_cst _ _ (by omega), hp]
      rfl) fuel (by omega)
    refine ⟨w', ?_, e3.tr d2⟩
    show F_X5_night_107 (F_X5_night_99 fuel) FU (nI i) (nI T) (nI 0) w = _
    rw [e1, tv_d]
    exact d1
theorem night56 {P : CP} {S : PS} (hP : okP P) {i g o n : Nat} (hi : i < pT P) (h7 : S.1 i ≤ 7) (hn : n ≤ 3) (hg : g < 8) (ho : o < 8) : ∀ (m c : Nat) (w : XM), c + m = 8 → curM w P S → (∀ j, j < c → mi w 54 j = oN g o 0 j) → ∀ fuel, m < fuel → ∃ w', F_X5_night_56 fuel (nI i) (nI g) (nI o) (nI n) (nI c) w = some (1, wi w' 35 14 (oN g o (2 * n) (S.1 i))) ∧ fr55 w w'
  | 0, c, w, hc, hM, h54, fuel + 1, _ => by
    unfold F_X5_night_56
    rw [if_pos (show (8 : Int32) ≤ nI c from nI_le (a := 8) (by omega) (by omega)), show (2 : Int32) * nI n - 1 = tv (2 * n) by rw [show (2 : Int32) = nI 2 from rfl, pk_mul]; rfl]
    exact night99 hP hi h7 hn (2 * n) 0 w (by omega) hM (fun j hj => h54 j (by omega)) FU (by show 2 * n < 1000; omega)
  | m + 1, c, w, hc, hM, h54, fuel + 1, hf => by
    obtain ⟨w', d1, d2⟩ := night56 hP hi h7 hn hg ho m (c + 1) (wi w 54 c (oN g o 0 c)) (by omega) (hM.eqr ((fr55.rf w).w (Or.inl rfl) c _).eqr) (fun j hj => by
      rw [mi_wi]
      by_cases q : j = c
      · rw [if_pos ⟨rfl, q⟩, q]
      · rw [if_neg (fun z => q z.2)]; exact h54 j (by omega)) fuel (by omega)
    refine ⟨w', ?_, ((fr55.rf w).w (Or.inl rfl) c _).tr d2⟩
    unfold F_X5_night_56
    rw [if_neg (show ¬ (8 : Int32) ≤ nI c from nI_ge (b := 8) (by omega) (by omega)), abs5 w (by omega) hg, Option.bind_some]
    show Option.bind (F_X5_abs (nI c - nI o) w) _ = _
    rw [abs5 w (by omega) ho, Option.bind_some, if_pos (ainN rfl (show c < 8 by omega) (by decide)), nI_clamp (by omega), nI_1]
    exact d1
theorem ST_night (v1 v2 v3 v4 : Int32) (u : XM) (h : REL u) : PRI (F_X4_night v1 v2 v3 v4) (F_X5_night v1 v2 v3 v4) u := by
  obtain ⟨P, S, hP, hS, hy, hC, hM⟩ := h.cur
  have hT := hP.1
  unfold PRI F_X4_night F_X5_night
  rw [has4 hC hP]
  have c2 := fun w => in5i v4 0 3 w (lo := 0) (hi := 4) (by decide) (by decide)
  by_cases hi : 0 ≤ v1.toInt ∧ v1.toInt < pT P
  · obtain ⟨i, hi', rfl⟩ := i_nat (n := pT P) hi (by omega)
    rw [if_pos hi, bd1]
    show ∃ r u1 u2, Option.bind (F_X4_isCell v2 u) _ = _ ∧ _
    rw [isCell4]
    by_cases hg : 0 ≤ v2.toInt ∧ v2.toInt < 8
    · obtain ⟨g, hg', rfl⟩ := i_nat (n := 8) hg (by decide)
      rw [if_pos hg, bd1]
      show ∃ r u1 u2, Option.bind (F_X4_isCell v3 u) _ = _ ∧ _
      rw [isCell4]
      by_cases ho : 0 ≤ v3.toInt ∧ v3.toInt < 8
      · obtain ⟨o, ho', rfl⟩ := i_nat (n := 8) ho (by decide)
        rw [if_pos ho, bd1]
        have b1 : ∀ w, curM w P S → F_X5_isThing (nI i) w = some (1, w) := fun w hw => by rw [isThing5 hw hP, if_pos hi]
        have b2 : ∀ w, F_X5_isCell (nI g) w = some (1, w) := fun w => by rw [isCell5, if_pos hg]
        have b3 : ∀ w, F_X5_isCell (nI o) w = some (1, w) := fun w => by rw [isCell5, if_pos ho]
        by_cases hgo : g = o
        · refine ⟨-1, u, u, by rw [if_pos (by rw [hgo])], ?_, h⟩
          rw [b1 u hM, bd1, b2, bd1, b3, bd1, if_pos (by rw [hgo])]
        · have hne : ¬ nI g = nI o := fun q => hgo (n_inj q (by omega) (by omega))
          rw [if_neg hne, rngLe (M := 3) (N := 4) (by decide)]
          by_cases hv : 0 ≤ v4.toInt ∧ v4.toInt < 4
          · have b4 : ∀ w, F_X5_in (Int32.toInt64 v4) 0 3 w = some (1, w) := fun w => by rw [c2, if_pos hv]
            obtain ⟨n, hn, rfl⟩ := i_nat (n := 4) hv (by decide)
            rw [if_pos hv]
            show ∃ r u1 u2, Option.bind (F_X0_isTaken (nI i) u) _ = _ ∧ _
            rw [isTaken4 hC hP hS hi']
            by_cases h8 : S.1 i = 8
            · refine ⟨-4, u, u, by rw [if_pos h8]; rfl, ?_, h⟩
              rw [b1 u hM, bd1, b2, bd1, b3, bd1, if_neg hne, b4, bd1]
              show Option.bind (F_X5_isTaken (nI i) u) _ = _
              rw [isTaken5 hM hP hS hi', if_pos h8]; rfl
            · have hs := hS.1 i hi'
              have h7 : S.1 i ≤ 7 := by omega
              rw [if_neg h8, bd0, if_pos (ainN rfl (show i < 6 by omega) (by decide)), nI_clamp (by omega)]
              show ∃ r u1 u2, Option.bind (F_X4_outcome 10 (mi u 25 i) (nI g) (nI o) (2 * nI n) u) _ = _ ∧ _
              rw [(hC.2.2.2.2 i hi').2.2.2, eC_n h7, show (2 : Int32) * nI n = nI (2 * n) from pk_mul 2 n, outcome4 u hg' ho' (2 * n) (S.1 i) 10 (by omega) h7 (by omega), Option.bind_some]
              generalize hx : oN g o (2 * n) (S.1 i) = x
              have hM1 := hM.tell x
              obtain ⟨w', d1, d2⟩ := night56 (S := S) hP hi' h7 (show n ≤ 3 by omega) hg' ho' 8 0 (wi u 0 12 x) (by omega) hM1 (fun j hj => by omega) FU (by decide)
              rw [hx] at d1
              refine ⟨1, wi u 0 12 x, wi w' 35 14 x, rfl, ?_, (REL_tell h x).eqr (EQR_cong d2.eqr 35 14 x)⟩
              rw [b1 _ hM1, bd1, b2, bd1, b3, bd1, if_neg hne, b4, bd1]
              show Option.bind (F_X5_isTaken (nI i) (wi u 0 12 x)) _ = _
              rw [isTaken5 hM1 hP hS hi', if_neg h8, bd0]
              exact d1
          · rw [if_neg hv]
            refine ⟨-1, u, u, rfl, ?_, h⟩
            rw [b1 u hM, bd1, b2, bd1, b3, bd1, if_neg hne, c2, if_neg hv]
            rfl
      · refine ⟨-1, u, u, by rw [if_neg ho]; rfl, ?_, h⟩
        rw [isThing5 hM hP, if_pos hi, bd1, isCell5, if_pos hg, bd1, isCell5, if_neg ho]
        rfl
    · refine ⟨-1, u, u, by rw [if_neg hg]; rfl, ?_, h⟩
      rw [isThing5 hM hP, if_pos hi, bd1, isCell5, if_neg hg]
      rfl
  · refine ⟨-1, u, u, by rw [if_neg hi]; rfl, ?_, h⟩
    rw [isThing5 hM hP, if_neg hi]
    rfl
