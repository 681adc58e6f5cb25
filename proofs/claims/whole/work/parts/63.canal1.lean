/-! ===== canal: what was read is a canal ===== -/
def bdv (it pt : Nat) : Nat := if it = 0 then 9 else if pt = 0 then 5 else if pt = 2 then 9 else 7
theorem bdv_le (it pt : Nat) : bdv it pt ≤ 9 := by
  unfold bdv
  by_cases c0 : it = 0
  · rw [if_pos c0]; decide
  · rw [if_neg c0]
    by_cases c1 : pt = 0
    · rw [if_pos c1]; decide
    · rw [if_neg c1]
      by_cases c2 : pt = 2
      · rw [if_pos c2]; decide
      · rw [if_neg c2]; decide
theorem fg_b {x most : Int32} {m : Nat} (hm : most.toInt = m) (hl : m < 100) (h : ¬ fg x most = -9) : ∃ a, a ≤ m ∧ fg x most = nI a := by
  by_cases c : 0 ≤ (x - 48).toInt ∧ (x - 48).toInt ≤ most.toInt
  · obtain ⟨a, ha, e⟩ := i_nat (v := x - 48) (n := m + 1) (by omega) (by omega)
    exact ⟨a, by omega, (fg_in c).1.trans e⟩
  · exact absurd (fg_out c) h
theorem vl_b {it pt : Nat} {x : Int32} (h : ¬ vl it pt x = -9) : ∃ a, a ≤ bdv it pt ∧ vl it pt x = nI a := by
  unfold vl at h ⊢
  unfold bdv
  by_cases c0 : it = 0
  · rw [if_pos c0] at h
    rw [if_pos c0, if_pos c0]
    by_cases c1 : pt = 0
    · rw [if_pos c1] at h ⊢
      by_cases c2 : x = 102
      · rw [if_pos c2]; exact ⟨0, by decide, rfl⟩
      · rw [if_neg c2] at h; exact absurd rfl h
    · rw [if_neg c1] at h ⊢
      exact fg_b (m := 9) (by decide) (by decide) h
  · rw [if_neg c0] at h
    rw [if_neg c0, if_neg c0]
    by_cases c1 : pt = 0
    · rw [if_pos c1] at h
      rw [if_pos c1, if_pos c1]
      exact kd_b h
    · rw [if_neg c1] at h
      rw [if_neg c1, if_neg c1]
      by_cases c2 : pt = 2
      · rw [if_pos c2] at h
        rw [if_pos c2, if_pos c2]
        exact fg_b (m := 9) (by decide) (by decide) h
      · rw [if_neg c2] at h
        rw [if_neg c2, if_neg c2]
        exact fg_b (m := 7) (by decide) (by decide) h
def okv (sd : Nat → Int32) (it pt : Nat) : Prop := ∀ q, q < 4 * it + pt → q ≠ 3 → ∃ a, a ≤ bdv (q / 4) (q % 4) ∧ sd q = nI a
theorem okv_up {sd : Nat → Int32} {it pt : Nat} {v : Int32} (h : okv sd it pt) (hp : pt < 4) (hv : ∃ a, a ≤ bdv it pt ∧ v = nI a) : okv (up1 sd (4 * it + pt) v) it (pt + 1) := fun q hq h3 => by
  unfold up1
  by_cases c : q = 4 * it + pt
  · rw [if_pos c, show q / 4 = it by omega, show q % 4 = pt by omega]; exact hv
  · rw [if_neg c]; exact h q (by omega) h3
theorem ps_ok {f : Nat → Int32} {n : Nat} (hn : n ≤ 60) : ∀ (m it pt pl : Nat) (sd : Nat → Int32), pl + m = n → it ≤ 7 → pt < 4 → (it = 0 → pt < 3) → okv sd it pt → (ps f n m it pt pl sd).1 = -9 → 2 ≤ (ps f n m it pt pl sd).2.1 ∧ (ps f n m it pt pl sd).2.1 ≤ 7 ∧ okv (ps f n m it pt pl sd).2.2 (ps f n m it pt pl sd).2.1 0
  | 0, it, pt, pl, sd, hm, h7, hp, hz, ho, h => by
    rw [ps_0] at h ⊢
    by_cases c : pt = 0 ∧ 2 ≤ it
    · rw [if_pos c]
      have h2 := ho
      rw [c.1] at h2
      exact ⟨c.2, h7, h2⟩
    · rw [if_neg c] at h
      exact absurd h (n_neg9 (by omega))
  | m + 1, it, pt, pl, sd, hm, h7, hp, hz, ho, h => by
    rw [ps_s] at h ⊢
    by_cases c1 : pt = 0 ∧ f pl = 32
    · rw [if_pos c1] at h ⊢
      exact ps_ok hn m it pt (pl + 1) sd (by omega) h7 hp hz ho h
    · rw [if_neg c1] at h ⊢
      by_cases c2 : 6 < it
      · rw [if_pos c2] at h
        exact absurd h (n_neg9 (by omega))
      · rw [if_neg c2] at h ⊢
        by_cases c3 : vl it pt (f pl) = -9
        · rw [if_pos c3] at h
          exact absurd h (n_neg9 (by omega))
        · rw [if_neg c3] at h ⊢
          have ho2 := okv_up ho hp (vl_b c3)
          by_cases c4 : pt + 1 = (if it = 0 then 3 else 4)
          · rw [if_pos c4] at h ⊢
            refine ps_ok hn m (it + 1) 0 (pl + 1) _ (by omega) (by omega) (by omega) (by omega) (fun q hq h3 => ho2 q ?_ h3) h
            by_cases z : it = 0
            · rw [if_pos z] at c4; omega
            · rw [if_neg z] at c4; omega
          · rw [if_neg c4] at h ⊢
            refine ps_ok hn m it (pt + 1) (pl + 1) _ (by omega) h7 ?_ (fun z => ?_) ho2 h
            · by_cases z : it = 0
              · have := hz z; omega
              · rw [if_neg z] at c4; omega
            · rw [if_pos z] at c4
              have := hz z
              omega
theorem can_of {sd : Nat → Int32} {T : Nat} (hT : T ≤ 6) (ho : okv sd (T + 1) 0) : ∃ (P : CP) (s0 : PS), okP P ∧ okS P s0 ∧ s0.2.2 = 0 ∧ pT P = T ∧ sd 1 = nI (pF P) ∧ sd 2 = nI s0.2.1 ∧ ∀ j, j < T → sd (4 * (j + 1)) = nI (pK P j) ∧ sd (4 * (j + 1) + 1) = eC (s0.1 j) ∧ sd (4 * (j + 1) + 2) = nI (pW P j) ∧ sd (4 * (j + 1) + 3) = nI (pG P j) := by
  have val : ∀ q, q < 4 * (T + 1) → q ≠ 3 → sd q = nI (sd q).toNatClampNeg ∧ (sd q).toNatClampNeg ≤ bdv (q / 4) (q % 4) := fun q hq h3 => by
    obtain ⟨a, ha, e⟩ := ho q (by omega) h3
    have := bdv_le (q / 4) (q % 4)
    rw [e, nI_clamp (by omega)]
    exact ⟨rfl, ha⟩
  have v0 : ∀ j, j < T → (sd (4 * (j + 1))).toNatClampNeg ≤ 5 := fun j hj => by
    have := (val (4 * (j + 1)) (by omega) (by omega)).2
    rw [show 4 * (j + 1) / 4 = j + 1 by omega, show 4 * (j + 1) % 4 = 0 by omega] at this
    unfold bdv at this
    rw [if_neg (by omega), if_pos rfl] at this
    exact this
  have v1 : ∀ j, j < T → (sd (4 * (j + 1) + 1)).toNatClampNeg ≤ 7 := fun j hj => by
    have := (val (4 * (j + 1) + 1) (by omega) (by omega)).2
    rw [show (4 * (j + 1) + 1) / 4 = j + 1 by omega, show (4 * (j + 1) + 1) % 4 = 1 by omega] at this
    unfold bdv at this
    rw [if_neg (by omega), if_neg (by decide), if_neg (by decide)] at this
    exact this
  have v3 : ∀ j, j < T → (sd (4 * (j + 1) + 3)).toNatClampNeg ≤ 7 := fun j hj => by
    have := (val (4 * (j + 1) + 3) (by omega) (by omega)).2
    rw [show (4 * (j + 1) + 3) / 4 = j + 1 by omega, show (4 * (j + 1) + 3) % 4 = 3 by omega] at this
    unfold bdv at this
    rw [if_neg (by omega), if_neg (by decide), if_neg (by decide)] at this
    exact this
  refine ⟨(T, (sd 1).toNatClampNeg, fun j => (sd (4 * (j + 1))).toNatClampNeg, fun j => (sd (4 * (j + 1) + 2)).toNatClampNeg, fun j => (sd (4 * (j + 1) + 3)).toNatClampNeg), (fun j => (sd (4 * (j + 1) + 1)).toNatClampNeg, (sd 2).toNatClampNeg, 0), ⟨hT, ?_, fun i hi => ?_⟩, ⟨fun i hi => ?_, ?_⟩, rfl, rfl, (val 1 (by omega) (by decide)).1, (val 2 (by omega) (by decide)).1, fun j hj => ⟨(val _ (by omega) (by omega)).1, ?_, (val _ (by omega) (by omega)).1, (val _ (by omega) (by omega)).1⟩⟩
  · exact Nat.le_trans (val 1 (by omega) (by decide)).2 (bdv_le _ _)
  · have hi' : i < T := hi
    exact ⟨v0 i hi', Nat.le_trans (val (4 * (i + 1) + 2) (by omega) (by omega)).2 (bdv_le _ _), v3 i hi'⟩
  · have hi' : i < T := hi
    exact Nat.le_succ_of_le (v1 i hi')
  · exact Nat.le_trans (val 2 (by omega) (by decide)).2 (bdv_le _ _)
  · show _ = eC (sd (4 * (j + 1) + 1)).toNatClampNeg
    rw [eC_n (v1 j hj)]
    exact (val _ (by omega) (by omega)).1
