theorem tsw_all {α : Type} {Q : α → Prop} (x : Int32) : ∀ (l : List α) (k : Int) (z : α), (∀ a ∈ l, Q a) → Q z → Q (tsw x k l z)
  | [], _, _, _, hz => hz
  | a :: l, k, z, hl, hz => by
    show Q (if x.toInt = k then a else tsw x (k + 1) l z)
    by_cases h : x.toInt = k
    · rw [if_pos h]; exact hl a List.mem_cons_self
    · rw [if_neg h]; exact tsw_all x l (k + 1) z (fun b hb => hl b (List.mem_cons_of_mem _ hb)) hz
theorem tsw_c {α : Type} {Q : α → Prop} {a : α} {l : List α} (h : Q a) (h2 : ∀ b ∈ l, Q b) : ∀ b ∈ a :: l, Q b := fun b hb => (List.mem_cons.mp hb).elim (fun e => e ▸ h) (h2 b)
theorem tsw_n {α : Type} {Q : α → Prop} : ∀ b ∈ ([] : List α), Q b := fun b hb => by cases hb
set_option maxRecDepth 20000 in
set_option maxHeartbeats 4000000 in
theorem law_it (L : Nat) (xs : Nat → Int32) (hL : L ≤ 3072) (n k : Nat) (u : XM) (hu : REL u) (hk : 6 * k ≤ L) (hn : ∀ u', REL u' → 6 * (k + 1) ≤ L → ∃ ue, F_law_18 L xs n (nI (6 * k) + 6) u' = some (1, ue)) : ∃ ue, F_law_18 L xs (n + 1) (nI (6 * k)) u = some (1, ue) := by
  unfold F_law_18
  have e1 : (nI L - 6).toInt = (L : Int) - 6 := pk_sub_toInt (b := 6) (by omega) (by omega)
  have e2 : (nI (6 * k)).toInt = ((6 * k : Nat) : Int) := nI_toInt (by omega)
  by_cases hc : nI L - 6 < nI (6 * k)
  · rw [if_pos hc]; exact ⟨_, rfl⟩
  · rw [if_neg hc]
    have hk2 : 6 * (k + 1) ≤ L := by
      rw [i_lt, e1, e2] at hc
      omega
    have hs : ∀ c, c < 6 → sin L (nI (6 * k + c)) = true := fun c hc => by
      simp only [sin, Bool.and_eq_true, decide_eq_true_eq]
      exact ⟨nI_pos' (by omega), by rw [nI_clamp (by omega)]; omega⟩
    have hs0 : sin L (nI (6 * k)) = true := hs 0 (by omega)
    have hs1 : sin L (nI (6 * k) + 1) = true := by have := hs 1 (by omega); rwa [← nI_add] at this
    have hs2 : sin L (nI (6 * k) + 2) = true := by have := hs 2 (by omega); rwa [← nI_add] at this
    have hs3 : sin L (nI (6 * k) + 3) = true := by have := hs 3 (by omega); rwa [← nI_add] at this
    have hs4 : sin L (nI (6 * k) + 4) = true := by have := hs 4 (by omega); rwa [← nI_add] at this
    have hs5 : sin L (nI (6 * k) + 5) = true := by have := hs 5 (by omega); rwa [← nI_add] at this
    rw [if_pos hs0]
    have hnn := fun u' hu' => hn u' hu' hk2
    refine tsw_all (Q := fun a : Option (Int32 × XM) => ∃ ue, a = some (1, ue)) _ _ _ _ (tsw_c ?_ (tsw_c ?_ (tsw_c ?_ (tsw_c ?_ (tsw_c ?_ (tsw_c ?_ (tsw_c ?_ (tsw_c ?_ (tsw_c ?_ (tsw_c ?_ (tsw_c ?_ (tsw_c ?_ (tsw_c ?_ (tsw_c ?_ (tsw_c ?_ (tsw_c ?_ (tsw_c ?_ (tsw_c ?_ (tsw_c ?_ (tsw_c ?_ (tsw_c ?_ (tsw_c ?_ (tsw_c ?_ (tsw_c ?_ (tsw_c ?_ (tsw_c ?_ (tsw_c ?_ (tsw_c ?_ (tsw_c ?_ (tsw_c ?_ (tsw_c ?_ (tsw_c ?_ (tsw_c ?_ (tsw_c ?_ (tsw_c ?_ (tsw_c ?_ (tsw_c ?_ (tsw_c ?_ (tsw_c ?_ (tsw_c ?_ (tsw_c ?_ (tsw_c ?_ (tsw_c ?_ (tsw_n)))))))))))))))))))))))))))))))))))))))))))) (hnn u hu)
    · obtain ⟨r, u1, u2, h1, h2, h3⟩ := ST_row (xs (nI (6 * k) + 1).toNatClampNeg) (xs (nI (6 * k) + 2).toNatClampNeg) u hu
      simp only [hs1, hs2, hs3, hs4, hs5, if_true, h1, Option.bind_some, h2, F_law_1452]
      exact hnn u2 h3
    · obtain ⟨r, u1, u2, h1, h2, h3⟩ := ST_lay (xs (nI (6 * k) + 1).toNatClampNeg) (xs (nI (6 * k) + 2).toNatClampNeg) (xs (nI (6 * k) + 3).toNatClampNeg) u hu
      simp only [hs1, hs2, hs3, hs4, hs5, if_true, h1, Option.bind_some, h2, F_law_1452]
      exact hnn u2 h3
    · obtain ⟨r, u1, u2, h1, h2, h3⟩ := ST_at (xs (nI (6 * k) + 1).toNatClampNeg) (xs (nI (6 * k) + 2).toNatClampNeg) u hu
      simp only [hs1, hs2, hs3, hs4, hs5, if_true, h1, Option.bind_some, h2, F_law_1452]
      exact hnn u2 h3
    · obtain ⟨r, u1, u2, h1, h2, h3⟩ := ST_tear (xs (nI (6 * k) + 1).toNatClampNeg) u hu
      simp only [hs1, hs2, hs3, hs4, hs5, if_true, h1, Option.bind_some, h2, F_law_1452]
      exact hnn u2 h3
    · obtain ⟨r, u1, u2, h1, h2, h3⟩ := ST_copy (xs (nI (6 * k) + 1).toNatClampNeg) (xs (nI (6 * k) + 2).toNatClampNeg) (xs (nI (6 * k) + 3).toNatClampNeg) (xs (nI (6 * k) + 4).toNatClampNeg) (xs (nI (6 * k) + 5).toNatClampNeg) u hu
      simp only [hs1, hs2, hs3, hs4, hs5, if_true, h1, Option.bind_some, h2, F_law_1452]
      exact hnn u2 h3
    · obtain ⟨r, u1, u2, h1, h2, h3⟩ := ST_mean (xs (nI (6 * k) + 1).toNatClampNeg) u hu
      simp only [hs1, hs2, hs3, hs4, hs5, if_true, h1, Option.bind_some, h2, F_law_1452]
      exact hnn u2 h3
    · obtain ⟨r, u1, u2, h1, h2, h3⟩ := ST_text (xs (nI (6 * k) + 1).toNatClampNeg) (xs (nI (6 * k) + 2).toNatClampNeg) u hu
      simp only [hs1, hs2, hs3, hs4, hs5, if_true, h1, Option.bind_some, h2, F_law_1452]
      exact hnn u2 h3
    · obtain ⟨r, u1, u2, h1, h2, h3⟩ := ST_put (xs (nI (6 * k) + 1).toNatClampNeg) (xs (nI (6 * k) + 2).toNatClampNeg) (xs (nI (6 * k) + 3).toNatClampNeg) u hu
      simp only [hs1, hs2, hs3, hs4, hs5, if_true, h1, Option.bind_some, h2, F_law_1452]
      exact hnn u2 h3
    · obtain ⟨r, u1, u2, h1, h2, h3⟩ := ST_fault (xs (nI (6 * k) + 1).toNatClampNeg) u hu
      simp only [hs1, hs2, hs3, hs4, hs5, if_true, h1, Option.bind_some, h2, F_law_1452]
      exact hnn u2 h3
    · obtain ⟨r, u1, u2, h1, h2, h3⟩ := ST_canal (xs (nI (6 * k) + 1).toNatClampNeg) u hu
      simp only [hs1, hs2, hs3, hs4, hs5, if_true, h1, Option.bind_some, h2, F_law_1452]
      exact hnn u2 h3
    · obtain ⟨r, u1, u2, h1, h2, h3⟩ := ST_thing (xs (nI (6 * k) + 1).toNatClampNeg) (xs (nI (6 * k) + 2).toNatClampNeg) u hu
      simp only [hs1, hs2, hs3, hs4, hs5, if_true, h1, Option.bind_some, h2, F_law_1452]
      exact hnn u2 h3
    · obtain ⟨r, u1, u2, h1, h2, h3⟩ := ST_mark (xs (nI (6 * k) + 1).toNatClampNeg) (xs (nI (6 * k) + 2).toNatClampNeg) u hu
      simp only [hs1, hs2, hs3, hs4, hs5, if_true, h1, Option.bind_some, h2, F_law_1452]
      exact hnn u2 h3
    · obtain ⟨r, u1, u2, h1, h2, h3⟩ := ST_cell (xs (nI (6 * k) + 1).toNatClampNeg) u hu
      simp only [hs1, hs2, hs3, hs4, hs5, if_true, h1, Option.bind_some, h2, F_law_1452]
      exact hnn u2 h3
    · obtain ⟨r, u1, u2, h1, h2, h3⟩ := ST_year u hu
      simp only [hs1, hs2, hs3, hs4, hs5, if_true, h1, Option.bind_some, h2, F_law_1452]
      exact hnn u2 h3
    · obtain ⟨r, u1, u2, h1, h2, h3⟩ := ST_paddle (xs (nI (6 * k) + 1).toNatClampNeg) u hu
      simp only [hs1, hs2, hs3, hs4, hs5, if_true, h1, Option.bind_some, h2, F_law_1452]
      exact hnn u2 h3
    · obtain ⟨r, u1, u2, h1, h2, h3⟩ := ST_move (xs (nI (6 * k) + 1).toNatClampNeg) (xs (nI (6 * k) + 2).toNatClampNeg) u hu
      simp only [hs1, hs2, hs3, hs4, hs5, if_true, h1, Option.bind_some, h2, F_law_1452]
      exact hnn u2 h3
    · obtain ⟨r, u1, u2, h1, h2, h3⟩ := ST_take (xs (nI (6 * k) + 1).toNatClampNeg) u hu
      simp only [hs1, hs2, hs3, hs4, hs5, if_true, h1, Option.bind_some, h2, F_law_1452]
      exact hnn u2 h3
    · obtain ⟨r, u1, u2, h1, h2, h3⟩ := ST_undo (xs (nI (6 * k) + 1).toNatClampNeg) u hu
      simp only [hs1, hs2, hs3, hs4, hs5, if_true, h1, Option.bind_some, h2, F_law_1452]
      exact hnn u2 h3
    · obtain ⟨r, u1, u2, h1, h2, h3⟩ := ST_keep (xs (nI (6 * k) + 1).toNatClampNeg) u hu
      simp only [hs1, hs2, hs3, hs4, hs5, if_true, h1, Option.bind_some, h2, F_law_1452]
      exact hnn u2 h3
    · obtain ⟨r, u1, u2, h1, h2, h3⟩ := ST_on (xs (nI (6 * k) + 1).toNatClampNeg) u hu
      simp only [hs1, hs2, hs3, hs4, hs5, if_true, h1, Option.bind_some, h2, F_law_1452]
      exact hnn u2 h3
    · obtain ⟨r, u1, u2, h1, h2, h3⟩ := ST_lies (xs (nI (6 * k) + 1).toNatClampNeg) (xs (nI (6 * k) + 2).toNatClampNeg) u hu
      simp only [hs1, hs2, hs3, hs4, hs5, if_true, h1, Option.bind_some, h2, F_law_1452]
      exact hnn u2 h3
    · obtain ⟨r, u1, u2, h1, h2, h3⟩ := ST_three u hu
      simp only [hs1, hs2, hs3, hs4, hs5, if_true, h1, Option.bind_some, h2, F_law_1452]
      exact hnn u2 h3
    · obtain ⟨r, u1, u2, h1, h2, h3⟩ := ST_moves (xs (nI (6 * k) + 1).toNatClampNeg) (xs (nI (6 * k) + 2).toNatClampNeg) (xs (nI (6 * k) + 3).toNatClampNeg) u hu
      simp only [hs1, hs2, hs3, hs4, hs5, if_true, h1, Option.bind_some, h2, F_law_1452]
      exact hnn u2 h3
    · obtain ⟨r, u1, u2, h1, h2, h3⟩ := ST_owned (xs (nI (6 * k) + 1).toNatClampNeg) u hu
      simp only [hs1, hs2, hs3, hs4, hs5, if_true, h1, Option.bind_some, h2, F_law_1452]
      exact hnn u2 h3
    · obtain ⟨r, u1, u2, h1, h2, h3⟩ := ST_thrown (xs (nI (6 * k) + 1).toNatClampNeg) (xs (nI (6 * k) + 2).toNatClampNeg) (xs (nI (6 * k) + 3).toNatClampNeg) u hu
      simp only [hs1, hs2, hs3, hs4, hs5, if_true, h1, Option.bind_some, h2, F_law_1452]
      exact hnn u2 h3
    · obtain ⟨r, u1, u2, h1, h2, h3⟩ := ST_stand (xs (nI (6 * k) + 1).toNatClampNeg) u hu
      simp only [hs1, hs2, hs3, hs4, hs5, if_true, h1, Option.bind_some, h2, F_law_1452]
      exact hnn u2 h3
    · obtain ⟨r, u1, u2, h1, h2, h3⟩ := ST_level (xs (nI (6 * k) + 1).toNatClampNeg) u hu
      simp only [hs1, hs2, hs3, hs4, hs5, if_true, h1, Option.bind_some, h2, F_law_1452]
      exact hnn u2 h3
    · obtain ⟨r, u1, u2, h1, h2, h3⟩ := ST_home (xs (nI (6 * k) + 1).toNatClampNeg) u hu
      simp only [hs1, hs2, hs3, hs4, hs5, if_true, h1, Option.bind_some, h2, F_law_1452]
      exact hnn u2 h3
    · obtain ⟨r, u1, u2, h1, h2, h3⟩ := ST_stops (xs (nI (6 * k) + 1).toNatClampNeg) u hu
      simp only [hs1, hs2, hs3, hs4, hs5, if_true, h1, Option.bind_some, h2, F_law_1452]
      exact hnn u2 h3
    · obtain ⟨r, u1, u2, h1, h2, h3⟩ := ST_starts (xs (nI (6 * k) + 1).toNatClampNeg) (xs (nI (6 * k) + 2).toNatClampNeg) u hu
      simp only [hs1, hs2, hs3, hs4, hs5, if_true, h1, Option.bind_some, h2, F_law_1452]
      exact hnn u2 h3
    · obtain ⟨r, u1, u2, h1, h2, h3⟩ := ST_weights (xs (nI (6 * k) + 1).toNatClampNeg) (xs (nI (6 * k) + 2).toNatClampNeg) u hu
      simp only [hs1, hs2, hs3, hs4, hs5, if_true, h1, Option.bind_some, h2, F_law_1452]
      exact hnn u2 h3
    · obtain ⟨r, u1, u2, h1, h2, h3⟩ := ST_kinds (xs (nI (6 * k) + 1).toNatClampNeg) (xs (nI (6 * k) + 2).toNatClampNeg) u hu
      simp only [hs1, hs2, hs3, hs4, hs5, if_true, h1, Option.bind_some, h2, F_law_1452]
      exact hnn u2 h3
    · obtain ⟨r, u1, u2, h1, h2, h3⟩ := ST_night (xs (nI (6 * k) + 1).toNatClampNeg) (xs (nI (6 * k) + 2).toNatClampNeg) (xs (nI (6 * k) + 3).toNatClampNeg) (xs (nI (6 * k) + 4).toNatClampNeg) u hu
      simp only [hs1, hs2, hs3, hs4, hs5, if_true, h1, Option.bind_some, h2, F_law_1452]
      exact hnn u2 h3
    · obtain ⟨r, u1, u2, h1, h2, h3⟩ := ST_odds (xs (nI (6 * k) + 1).toNatClampNeg) (xs (nI (6 * k) + 2).toNatClampNeg) (xs (nI (6 * k) + 3).toNatClampNeg) (xs (nI (6 * k) + 4).toNatClampNeg) u hu
      simp only [hs1, hs2, hs3, hs4, hs5, if_true, h1, Option.bind_some, h2, F_law_1452]
      exact hnn u2 h3
    · obtain ⟨r, u1, u2, h1, h2, h3⟩ := ST_mid (xs (nI (6 * k) + 1).toNatClampNeg) (xs (nI (6 * k) + 2).toNatClampNeg) (xs (nI (6 * k) + 3).toNatClampNeg) u hu
      simp only [hs1, hs2, hs3, hs4, hs5, if_true, h1, Option.bind_some, h2, F_law_1452]
      exact hnn u2 h3
    · obtain ⟨r, u1, u2, h1, h2, h3⟩ := ST_lots (xs (nI (6 * k) + 1).toNatClampNeg) (xs (nI (6 * k) + 2).toNatClampNeg) u hu
      simp only [hs1, hs2, hs3, hs4, hs5, if_true, h1, Option.bind_some, h2, F_law_1452]
      exact hnn u2 h3
    · obtain ⟨r, u1, u2, h1, h2, h3⟩ := ST_asked u hu
      simp only [hs1, hs2, hs3, hs4, hs5, if_true, h1, Option.bind_some, h2, F_law_1452]
      exact hnn u2 h3
    · obtain ⟨r, u1, u2, h1, h2, h3⟩ := ST_upper u hu
      simp only [hs1, hs2, hs3, hs4, hs5, if_true, h1, Option.bind_some, h2, lgc_eq, F_law_1452]
      exact hnn u2 h3
    · obtain ⟨r, u1, u2, h1, h2, h3⟩ := ST_lower u hu
      simp only [hs1, hs2, hs3, hs4, hs5, if_true, h1, Option.bind_some, h2, lgc_eq, F_law_1452]
      exact hnn u2 h3
    · obtain ⟨r, u1, u2, h1, h2, h3⟩ := ST_count (xs (nI (6 * k) + 1).toNatClampNeg) u hu
      simp only [hs1, hs2, hs3, hs4, hs5, if_true, h1, Option.bind_some, h2, F_law_1452]
      exact hnn u2 h3
    · obtain ⟨r, u1, u2, h1, h2, h3⟩ := ST_finding u hu
      simp only [hs1, hs2, hs3, hs4, hs5, if_true, h1, Option.bind_some, h2, F_law_1452]
      exact hnn u2 h3
    · obtain ⟨r, u1, u2, h1, h2, h3⟩ := ST_findings (xs (nI (6 * k) + 1).toNatClampNeg) u hu
      simp only [hs1, hs2, hs3, hs4, hs5, if_true, h1, Option.bind_some, h2, F_law_1452]
      exact hnn u2 h3
    · obtain ⟨r, u1, u2, h1, h2, h3⟩ := ST_digest u hu
      simp only [hs1, hs2, hs3, hs4, hs5, if_true, h1, Option.bind_some, h2, lgc_eq, F_law_1452]
      exact hnn u2 h3
theorem law_its (L : Nat) (xs : Nat → Int32) (hL : L ≤ 3072) : ∀ (n k : Nat) (u : XM), REL u → 6 * k ≤ L → L < 6 * (n + k) → ∃ ue, F_law_18 L xs n (nI (6 * k)) u = some (1, ue)
  | 0, k, u, _, h1, h2 => by omega
  | n + 1, k, u, hu, h1, h2 => law_it L xs hL n k u hu h1 (fun u' hu' hk => by
      have := law_its L xs hL n (k + 1) u' hu' hk (by omega)
      rw [show nI (6 * k) + 6 = nI (6 * (k + 1)) from nI_add (6 * k) 6]
      exact this)
theorem PURE (L : Nat) (xs : Nat → Int32) (hL : L ≤ 3072) : ∃ ue, F_law L xs U_X5_init = some (1, ue) := by
  have := law_its L xs hL 1000 0 U_X5_init REL_init (by omega) (by omega)
  exact this
