/-! ===== when three lie in one place ===== -/
theorem nI_or (a b : Nat) : nI a ||| nI b = nI (a ||| b) := by
  apply Int32.toBitVec_inj.mp
  show BitVec.ofNat 32 a ||| BitVec.ofNat 32 b = BitVec.ofNat 32 (a ||| b)
  exact BitVec.ofNat_or.symm
theorem nI_and (a b : Nat) : nI a &&& nI b = nI (a &&& b) := by
  apply Int32.toBitVec_inj.mp
  show BitVec.ofNat 32 a &&& BitVec.ofNat 32 b = BitVec.ofNat 32 (a &&& b)
  exact BitVec.ofNat_and.symm
theorem shl1 : ∀ x, x < 20 → (1 : Int32) <<< (nI x &&& 31) = nI (2 ^ x) := by decide +kernel
def ntzF (v : Int32) : Int32 := ((F_J6_numberOfTrailingZeros_0f7a4 YY v U_X5_init).map Prod.fst).getD 0
theorem ntz_u (v : Int32) (u : XM) : F_J6_numberOfTrailingZeros_0f7a4 YY v u = some (ntzF v, u) := by
  unfold ntzF F_J6_numberOfTrailingZeros_0f7a4 F_J6_numberOfTrailingZeros_0f7a4_34 F_J6_numberOfTrailingZeros_0f7a4_49 F_J6_numberOfTrailingZeros_0f7a4_62 F_J6_numberOfTrailingZeros_0f7a4_74
  repeat' split
  all_goals rfl
def cnN (P : CP) (S : PS) (n c : Nat) : Nat → Nat → Nat → Nat
  | _, 0, acc => acc
  | i, m + 1, acc => cnN P S n c (i + 1) m (if S.1 i ≠ 8 ∧ inY P S i n (S.1 i) = c then acc + 1 else acc)
def fcF (p : Nat → Bool) : Nat → Nat → Option Nat
  | _, 0 => none
  | c, m + 1 => if p c = true then some c else fcF p (c + 1) m
theorem fcF_congr {p q : Nat → Bool} : ∀ (m c : Nat), (∀ j, c ≤ j → j < c + m → p j = q j) → fcF p c m = fcF q c m
  | 0, _, _ => rfl
  | m + 1, c, h => by
    unfold fcF
    rw [h c (Nat.le_refl _) (by omega), fcF_congr m (c + 1) (fun j h1 h2 => h j (by omega) (by omega))]
def ocI (o : Option Nat) : Int32 := match o with
  | none => -9
  | some c => nI c
theorem low_q : ∀ d, d < 256 → (if d = 0 then -9 else ntzF (nI d)) = ocI (fcF d.testBit 0 8) := by decide +kernel
theorem crowd_l {u : XM} {P : CP} {S : PS} (hC : curC u P S) (hP : okP P) (hS : okS P S) (hy : S.2.2 ≤ 40) {n : Nat} (hn : n < 900) : ∀ (m i a b d : Nat) (q : Nat → Nat), i + m = pT P → a < 256 → b < 256 → d < 256 → (∀ c, a.testBit c = decide (c < 8 ∧ 1 ≤ q c) ∧ b.testBit c = decide (c < 8 ∧ 2 ≤ q c) ∧ d.testBit c = decide (c < 8 ∧ 3 ≤ q c)) → ∀ fuel, m < fuel → ∃ d', d' < 256 ∧ (∀ c, d'.testBit c = decide (c < 8 ∧ 3 ≤ cnN P S n c i m (q c))) ∧ F_X0_crowdedCell_10 fuel (nI n) (nI a) (nI b) (nI d) (nI i) u = some (if d' = 0 then -9 else ntzF (nI d'), u)
  | 0, i, a, b, d, q, hi, ha, hb, hd, hq, fuel + 1, _ => by
    have hT := hP.1
    refine ⟨d, hd, fun c => (hq c).2.2, ?_⟩
    unfold F_X0_crowdedCell_10
    rw [hC.1, if_pos (nI_le (by omega) (by omega))]
    by_cases h0 : d = 0
    · rw [h0]; rfl
    · rw [if_neg (nI_ne0 (by omega) (by omega)), if_neg h0, ntz_u]; rfl
  | m + 1, i, a, b, d, q, hi, ha, hb, hd, hq, fuel + 1, hf => by
    have hT := hP.1
    have hi' : i < pT P := by omega
    have hs := hS.1 i hi'
    unfold F_X0_crowdedCell_10 cnN F_X0_crowdedCell_70
    rw [hC.1, if_neg (nI_ge (by omega) (by omega)), isTaken4 hC hP hS hi']
    by_cases h8 : S.1 i = 8
    · rw [if_pos h8, bd1, nI_1]
      obtain ⟨d', g1, g2, g3⟩ := crowd_l hC hP hS hy hn m (i + 1) a b d q (by omega) ha hb hd hq fuel (by omega)
      refine ⟨d', g1, fun c => ?_, g3⟩
      rw [g2 c, if_neg (fun z => z.1 h8)]
    · rw [if_neg h8, bd0, if_pos (ainN rfl (show i < 6 by omega) (by decide)), nI_clamp (by omega)]
      show ∃ d', d' < 256 ∧ _ ∧ Option.bind (F_X0_cellAfter (nI i) (mi u 25 i) (nI n) u) _ = _
      have hle := inY_le (P := P) (S := S) (i := i) (n := n) (c := S.1 i) (by omega)
      rw [(hC.2.2.2.2 i hi').2.2.2, eC_n (by omega), cellAfter4 hC hP hS hy hi' hn (by omega), Option.bind_some]
      generalize inY P S i n (S.1 i) = x at *
      have hx : 2 ^ x < 256 := Nat.pow_lt_pow_right (by decide) (show x < 8 by omega)
      show ∃ d', d' < 256 ∧ _ ∧ F_X0_crowdedCell_10 fuel (nI n) (nI a ||| 1 <<< (nI x &&& 31)) (nI b ||| nI a &&& 1 <<< (nI x &&& 31)) (nI d ||| nI b &&& 1 <<< (nI x &&& 31)) (nI i + 1) u = _
      rw [shl1 x (by omega), nI_and, nI_and, nI_or, nI_or, nI_or, nI_1]
      obtain ⟨d', g1, g2, g3⟩ := crowd_l hC hP hS hy hn m (i + 1) (a ||| 2 ^ x) (b ||| a &&& 2 ^ x) (d ||| b &&& 2 ^ x) (fun c => if x = c then q c + 1 else q c) (by omega) (Nat.or_lt_two_pow (n := 8) ha hx) (Nat.or_lt_two_pow (n := 8) hb (Nat.and_lt_two_pow (n := 8) a hx)) (Nat.or_lt_two_pow (n := 8) hd (Nat.and_lt_two_pow (n := 8) b hx)) (fun c => by
        obtain ⟨q1, q2, q3⟩ := hq c
        simp only [Nat.testBit_or, Nat.testBit_and, Nat.testBit_two_pow, q1, q2, q3]
        by_cases hxc : x = c
        · subst hxc
          have : x < 8 := by omega
          simp only [this, true_and, decide_true, Bool.and_true, if_true, Bool.or_true]
          refine ⟨?_, ?_, ?_⟩ <;> simp <;> omega
        · simp [hxc]) fuel (by omega)
      refine ⟨d', g1, fun c => ?_, g3⟩
      rw [g2 c]
      by_cases hxc : x = c
      · rw [if_pos hxc, if_pos ⟨h8, hxc⟩]
      · rw [if_neg hxc, if_neg (fun z => hxc z.2)]
def thr (P : CP) (S : PS) (n : Nat) : Option Nat := fcF (fun c => decide (3 ≤ cnN P S n c 0 (pT P) 0)) 0 8
theorem crowd4 {u : XM} {P : CP} {S : PS} (hC : curC u P S) (hP : okP P) (hS : okS P S) (hy : S.2.2 ≤ 40) {n : Nat} (hn : n < 900) : F_X0_crowdedCell (nI n) u = some (ocI (thr P S n), u) := by
  have hT := hP.1
  obtain ⟨d', g1, g2, g3⟩ := crowd_l hC hP hS hy hn (pT P) 0 0 0 0 (fun _ => 0) (by omega) (by decide) (by decide) (by decide) (fun c => by simp) FU (by show pT P < 1000; omega)
  rw [low_q d' g1, fcF_congr (q := fun c => decide (3 ≤ cnN P S n c 0 (pT P) 0)) 8 0 (fun j _ hj => by rw [g2 j]; simp [show j < 8 by omega])] at g3
  exact g3
