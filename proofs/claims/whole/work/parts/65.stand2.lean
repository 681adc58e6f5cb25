/-! ===== stand: the class' side ===== -/
def bbQ (P : CP) (S : PS) (x : Nat) : Bool := decide (x < pT P ∧ ¬ S.1 x = 8)
def dsQ (P : CP) (S : PS) (w i : Nat) : Nat := (pG P w - S.1 i) + (S.1 i - pG P w)
def cvQ (P : CP) (S : PS) (s : Nat) : Nat → Bool := fun x => bbQ P S x && !s.testBit x
def LBQ (u : XM) (s : Option (Nat × AL)) : Prop := (s = none ∧ mi u 29 2 = 2147483647) ∨ ∃ (c : Nat) (q : AL), s = some (c, q) ∧ mi u 29 2 = nI c ∧ c < 1000 ∧ ∀ p ∈ q, mi u 31 p.1 = nI p.2
def SFQ (i : Nat) (u v : XM) : Prop := (∀ a, a ≠ 29 → a ≠ 30 → a ≠ 31 → mi v a = mi u a) ∧ ml v = ml u ∧ ∀ j, j < i → mi v 30 j = mi u 30 j
theorem SFQ.rf (i : Nat) (u : XM) : SFQ i u u := ⟨fun _ _ _ _ => rfl, rfl, fun _ _ => rfl⟩
theorem SFQ.cur {i : Nat} {u v : XM} {P : CP} {S : PS} (h : SFQ i u v) (hC : curC u P S) : curC v P S := by
  unfold curC
  rw [h.1 22 (by decide) (by decide) (by decide), h.1 23 (by decide) (by decide) (by decide), h.1 26 (by decide) (by decide) (by decide), h.1 27 (by decide) (by decide) (by decide), h.1 25 (by decide) (by decide) (by decide)]
  exact hC
theorem LBQ.fr {u v : XM} {s : Option (Nat × AL)} (h : LBQ u s) (e1 : mi v 29 2 = mi u 29 2) (e2 : mi v 31 = mi u 31) : LBQ v s := by
  unfold LBQ
  rw [e1, e2]
  exact h
theorem bbQ_t {P : CP} {S : PS} {x : Nat} (h1 : x < pT P) (h2 : ¬ S.1 x = 8) : bbQ P S x = true := decide_eq_true ⟨h1, h2⟩
theorem bbQ_x {P : CP} {S : PS} {x : Nat} (h : bbQ P S x = true) : x < pT P ∧ ¬ S.1 x = 8 := of_decide_eq_true h
theorem bbQ_o {P : CP} {S : PS} (x : Nat) (h : pT P ≤ x) : bbQ P S x = false := decide_eq_false (fun z => by have := z.1; omega)
theorem bbQ_8 {P : CP} {S : PS} {x : Nat} (h : S.1 x = 8) : bbQ P S x = false := decide_eq_false (fun z => z.2 h)
theorem cvQ_o {P : CP} {S : PS} {s : Nat} (x : Nat) (h : pT P ≤ x) : cvQ P S s x = false := by
  unfold cvQ
  rw [bbQ_o x h]
  rfl
theorem cvQ_av (P : CP) (S : PS) (s a : Nat) : avQ (cvQ P S s) a = cvQ P S (s ||| 2 ^ a) := by
  funext x
  unfold avQ cvQ
  rw [Nat.testBit_or, Nat.testBit_two_pow]
  by_cases h : x = a
  · subst h; simp
  · have h2 : ¬ a = x := fun e => h e.symm
    simp [h, h2]
theorem cvQ_0 (P : CP) (S : PS) : cvQ P S 0 = bbQ P S := by
  funext x
  unfold cvQ
  simp
theorem LBQ.cmp {u : XM} {st : Option (Nat × AL)} {sum : Nat} (hL : LBQ u st) (hs : sum < 1000) : (nI sum < mi u 29 2 ∧ ∀ pre, b1Q st (sum, pre) = some (sum, pre)) ∨ (¬ nI sum < mi u 29 2 ∧ ∃ y, st = some y ∧ y.1 ≤ sum) := by
  rcases hL with ⟨e, h⟩ | ⟨c, q, e, h1, h2, h3⟩
  · left
    rw [h, e, show (2147483647 : Int32) = nI 2147483647 from rfl]
    exact ⟨nI_lt (by omega) (by decide), fun _ => rfl⟩
  · rw [h1, e]
    by_cases q1 : sum < c
    · left
      refine ⟨nI_lt q1 (by omega), fun pre => ?_⟩
      show (if sum < c then some (sum, pre) else some (c, q)) = _
      rw [if_pos q1]
    · right
      exact ⟨nI_nlt (by omega) (by omega), (c, q), rfl, by show c ≤ sum; omega⟩
theorem dsQ_le {P : CP} {S : PS} (hP : okP P) (hS : okS P S) {w i : Nat} (hw : w < pT P) (hi : i < pT P) (h8 : ¬ S.1 i = 8) : dsQ P S w i ≤ 7 := by
  have h1 := (hP.2.2 w hw).2.2
  have h2 := hS.1 i hi
  unfold dsQ
  omega
theorem seat63 {P : CP} {S : PS} (hP : okP P) (hS : okS P S) {i s sum : Nat} {pre : AL} (hi : i < pT P) (hi8 : ¬ S.1 i = 8) (hs : s < 64) (hsum : sum ≤ 7 * i) {kR : Int32 → Int32 → Int32 → XM → Option (Unit × XM)} {R : List Nat} (hk : ∀ (s sum : Nat) (pre : AL) (u : XM) (st : Option (Nat × AL)), s < 64 → sum ≤ 7 * (i + 1) → curC u P S → (∀ p ∈ pre, p.1 < i + 1 ∧ mi u 30 p.1 = nI p.2) → LBQ u st → ∃ u', kR (nI (i + 1)) (nI s) (nI sum) u = some ((), u') ∧ LBQ u' (bsQ st (lvQ (dsQ P S) R (cvQ P S s) sum pre)) ∧ SFQ (i + 1) u u') : ∀ (m a : Nat) (u : XM) (st : Option (Nat × AL)), a + m = pT P → curC u P S → (∀ p ∈ pre, p.1 < i ∧ mi u 30 p.1 = nI p.2) → LBQ u st → ∀ fuel, m < fuel → ∃ u', F_X1_seat_63 kR fuel (nI i) (nI s) (nI sum) (nI a) u = some ((), u') ∧ LBQ u' (bsQ st (fmQ (fun w => lvQ (dsQ P S) R (avQ (cvQ P S s) w) (sum + dsQ P S w i) (pre ++ [(i, w)])) (lyQ (cvQ P S s) (6 - a) a))) ∧ SFQ i u u'
  | 0, a, u, st, ha, hC, hp, hL, fuel + 1, _ => by
    have hT := hP.1
    refine ⟨u, ?_, ?_, SFQ.rf i u⟩
    · rw [F_X1_seat_63, hC.1, if_pos (nI_le (by omega) (by omega))]
    · rw [lyQ_nil (T := pT P) cvQ_o _ _ (by omega)]
      exact hL
  | m + 1, a, u, st, ha, hC, hp, hL, fuel + 1, hf => by
    have hT := hP.1
    have haT : a < pT P := by omega
    have ih := fun u st h1 h2 h3 => seat63 (pre := pre) hP hS hi hi8 hs hsum hk m (a + 1) u st (by omega) h1 h2 h3 fuel (by omega)
    rw [lyQ_s _ (show a < 6 by omega), F_X1_seat_63, hC.1, if_neg (nI_ge (by omega) (by omega)), isTaken4 hC hP hS haT]
    unfold F_X1_seat_135
    by_cases h8 : S.1 a = 8
    · rw [if_pos h8, bd1, nI_1, if_neg (show ¬ cvQ P S s a = true by unfold cvQ; rw [bbQ_8 h8]; simp)]
      exact ih u st hC hp hL
    · rw [if_neg h8, bd0]
      show ∃ u', (if ((nI s >>> (nI a &&& 31)) &&& 1) = 0 then (if ain YY 0 30 (nI i) = true then (if ain YY 0 27 (nI a) = true then (if ain YY 0 25 (nI i) = true then Option.bind (F_J9_abs_0f7a4 YY (mi u 27 (Int32.toNatClampNeg (nI a)) - mi u 25 (Int32.toNatClampNeg (nI i))) (wi u 30 (Int32.toNatClampNeg (nI i)) (nI a))) (fun x2 => Option.bind (kR (nI i + 1) (nI s ||| (1 <<< (nI a &&& 31))) (nI sum + x2.1) x2.2) (fun x3 => F_X1_seat_63 kR fuel (nI i) (nI s) (nI sum) (nI a + 1) x3.2)) else none) else none) else none) else F_X1_seat_63 kR fuel (nI i) (nI s) (nI sum) (nI a + 1) u) = _ ∧ _
      rw [bitAt (show s < 2 ^ 31 by omega) (show a < 20 by omega)]
      by_cases hb : s.testBit a = true
      · rw [if_pos hb, if_neg ne10, nI_1, if_neg (show ¬ cvQ P S s a = true by unfold cvQ; rw [hb, bbQ_t haT h8]; decide)]
        exact ih u st hC hp hL
      · have hg := (hP.2.2 a haT).2.2
        have hc7 : S.1 i ≤ 7 := by have := hS.1 i hi; omega
        have hd := dsQ_le hP hS haT hi hi8
        obtain ⟨t1, t2⟩ := sb_step a (by omega) s hs
        rw [if_neg hb, if_pos rfl, if_pos (ainN rfl (show i < 6 by omega) (by decide)), if_pos (ainN rfl (show a < 6 by omega) (by decide)), if_pos (ainN rfl (show i < 6 by omega) (by decide)), nI_clamp (show a < 2 ^ 31 by omega), nI_clamp (show i < 2 ^ 31 by omega), (hC.2.2.2.2 a haT).2.2.1, (hC.2.2.2.2 i hi).2.2.2, eC_n hc7, abs4 _ (by omega) (by omega), Option.bind_some]
        show ∃ u', Option.bind (kR (nI i + 1) (nI s ||| (1 <<< (nI a &&& 31))) (nI sum + nI (dsQ P S a i)) (wi u 30 i (nI a))) (fun x3 => F_X1_seat_63 kR fuel (nI i) (nI s) (nI sum) (nI a + 1) x3.2) = _ ∧ _
        rw [t1, show nI i + 1 = nI (i + 1) from nI_1 i, show nI a + 1 = nI (a + 1) from nI_1 a, nI_add]
        have f1 : SFQ i u (wi u 30 i (nI a)) := ⟨fun b _ h2 _ => xmi_ne h2, rfl, fun j hj => by rw [mi_wi, if_neg (by omega)]⟩
        obtain ⟨u2, k1, k2, k3⟩ := hk (s ||| 2 ^ a) (sum + dsQ P S a i) (pre ++ [(i, a)]) (wi u 30 i (nI a)) st t2 (by omega) (f1.cur hC) (fun p hp' => (List.mem_append.mp hp').elim (fun h => by
            have := hp p h
            refine ⟨by omega, ?_⟩
            rw [f1.2.2 _ this.1]
            exact this.2) (fun h => by
            rw [List.mem_singleton.mp h]
            refine ⟨Nat.lt_succ_self i, ?_⟩
            rw [mi_wi, if_pos ⟨rfl, rfl⟩])) (hL.fr (by rw [xmi_ne (by decide)]) (by rw [xmi_ne (by decide)]))
        rw [k1, Option.bind_some]
        obtain ⟨u3, j1, j2, j3⟩ := ih u2 _ (k3.cur (f1.cur hC)) (fun p hp' => by
          have := hp p hp'
          refine ⟨this.1, ?_⟩
          rw [k3.2.2 _ (by omega), f1.2.2 _ this.1]
          exact this.2) k2
        refine ⟨u3, j1, ?_, fun b h1 h2 h3 => ?_, ?_, fun j hj => ?_⟩
        · rw [if_pos (show cvQ P S s a = true by unfold cvQ; rw [bbQ_t haT h8]; simp [hb])]
          show LBQ u3 (bsQ st (lvQ (dsQ P S) R (avQ (cvQ P S s) a) (sum + dsQ P S a i) (pre ++ [(i, a)]) ++ fmQ (fun w => lvQ (dsQ P S) R (avQ (cvQ P S s) w) (sum + dsQ P S w i) (pre ++ [(i, w)])) (lyQ (cvQ P S s) (6 - (a + 1)) (a + 1))))
          rw [bsQ_app, cvQ_av P S s a]
          exact j2
        · rw [j3.1 b h1 h2 h3, k3.1 b h1 h2 h3, f1.1 b h1 h2 h3]
        · rw [j3.2.1, k3.2.1]; rfl
        · rw [j3.2.2 j hj, k3.2.2 j (by omega), f1.2.2 j hj]
theorem seat_l {P : CP} {S : PS} (hP : okP P) (hS : okS P S) : ∀ (d i s sum : Nat) (pre : AL) (u : XM) (st : Option (Nat × AL)), i + d = pT P → s < 64 → sum ≤ 7 * i → curC u P S → (∀ p ∈ pre, p.1 < i ∧ mi u 30 p.1 = nI p.2) → LBQ u st → ∀ fuel, d < fuel → ∃ u', F_X1_seat fuel (nI i) (nI s) (nI sum) u = some ((), u') ∧ LBQ u' (bsQ st (lvQ (dsQ P S) (lyQ (bbQ P S) (6 - i) i) (cvQ P S s) sum pre)) ∧ SFQ i u u'
  | 0, i, s, sum, pre, u, st, hd, hs, hsum, hC, hp, hL, fuel + 1, _ => by
    have hT := hP.1
    show ∃ u', B_X1_seat (F_X1_seat fuel) (nI i) (nI s) (nI sum) u = _ ∧ _
    unfold B_X1_seat
    rcases hL.cmp (show sum < 1000 by omega) with ⟨c, hb⟩ | ⟨c, y, e, hy⟩
    · rw [if_pos c, has4 hC hP, if_neg (show ¬ (0 ≤ (nI i).toInt ∧ (nI i).toInt < (pT P : Int)) by rw [nI_toInt (by omega)]; omega), bd0, show alen YY 0 30 = some 6 from alenN rfl, show alen YY 0 31 = some 6 from alenN rfl, Option.bind_some, Option.bind_some, if_pos (by decide), c0, c_6]
      refine ⟨wc (wi u 29 2 (nI sum)) 30 0 31 0 6, rfl, ?_, fun a h1 h2 h3 => by rw [xmi_wcne h3, xmi_ne h1], rfl, fun j hj => by rw [xmi_wcne (by decide), xmi_ne (by decide)]⟩
      rw [lyQ_nil (T := pT P) bbQ_o _ _ (by omega)]
      show LBQ _ (b1Q st (sum, pre))
      rw [hb pre]
      refine Or.inr ⟨sum, pre, rfl, ?_, by omega, fun p hp' => ?_⟩
      · rw [xmi_wcne (by decide), mi_wi, if_pos ⟨rfl, rfl⟩]
      · have := hp p hp'
        rw [mi_wc, if_pos ⟨rfl, by omega⟩, show 0 + (p.1 - 0) = p.1 by omega, xmi_ne (by decide)]
        exact this.2
    · rw [if_neg c]
      refine ⟨u, rfl, ?_, SFQ.rf i u⟩
      rw [e, bsQ_keep y _ (fun x hx => Nat.le_trans hy (lvQ_ge _ _ _ _ _ x hx)), ← e]
      exact hL
  | d + 1, i, s, sum, pre, u, st, hd, hs, hsum, hC, hp, hL, fuel + 1, hf => by
    have hT := hP.1
    have hi : i < pT P := by omega
    show ∃ u', B_X1_seat (F_X1_seat fuel) (nI i) (nI s) (nI sum) u = _ ∧ _
    unfold B_X1_seat
    rcases hL.cmp (show sum < 1000 by omega) with ⟨c, hb⟩ | ⟨c, y, e, hy⟩
    · rw [if_pos c, has4 hC hP, if_pos (show 0 ≤ (nI i).toInt ∧ (nI i).toInt < (pT P : Int) by rw [nI_toInt (by omega)]; omega), bd1]
      show ∃ u', Option.bind (F_X0_isTaken (nI i) u) _ = _ ∧ _
      rw [isTaken4 hC hP hS hi, lyQ_s _ (show i < 6 by omega)]
      by_cases h8 : S.1 i = 8
      · rw [if_pos h8, bd1, if_neg (show ¬ bbQ P S i = true by rw [bbQ_8 h8]; decide), nI_1]
        obtain ⟨u', a1, a2, a3⟩ := seat_l hP hS d (i + 1) s sum pre u st (by omega) hs (by omega) hC (fun p hp' => ⟨by have := (hp p hp').1; omega, (hp p hp').2⟩) hL fuel (by omega)
        refine ⟨u', ?_, a2, a3.1, a3.2.1, fun j hj => a3.2.2 j (by omega)⟩
        show Option.bind (F_X1_seat fuel (nI (i + 1)) (nI s) (nI sum) u) _ = _
        rw [a1]
        rfl
      · rw [if_neg h8, bd0, if_pos (bbQ_t hi h8)]
        exact seat63 hP hS hi h8 hs hsum (fun s sum pre u st h1 h2 h3 h4 h5 => seat_l hP hS d (i + 1) s sum pre u st (by omega) h1 h2 h3 h4 h5 fuel (by omega)) (pT P) 0 u st (by omega) hC hp hL FU (show pT P < 1000 by omega)
    · rw [if_neg c]
      refine ⟨u, rfl, ?_, SFQ.rf i u⟩
      rw [e, bsQ_keep y _ (fun x hx => Nat.le_trans hy (lvQ_ge _ _ _ _ _ x hx)), ← e]
      exact hL
theorem leastSum4 {u : XM} {P : CP} {S : PS} (hC : curC u P S) (hP : okP P) (hS : okS P S) : ∃ u', F_X1_leastSum u = some (mi u' 29 2, u') ∧ LBQ u' (bsQ none (lvQ (dsQ P S) (lyQ (bbQ P S) 6 0) (bbQ P S) 0 [])) ∧ SFQ 0 u u' := by
  have hT := hP.1
  have f1 : SFQ 0 u (wi u 29 2 2147483647) := ⟨fun b h1 _ _ => xmi_ne h1, rfl, fun j hj => absurd hj (Nat.not_lt_zero _)⟩
  obtain ⟨u', a1, a2, a3⟩ := seat_l hP hS (pT P) 0 0 0 [] (wi u 29 2 2147483647) none (by omega) (by decide) (by decide) (f1.cur hC) (fun p hp => absurd hp List.not_mem_nil) (Or.inl ⟨rfl, by rw [mi_wi, if_pos ⟨rfl, rfl⟩]⟩) 10 (by omega)
  rw [cvQ_0] at a2
  refine ⟨u', ?_, a2, fun b h1 h2 h3 => by rw [a3.1 b h1 h2 h3, f1.1 b h1 h2 h3], by rw [a3.2.1, f1.2.1], fun j hj => absurd hj (Nat.not_lt_zero _)⟩
  unfold F_X1_leastSum
  rw [show (0 : Int32) = nI 0 from rfl, a1]
  rfl
