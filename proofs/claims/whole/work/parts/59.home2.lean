/-! ===== the reference's way home ===== -/
theorem bit31 : ∀ q, q < 20 → (((nI q &&& 31) : Int32).toBitVec.smod 32).toNat = q := by decide +kernel
theorem bitAt {b q : Nat} (hb : b < 2 ^ 31) (hq : q < 20) : (nI b >>> (nI q &&& 31)) &&& 1 = if b.testBit q = true then 1 else 0 := by
  rw [pk_shrN hb _ q (bit31 q hq), show (1 : Int32) = nI 1 from rfl, nI_and, Nat.and_one_is_mod, Nat.testBit_eq_decide_div_mod_eq]
  have h2 : b / 2 ^ q % 2 = 0 ∨ b / 2 ^ q % 2 = 1 := by omega
  rcases h2 with h2 | h2
  · rw [h2]; rfl
  · rw [h2]; rfl
theorem has5 {b q : Nat} (hb : b < 2 ^ 31) (hq : q < 20) (u : XM) : F_X5_has (nI b) (nI q) u = some (if b.testBit q = true then 1 else 0, u) := by
  unfold F_X5_has
  rw [bitAt hb hq]
  by_cases h : b.testBit q = true
  · rw [if_pos h, if_pos rfl]
  · rw [if_neg h, if_neg (by decide)]
theorem bes_q : ∀ p, p < 16 → ∀ q, q < 16 → bes p q = (if nI p / 8 = nI q / 8 then decide ((if (0 : Int32) ≤ nI p - nI q then nI p - nI q else -(nI p - nI q)) = 1) else if nI p - nI p / 8 * 8 = nI q - nI q / 8 * 8 then decide ((nI p - nI p / 8 * 8) - (nI p - nI p / 8 * 8) / 7 * 7 = 0) else false) := by decide +kernel
theorem abs5u (v : Int32) (u : XM) : F_X5_abs v u = some (if 0 ≤ v then v else -v, u) := by
  unfold F_X5_abs
  split <;> rfl
def bI (b : Bool) : Int32 := if b = true then 1 else 0
theorem h121 {K : Int32 → Int32 → Int32 → Int32 → XM → Option (Int32 × XM)} {v1 v3 v4 : Int32} {p q : Nat} (hp : p < 16) (hq : q < 16) (fuel : Nat) (u : XM) : F_X5_homeBut_121 K (fuel + 1) v1 v3 v4 (nI p) (nI q) u = F_X5_homeBut_190 (F_X5_homeBut_121 K fuel) v1 v3 v4 (nI p) (nI q) (bI (bes p q)) u := by
  rw [F_X5_homeBut_121, if_neg (show ¬ (16 : Int32) ≤ nI q from nI_ge (b := 16) (by omega) (by omega)), bes_q p hp q hq]
  unfold F_X5_homeBut_189
  by_cases c1 : nI p / 8 = nI q / 8
  · rw [if_pos c1, if_pos c1, abs5u, Option.bind_some]
    by_cases c2 : (if (0 : Int32) ≤ nI p - nI q then nI p - nI q else -(nI p - nI q)) = 1
    · rw [if_pos c2, decide_eq_true c2]; rfl
    · rw [if_neg c2, decide_eq_false c2]; rfl
  · rw [if_neg c1, if_neg c1]
    by_cases c2 : nI p - nI p / 8 * 8 = nI q - nI q / 8 * 8
    · rw [if_pos c2, if_pos c2]
      by_cases c3 : (nI p - nI p / 8 * 8) - (nI p - nI p / 8 * 8) / 7 * 7 = 0
      · rw [if_pos c3, decide_eq_true c3]; rfl
      · rw [if_neg c3, decide_eq_false c3]; rfl
    · rw [if_neg c2, if_neg c2]; rfl
theorem h243 {K : Int32 → Int32 → Int32 → Int32 → Int32 → XM → Option (Int32 × XM)} {v1 v3 v4 v5 : Int32} {q : Nat} (hq : q < 16) {l : List Nat} (hl : bnd 16 1000000 l) (u : XM) : F_X5_homeBut_243 K v1 v3 v4 v5 (nI q) (nI q) (sl u 53 l) = K v1 v3 v4 v5 (nI (q + 1)) (sl u 53 (l.set q (l.getD q 0))) := by
  have a : ain YY 0 53 (nI q) = true := ainN rfl hq (by decide)
  unfold F_X5_homeBut_243 F_X5_homeBut_250
  rw [if_pos a, if_pos a, nI_clamp (by omega), mi_sl (by rw [hl.1]; exact hq), wi_sl (by rw [hl.1]; exact hq), nI_1]
theorem h190 {K : Int32 → Int32 → Int32 → Int32 → Int32 → XM → Option (Int32 × XM)} {v1 v4 : Int32} {bar p q : Nat} (hbar : bar < 2 ^ 31) (hp : p < 16) (hq : q < 16) {l : List Nat} (hl : bnd 16 1000000 l) (u : XM) : F_X5_homeBut_190 K v1 (nI bar) v4 (nI p) (nI q) (bI (bes p q)) (sl u 53 l) = K v1 (nI bar) v4 (nI p) (nI (q + 1)) (sl u 53 (rx bar p q l)) := by
  have a : ∀ j, j < 16 → ain YY 0 53 (nI j) = true := fun j hj => ainN rfl hj (by decide)
  have bp := hl.2 p
  have bq := hl.2 q
  have h243' := h243 (K := K) (v1 := v1) (v3 := nI bar) (v4 := v4) (v5 := nI p) hq hl u
  unfold F_X5_homeBut_190 rx
  by_cases c1 : bes p q = true
  · rw [show bI (bes p q) = 1 by rw [c1]; rfl, if_neg ne10, has5 hbar (by omega)]
    by_cases c2 : bar.testBit q = true
    · rw [if_pos c2, bd1, if_neg (fun z => by rw [c2] at z; exact absurd z.2.1 (by decide))]
      exact h243'
    · rw [if_neg c2, bd0]
      have c2' : bar.testBit q = false := by simpa using c2
      show (if ain YY 0 53 (nI p) = true then (if ain YY 0 53 (nI q) = true then (if mi (sl u 53 l) 53 (Int32.toNatClampNeg (nI q)) ≤ mi (sl u 53 l) 53 (Int32.toNatClampNeg (nI p)) + 1 then F_X5_homeBut_243 K v1 (nI bar) v4 (nI p) (nI q) (nI q) (sl u 53 l) else (if ain YY 0 53 (nI p) = true then F_X5_homeBut_250 K v1 (nI bar) v4 (nI p) (nI q) (mi (sl u 53 l) 53 (Int32.toNatClampNeg (nI p)) + 1) (nI q) (sl u 53 l) else none)) else none) else none) = _
      rw [if_pos (a p hp), if_pos (a q hq), if_pos (a p hp), nI_clamp (show q < 2 ^ 31 by omega), nI_clamp (show p < 2 ^ 31 by omega), mi_sl (show q < l.length by rw [hl.1]; exact hq), mi_sl (show p < l.length by rw [hl.1]; exact hp), nI_1, h243']
      by_cases c3 : l.getD p 0 + 1 < l.getD q 0
      · rw [if_neg (nI_ge c3 (by omega)), if_pos ⟨c1, c2', c3⟩]
        unfold F_X5_homeBut_250
        rw [if_pos (a q hq), nI_clamp (by omega), wi_sl (by rw [hl.1]; exact hq), nI_1]
      · rw [if_pos (nI_le (by omega) (by omega)), if_neg (fun z => c3 z.2.2)]
  · rw [show bI (bes p q) = 0 by unfold bI; rw [if_neg c1], if_pos rfl, if_neg (fun z => c1 z.1)]
    exact h243'
theorem h121_l {K : Int32 → Int32 → Int32 → Int32 → XM → Option (Int32 × XM)} {v1 v4 : Int32} {bar p : Nat} (hbar : bar < 2 ^ 31) (hp : p < 16) (u : XM) : ∀ (m q : Nat) (l : List Nat), q + m = 16 → bnd 16 1000000 l → ∀ fuel, m < fuel → F_X5_homeBut_121 K fuel v1 (nI bar) v4 (nI p) (nI q) (sl u 53 l) = K v1 (nI bar) v4 (nI (p + 1)) (sl u 53 (swQ bar p q m l))
  | 0, q, l, hq, hl, fuel + 1, _ => by
    rw [F_X5_homeBut_121, if_pos (show (16 : Int32) ≤ nI q from nI_le (a := 16) (by omega) (by omega)), nI_1]
    rfl
  | m + 1, q, l, hq, hl, fuel + 1, hf => by
    rw [h121 hp (by omega), h190 hbar hp (by omega) hl]
    exact h121_l hbar hp u m (q + 1) _ (by omega) (rx_bnd (by omega) hl) fuel (by omega)
theorem h111_l {K : Int32 → Int32 → Int32 → XM → Option (Int32 × XM)} {v1 : Int32} {bar rd : Nat} (hbar : bar < 2 ^ 31) (u : XM) : ∀ (m p : Nat) (l : List Nat), p + m = 16 → bnd 16 1000000 l → ∀ fuel, m < fuel → F_X5_homeBut_111 K fuel v1 (nI bar) (nI rd) (nI p) (sl u 53 l) = K v1 (nI bar) (nI (rd + 1)) (sl u 53 (swP bar p m l))
  | 0, p, l, hp, hl, fuel + 1, _ => by
    rw [F_X5_homeBut_111, if_pos (show (16 : Int32) ≤ nI p from nI_le (a := 16) (by omega) (by omega)), nI_1]
    rfl
  | m + 1, p, l, hp, hl, fuel + 1, hf => by
    rw [F_X5_homeBut_111, if_neg (show ¬ (16 : Int32) ≤ nI p from nI_ge (b := 16) (by omega) (by omega)), show (0 : Int32) = nI 0 from rfl, h121_l hbar (show p < 16 by omega) u 16 0 l (by omega) hl FU (by decide)]
    exact h111_l hbar u m (p + 1) _ (by omega) (swQ_bnd 16 0 l (by omega) hl) fuel (by omega)
theorem h101_l {P : CP} {S : PS} (hP : okP P) {i bar : Nat} (hi : i < pT P) (hbar : bar < 2 ^ 31) (u : XM) (hM : curM u P S) : ∀ (m rd : Nat) (l : List Nat), rd + m = 16 → bnd 16 1000000 l → ∀ fuel, m < fuel → F_X5_homeBut_101 fuel (nI i) (nI bar) (nI rd) (sl u 53 l) = some (if (itS (swP bar 0 16) m l).getD (pG P i) 0 < 1000000 then nI ((itS (swP bar 0 16) m l).getD (pG P i) 0) else -9, sl u 53 (itS (swP bar 0 16) m l))
  | 0, rd, l, hr, hl, fuel + 1, _ => by
    have hT := hP.1
    have hg := (hP.2.2 i hi).2.2
    have bg := hl.2 (pG P i)
    have a1 : ain YY 0 42 (nI i) = true := ainN rfl (show i < 6 by omega) (by decide)
    have a2 : ain YY 0 53 (nI (pG P i)) = true := ainN rfl (show pG P i < 16 by omega) (by decide)
    rw [F_X5_homeBut_101, if_pos (show (16 : Int32) ≤ nI rd from nI_le (a := 16) (by omega) (by omega)), if_pos a1, if_pos a1, nI_clamp (show i < 2 ^ 31 by omega), xmi_sl (show 42 ≠ 53 by decide), (hM.2.2.2.2 i hi).2.2.1, if_pos a2, if_pos a2, nI_clamp (show pG P i < 2 ^ 31 by omega), mi_sl (by rw [hl.1]; omega)]
    show (if nI (l.getD (pG P i) 0) < 1000000 then some (nI (l.getD (pG P i) 0), sl u 53 l) else some (-9, sl u 53 l)) = some (if l.getD (pG P i) 0 < 1000000 then nI (l.getD (pG P i) 0) else -9, sl u 53 l)
    by_cases c : l.getD (pG P i) 0 < 1000000
    · rw [if_pos (show nI (l.getD (pG P i) 0) < (1000000 : Int32) from nI_lt (b := 1000000) c (by omega)), if_pos c]
    · rw [if_neg (show ¬ nI (l.getD (pG P i) 0) < (1000000 : Int32) from nI_nlt (b := 1000000) (by omega) (by omega)), if_neg c]
  | m + 1, rd, l, hr, hl, fuel + 1, hf => by
    rw [F_X5_homeBut_101, if_neg (show ¬ (16 : Int32) ≤ nI rd from nI_ge (b := 16) (by omega) (by omega)), show (0 : Int32) = nI 0 from rfl, h111_l hbar u 16 0 l (by omega) hl FU (by decide)]
    exact h101_l hP hi hbar u hM m (rd + 1) _ (by omega) (swP_bnd 16 0 l hl) fuel (by omega)
def pfH (u : XM) (v k : Nat) : XM := (fun x j => if x = 53 ∧ j < k then nI (if j = v then 0 else 1000000) else u.1 x j, u.2)
theorem pfH_0 (u : XM) (v : Nat) : pfH u v 0 = u := xm_ext (fun a b => by
  show (if a = 53 ∧ b < 0 then _ else _) = _
  rw [if_neg (by omega)]
  rfl) (fun a b => rfl)
theorem pfH_s (u : XM) (v k : Nat) : wi (pfH u v k) 53 k (nI (if k = v then 0 else 1000000)) = pfH u v (k + 1) := xm_ext (fun a b => by
  rw [mi_wi]
  show (if a = 53 ∧ b = k then nI (if k = v then 0 else 1000000) else if a = 53 ∧ b < k then nI (if b = v then 0 else 1000000) else mi u a b) = (if a = 53 ∧ b < k + 1 then nI (if b = v then 0 else 1000000) else mi u a b)
  by_cases h1 : a = 53 ∧ b = k
  · rw [if_pos h1, if_pos (show a = 53 ∧ b < k + 1 by omega), h1.2]
  · rw [if_neg h1]
    by_cases h2 : a = 53 ∧ b < k
    · rw [if_pos h2, if_pos (show a = 53 ∧ b < k + 1 by omega)]
    · rw [if_neg h2, if_neg (show ¬ (a = 53 ∧ b < k + 1) by omega)]) (fun a b => rfl)
theorem pfH_16 (u : XM) {v : Nat} (hv : v < 16) : pfH u v 16 = sl u 53 ((List.replicate 16 1000000).set v 0) := xm_ext (fun a b => by
  show (if a = 53 ∧ b < 16 then nI (if b = v then 0 else 1000000) else mi u a b) = (if a = 53 ∧ b < ((List.replicate 16 1000000).set v 0).length then nI (((List.replicate 16 1000000).set v 0).getD b 0) else mi u a b)
  rw [List.length_set, List.length_replicate, getD_set (by rw [List.length_replicate]; exact hv)]
  by_cases h : a = 53 ∧ b < 16
  · rw [if_pos h, if_pos h]
    by_cases q : b = v
    · rw [if_pos q, if_pos q]
    · rw [if_neg q, if_neg q, List.getD_eq_getElem?_getD, List.getElem?_replicate, if_pos h.2]
      rfl
  · rw [if_neg h, if_neg h]) (fun a b => rfl)
/-- where one stands -/
def plc (S : PS) (i : Nat) : Nat := 8 * (i % 2) + S.1 i
theorem placeOf5 {u : XM} {P : CP} {S : PS} (hM : curM u P S) (hP : okP P) {i : Nat} (hi : i < pT P) (h7 : S.1 i ≤ 7) : F_X5_placeOf (nI i) u = some (nI (plc S i), u) := by
  have hT := hP.1
  unfold F_X5_placeOf plc
  rw [z_add, if_pos (ainN rfl (show i < 8 by omega) (by decide)), nI_clamp (by omega), (hM.2.2.2.2 i hi).2.2.2, eC_n h7, n_rem2 (by omega), show (8 : Int32) = nI 8 from rfl, pk_mul, nI_add]
theorem fr53 (u : XM) (v k : Nat) : EQR u (pfH u v k) := ⟨fun a ha => by
  funext b
  show (if a = 53 ∧ b < k then _ else _) = _
  rw [if_neg (by omega)]
  rfl, rfl, rfl, rfl, rfl, rfl, rfl, rfl, rfl, rfl⟩
theorem EQR_sl53 (u : XM) (l : List Nat) : EQR u (sl u 53 l) := ⟨fun a ha => xmi_sl (by omega), by rw [xmi_sl (by decide)], by rw [xmi_sl (by decide)], rfl, by rw [xmi_sl (by decide)], by rw [xmi_sl (by decide)], by rw [xmi_sl (by decide)], by rw [xmi_sl (by decide)], by rw [xmi_sl (by decide)], rfl⟩
theorem h62_l {u : XM} {P : CP} {S : PS} (hM : curM u P S) (hP : okP P) {i bar : Nat} (hi : i < pT P) (h7 : S.1 i ≤ 7) (hbar : bar < 2 ^ 31) : ∀ (m p : Nat), p + m = 16 → ∀ fuel, m < fuel → F_X5_homeBut_62 fuel (nI i) (nI bar) (nI p) (pfH u (plc S i) p) = some (if (HL bar (plc S i)).getD (pG P i) 0 < 1000000 then nI ((HL bar (plc S i)).getD (pG P i) 0) else -9, sl u 53 (HL bar (plc S i)))
  | 0, p, hp, fuel + 1, _ => by
    have hv : plc S i < 16 := by unfold plc; omega
    rw [F_X5_homeBut_62, if_pos (show (16 : Int32) ≤ nI p from nI_le (a := 16) (by omega) (by omega)), show p = 16 by omega, pfH_16 u hv]
    exact h101_l hP hi hbar u hM 16 0 _ (by omega) (bnd_set (rep_bnd 16 1000000) hv (by omega)) FU (by decide)
  | m + 1, p, hp, fuel + 1, hf => by
    have hv : plc S i < 16 := by unfold plc; omega
    have a : ain YY 0 53 (nI p) = true := ainN rfl (show p < 16 by omega) (by decide)
    have s := pfH_s u (plc S i) p
    have ih := h62_l hM hP hi h7 hbar m (p + 1) (by omega) fuel (by omega)
    rw [F_X5_homeBut_62, if_neg (show ¬ (16 : Int32) ≤ nI p from nI_ge (b := 16) (by omega) (by omega)), placeOf5 (hM.eqr (fr53 u _ _)) hP hi h7, Option.bind_some]
    unfold F_X5_homeBut_91
    rw [if_pos a, if_pos a, nI_clamp (by omega), nI_1]
    by_cases q : p = plc S i
    · rw [if_pos (show nI p = nI (plc S i) by rw [← q])]
      rw [if_pos q] at s
      show F_X5_homeBut_62 fuel (nI i) (nI bar) (nI (p + 1)) (wi (pfH u (plc S i) p) 53 p (nI 0)) = _
      rw [s]
      exact ih
    · rw [if_neg (show ¬ nI p = nI (plc S i) from fun z => q (n_inj z (by omega) (by omega)))]
      rw [if_neg q] at s
      show F_X5_homeBut_62 fuel (nI i) (nI bar) (nI (p + 1)) (wi (pfH u (plc S i) p) 53 p (nI 1000000)) = _
      rw [s]
      exact ih
