/-! ===== the class' way home ===== -/
theorem al_mk {p : Nat → Bool} : ∀ (m j : Nat), (∀ i, j ≤ i → i < j + m → p i = true) → al p j m = true
  | 0, _, _ => rfl
  | m + 1, j, h => by
    show (p j && al p (j + 1) m) = true
    rw [h j (Nat.le_refl _) (by omega), al_mk m (j + 1) (fun i h1 h2 => h i (by omega) (by omega))]
    rfl
def fmV (v0 v1 : Int32) : Int32 := if 0 ≤ (v0 ^^^ v1) then v0 - v0 / v1 * v1 else if v0 - v0 / v1 * v1 = 0 then v0 - v0 / v1 * v1 else (v0 - v0 / v1 * v1) + v1
theorem fm_v {v0 v1 : Int32} (h : ¬ v1 = 0) (u : XM) : F_J9_floorMod_7cf53 YY v0 v1 u = some (fmV v0 v1, u) := by
  unfold F_J9_floorMod_7cf53 fmV
  rw [if_neg h]
  by_cases c1 : 0 ≤ (v0 ^^^ v1)
  · rw [if_pos c1, if_pos c1]
  · rw [if_neg c1, if_neg c1]
    by_cases c2 : v0 - v0 / v1 * v1 = 0
    · rw [if_pos c2, if_pos c2]
    · rw [if_neg c2, if_neg c2]
theorem fm_up : ∀ z, z < 16 → fmV (nI z + 1) 16 = nI ((z + 1) % 16) := by decide +kernel
theorem fm_dn : ∀ z, z < 16 → fmV (nI z + (-1)) 16 = nI ((z + 15) % 16) := by decide +kernel
theorem ne16 : ¬ (16 : Int32) = 0 := by decide
theorem ar_up {bar x d : Nat} (hbar : bar < 2 ^ 31) (hd : d < 16) (u : XM) : ∀ (m s : Nat), s + m = d → ∀ fuel, m < fuel → F_X4_stepsAround_6 fuel (nI ((x + d) % 16)) 1 (nI bar) (nI ((x + s) % 16)) (nI s) u = some (if al (fun e => !bar.testBit ((x + e) % 16)) (s + 1) m = true then nI d else -9, u)
  | 0, s, hs, fuel + 1, _ => by
    rw [F_X4_stepsAround_6, if_neg (show ¬ (16 : Int32) ≤ nI s from nI_ge (b := 16) (by omega) (by omega)), show s = d by omega, if_pos rfl]
    rfl
  | m + 1, s, hs, fuel + 1, hf => by
    have ih := ar_up (bar := bar) (x := x) hbar hd u m (s + 1) (by omega) fuel (by omega)
    rw [F_X4_stepsAround_6, if_neg (show ¬ (16 : Int32) ≤ nI s from nI_ge (b := 16) (by omega) (by omega)), if_neg (fun z => by have := n_inj z (by omega) (by omega); omega), fm_v ne16, Option.bind_some]
    show (if ((nI bar >>> (fmV (nI ((x + s) % 16) + 1) 16 &&& 31)) &&& 1) = 0 then F_X4_stepsAround_6 fuel (nI ((x + d) % 16)) 1 (nI bar) (fmV (nI ((x + s) % 16) + 1) 16) (nI s + 1) u else some (-9, u)) = _
    rw [fm_up _ (Nat.mod_lt _ (by decide)), show ((x + s) % 16 + 1) % 16 = (x + (s + 1)) % 16 by omega, bitAt hbar (by omega), nI_1]
    have ea : al (fun e => !bar.testBit ((x + e) % 16)) (s + 1) (m + 1) = (!bar.testBit ((x + (s + 1)) % 16) && al (fun e => !bar.testBit ((x + e) % 16)) (s + 1 + 1) m) := rfl
    rw [ea]
    by_cases c : bar.testBit ((x + (s + 1)) % 16) = true
    · rw [if_pos c, if_neg ne10, c]; rfl
    · have c' : bar.testBit ((x + (s + 1)) % 16) = false := by simpa using c
      rw [if_neg c, if_pos rfl, ih, c', Bool.not_false, Bool.true_and]
theorem ar_dn {bar x d : Nat} (hbar : bar < 2 ^ 31) (hd : d < 16) (u : XM) : ∀ (m s : Nat), s + m = d → ∀ fuel, m < fuel → F_X4_stepsAround_6 fuel (nI ((x + (16 - d)) % 16)) (-1) (nI bar) (nI ((x + (16 - s)) % 16)) (nI s) u = some (if al (fun e => !bar.testBit ((x + (16 - e)) % 16)) (s + 1) m = true then nI d else -9, u)
  | 0, s, hs, fuel + 1, _ => by
    rw [F_X4_stepsAround_6, if_neg (show ¬ (16 : Int32) ≤ nI s from nI_ge (b := 16) (by omega) (by omega)), show s = d by omega, if_pos rfl]
    rfl
  | m + 1, s, hs, fuel + 1, hf => by
    have ih := ar_dn (bar := bar) (x := x) hbar hd u m (s + 1) (by omega) fuel (by omega)
    rw [F_X4_stepsAround_6, if_neg (show ¬ (16 : Int32) ≤ nI s from nI_ge (b := 16) (by omega) (by omega)), if_neg (fun z => by have := n_inj z (by omega) (by omega); omega), fm_v ne16, Option.bind_some]
    show (if ((nI bar >>> (fmV (nI ((x + (16 - s)) % 16) + (-1)) 16 &&& 31)) &&& 1) = 0 then F_X4_stepsAround_6 fuel (nI ((x + (16 - d)) % 16)) (-1) (nI bar) (fmV (nI ((x + (16 - s)) % 16) + (-1)) 16) (nI s + 1) u else some (-9, u)) = _
    rw [fm_dn _ (Nat.mod_lt _ (by decide)), show ((x + (16 - s)) % 16 + 15) % 16 = (x + (16 - (s + 1))) % 16 by omega, bitAt hbar (by omega), nI_1]
    have ea : al (fun e => !bar.testBit ((x + (16 - e)) % 16)) (s + 1) (m + 1) = (!bar.testBit ((x + (16 - (s + 1))) % 16) && al (fun e => !bar.testBit ((x + (16 - e)) % 16)) (s + 1 + 1) m) := rfl
    rw [ea]
    by_cases c : bar.testBit ((x + (16 - (s + 1))) % 16) = true
    · rw [if_pos c, if_neg ne10, c]; rfl
    · have c' : bar.testBit ((x + (16 - (s + 1))) % 16) = false := by simpa using c
      rw [if_neg c, if_pos rfl, ih, c', Bool.not_false, Bool.true_and]
theorem rho_8 {g : Nat} (h : g < 8) : rho g = g := if_pos h
theorem arUp {bar f g : Nat} (hbar : bar < 2 ^ 31) (hf : f < 16) (hg : g < 8) (u : XM) : F_X4_stepsAround (nI (rho f)) (nI g) 1 (nI bar) u = some (if al (fun e => !bar.testBit ((rho f + e) % 16)) 1 (ofs f g) = true then nI (ofs f g) else -9, u) := by
  have l := ofs_lt f g
  have r := rho_lt hf
  have := ar_up (bar := bar) (x := rho f) hbar l u (ofs f g) 0 (by omega) FU (show ofs f g < 1000 by omega)
  rw [ofs_r f hf g (by omega), rho_8 hg, show (rho f + 0) % 16 = rho f by omega] at this
  exact this
theorem arDn {bar f g : Nat} (hbar : bar < 2 ^ 31) (hf : f < 16) (hg : g < 8) (u : XM) : F_X4_stepsAround (nI (rho f)) (nI g) (-1) (nI bar) u = some (if al (fun e => !bar.testBit ((rho f + (16 - e)) % 16)) 1 ((16 - ofs f g) % 16) = true then nI ((16 - ofs f g) % 16) else -9, u) := by
  have l := ofs_lt f g
  have r := rho_lt hf
  have e := ofs_r f hf g (by omega)
  have := ar_dn (bar := bar) (x := rho f) hbar (show (16 - ofs f g) % 16 < 16 by omega) u ((16 - ofs f g) % 16) 0 (by omega) FU (show (16 - ofs f g) % 16 < 1000 by omega)
  rw [show (rho f + (16 - (16 - ofs f g) % 16)) % 16 = (rho f + ofs f g) % 16 by omega, e, rho_8 hg, show (rho f + (16 - 0)) % 16 = rho f by omega] at this
  exact this
def mnI (a b : Int32) : Int32 := if a = -9 then b else if b = -9 then a else if b < a then b else a
def ansH (bar f g : Nat) : Int32 := mnI (if al (fun e => !bar.testBit ((rho f + e) % 16)) 1 (ofs f g) = true then nI (ofs f g) else -9) (if al (fun e => !bar.testBit ((rho f + (16 - e)) % 16)) 1 ((16 - ofs f g) % 16) = true then nI ((16 - ofs f g) % 16) else -9)
def hvI (L : Nat) : Int32 := if L < 1000000 then nI L else -9
theorem hvI_s {L : Nat} (h : L ≤ 16) : hvI L = nI L := if_pos (by omega)
theorem ans_eq {barC barM f g : Nat} (hf : f < 16) (hg : g < 8) (hb : ∀ q, q < 16 → barC.testBit (rho q) = barM.testBit q) : ansH barC f g = hvI ((HL barM f).getD g 0) := by
  have hblk : ∀ q, q < 16 → (fun e => barC.testBit ((rho f + e) % 16)) (ofs f q) = barM.testBit q := fun q hq => by
    show barC.testBit ((rho f + ofs f q) % 16) = _
    rw [ofs_r f hf q hq]
    exact hb q hq
  obtain ⟨h1, h2, h3⟩ := HL_inv (blk := fun e => barC.testBit ((rho f + e) % 16)) (bar := barM) hf hblk
  have ld := ofs_lt f g
  have s1 := h2 g (by omega)
  have s2 := h3 g (by omega)
  generalize (HL barM f).getD g 0 = L at s1 s2
  unfold ansH
  generalize ofs f g = d at ld s1 s2
  by_cases d0 : d = 0
  · subst d0
    have := s2 0 (RR_0 _) (by omega)
    have L0 : L = 0 := by omega
    subst L0
    rfl
  · rw [show (16 - d) % 16 = 16 - d by omega]
    by_cases A : al (fun e => !barC.testBit ((rho f + e) % 16)) 1 d = true
    · have A' : ∀ e, 1 ≤ e → e ≤ d → barC.testBit ((rho f + e) % 16) = false := fun e e1 e2 => by
        have := al_all d 1 A e e1 (by omega)
        simpa using this
      have RA : RR (fun e => barC.testBit ((rho f + e) % 16)) d d := Or.inl ⟨rfl, A'⟩
      have la := s2 d RA (by omega)
      rw [if_pos A]
      by_cases B : al (fun e => !barC.testBit ((rho f + (16 - e)) % 16)) 1 (16 - d) = true
      · have B' : ∀ e, d ≤ e → e < 16 → barC.testBit ((rho f + e) % 16) = false := fun e e1 e2 => by
          have := al_all (16 - d) 1 B (16 - e) (by omega) (by omega)
          rw [show 16 - (16 - e) = e by omega] at this
          simpa using this
        have lb := s2 (16 - d) (Or.inr ⟨by omega, by omega, B'⟩) (by omega)
        rw [if_pos B, hvI_s (by omega)]
        unfold mnI
        rw [if_neg (n_neg9 (by omega)), if_neg (n_neg9 (by omega))]
        rcases s1 with s1 | ⟨k, k1, k2⟩
        · omega
        · have kk : k = d ∨ k = 16 - d := by
            rcases k2 with ⟨z, _⟩ | ⟨_, z, _⟩
            · exact Or.inl z
            · exact Or.inr (by omega)
          by_cases c : 16 - d < d
          · rw [if_pos (nI_lt c (by omega)), show L = 16 - d by omega]
          · rw [if_neg (nI_nlt (by omega) (by omega)), show L = d by omega]
      · rw [if_neg B, hvI_s (by omega)]
        unfold mnI
        rw [if_neg (n_neg9 (by omega)), if_pos rfl]
        rcases s1 with s1 | ⟨k, k1, k2⟩
        · omega
        · rcases k2 with ⟨z, _⟩ | ⟨_, z, zz⟩
          · rw [show L = d by omega]
          · refine absurd (al_mk (16 - d) 1 (fun i i1 i2 => ?_)) B
            have := zz (16 - i) (by omega) (by omega)
            show (!barC.testBit ((rho f + (16 - i)) % 16)) = true
            rw [show barC.testBit ((rho f + (16 - i)) % 16) = false from this]
            rfl
    · rw [if_neg A]
      unfold mnI
      rw [if_pos rfl]
      have nA : ¬ ∀ e, 1 ≤ e → e ≤ d → barC.testBit ((rho f + e) % 16) = false := fun z => A (al_mk d 1 (fun i i1 i2 => by
        show (!barC.testBit ((rho f + i) % 16)) = true
        rw [z i i1 (by omega)]
        rfl))
      by_cases B : al (fun e => !barC.testBit ((rho f + (16 - e)) % 16)) 1 (16 - d) = true
      · have B' : ∀ e, d ≤ e → e < 16 → barC.testBit ((rho f + e) % 16) = false := fun e e1 e2 => by
          have := al_all (16 - d) 1 B (16 - e) (by omega) (by omega)
          rw [show 16 - (16 - e) = e by omega] at this
          simpa using this
        have lb := s2 (16 - d) (Or.inr ⟨by omega, by omega, B'⟩) (by omega)
        rw [if_pos B, hvI_s (by omega)]
        rcases s1 with s1 | ⟨k, k1, k2⟩
        · omega
        · rcases k2 with ⟨_, z⟩ | ⟨_, z, _⟩
          · exact absurd z nA
          · rw [show L = 16 - d by omega]
      · rw [if_neg B]
        unfold hvI
        rw [if_neg]
        rcases s1 with s1 | ⟨k, k1, k2⟩
        · omega
        · rcases k2 with ⟨_, z⟩ | ⟨_, z, zz⟩
          · exact absurd z nA
          · refine absurd (al_mk (16 - d) 1 (fun i i1 i2 => ?_)) B
            have := zz (16 - i) (by omega) (by omega)
            show (!barC.testBit ((rho f + (16 - i)) % 16)) = true
            rw [show barC.testBit ((rho f + (16 - i)) % 16) = false from this]
            rfl
