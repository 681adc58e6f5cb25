/-! ===== the street is a ring of 16 places ===== -/
def rho (p : Nat) : Nat := if p < 8 then p else 23 - p
def bes (p q : Nat) : Bool := decide ((rho p + 1) % 16 = rho q ∨ (rho q + 1) % 16 = rho p)
/-- how far q is from f, onward -/
def ofs (f q : Nat) : Nat := (rho q + 16 - rho f) % 16
/-- the place so far onward -/
def plo (f d : Nat) : Nat := rho ((rho f + d) % 16)
theorem rho_lt {p : Nat} (h : p < 16) : rho p < 16 := by
  unfold rho
  split <;> omega
theorem rho_inj {p q : Nat} (hp : p < 16) (hq : q < 16) : rho p = rho q ↔ p = q := by
  unfold rho
  split <;> split <;> omega
theorem ofs_lt (f q : Nat) : ofs f q < 16 := Nat.mod_lt _ (by decide)
theorem ofs_0 : ∀ f, f < 16 → ∀ q, q < 16 → ofs f q = 0 → q = f := by decide +kernel
theorem ofs_f : ∀ f, f < 16 → ofs f f = 0 := by decide +kernel
theorem ofs_r : ∀ f, f < 16 → ∀ q, q < 16 → (rho f + ofs f q) % 16 = rho q := by decide +kernel
theorem bes_o : ∀ f, f < 16 → ∀ p, p < 16 → ∀ q, q < 16 → bes p q = true → ofs f q = (ofs f p + 1) % 16 ∨ ofs f p = (ofs f q + 1) % 16 := by decide +kernel
theorem prd_b : ∀ f, f < 16 → ∀ q, q < 16 → plo f ((ofs f q + 15) % 16) < 16 ∧ bes (plo f ((ofs f q + 15) % 16)) q = true ∧ ofs f (plo f ((ofs f q + 15) % 16)) = (ofs f q + 15) % 16 := by decide +kernel
theorem prd_f : ∀ f, f < 16 → ∀ q, q < 16 → plo f ((ofs f q + 1) % 16) < 16 ∧ bes (plo f ((ofs f q + 1) % 16)) q = true ∧ ofs f (plo f ((ofs f q + 1) % 16)) = (ofs f q + 1) % 16 := by decide +kernel
/-- one comes to what lies d onward in k steps, one way or the other -/
def RR (blk : Nat → Bool) (d k : Nat) : Prop := (k = d ∧ ∀ e, 1 ≤ e → e ≤ d → blk e = false) ∨ (1 ≤ d ∧ k + d = 16 ∧ ∀ e, d ≤ e → e < 16 → blk e = false)
theorem RR_0 (blk : Nat → Bool) : RR blk 0 0 := Or.inl ⟨rfl, fun e h1 h2 => by omega⟩
theorem RR_step {blk : Nat → Bool} {d e k : Nat} (hd : d < 16) (he : e < 16) (ha : e = (d + 1) % 16 ∨ d = (e + 1) % 16) (hb : blk e = false) (h : RR blk d k) : ∃ k', k' ≤ k + 1 ∧ RR blk e k' := by
  by_cases e0 : e = 0
  · exact ⟨0, by omega, by rw [e0]; exact RR_0 blk⟩
  · rcases ha with ha | ha
    · have hde : e = d + 1 := by omega
      rcases h with ⟨h1, h2⟩ | ⟨h1, h2, h3⟩
      · refine ⟨k + 1, by omega, Or.inl ⟨by omega, fun x x1 x2 => ?_⟩⟩
        by_cases q : x = e
        · rw [q]; exact hb
        · exact h2 x x1 (by omega)
      · exact ⟨k - 1, by omega, Or.inr ⟨by omega, by omega, fun x x1 x2 => h3 x (by omega) x2⟩⟩
    · by_cases q15 : e = 15
      · have hd0 : d = 0 := by omega
        refine ⟨1, by omega, Or.inr ⟨by omega, by omega, fun x x1 x2 => ?_⟩⟩
        rw [show x = e by omega]; exact hb
      · have hde : d = e + 1 := by omega
        rcases h with ⟨h1, h2⟩ | ⟨h1, h2, h3⟩
        · exact ⟨k - 1, by omega, Or.inl ⟨by omega, fun x x1 x2 => h2 x x1 (by omega)⟩⟩
        · refine ⟨k + 1, by omega, Or.inr ⟨by omega, by omega, fun x x1 x2 => ?_⟩⟩
          by_cases q : x = e
          · rw [q]; exact hb
          · exact h3 x (by omega) x2
theorem RR_pred {blk : Nat → Bool} {e k : Nat} (he : e < 16) (h : RR blk e (k + 1)) : blk e = false ∧ (RR blk ((e + 15) % 16) k ∨ RR blk ((e + 1) % 16) k) := by
  rcases h with ⟨h1, h2⟩ | ⟨h1, h2, h3⟩
  · refine ⟨h2 e (by omega) (Nat.le_refl _), Or.inl (Or.inl ⟨by omega, fun x x1 x2 => h2 x x1 (by omega)⟩)⟩
  · refine ⟨h3 e (Nat.le_refl _) he, Or.inr ?_⟩
    by_cases q : e = 15
    · rw [show (e + 1) % 16 = 0 by omega, show k = 0 by omega]; exact RR_0 blk
    · exact Or.inr ⟨by omega, by omega, fun x x1 x2 => h3 x (by omega) x2⟩
/-! rounds over all pairs of places -/
def rx (bar p q : Nat) (l : List Nat) : List Nat := l.set q (if bes p q = true ∧ bar.testBit q = false ∧ l.getD p 0 + 1 < l.getD q 0 then l.getD p 0 + 1 else l.getD q 0)
def swQ (bar p : Nat) : Nat → Nat → List Nat → List Nat
  | _, 0, l => l
  | q, m + 1, l => swQ bar p (q + 1) m (rx bar p q l)
def swP (bar : Nat) : Nat → Nat → List Nat → List Nat
  | _, 0, l => l
  | p, m + 1, l => swP bar (p + 1) m (swQ bar p 0 16 l)
theorem rx_bnd {bar p q : Nat} {l : List Nat} (hq : q < 16) (h : bnd 16 1000000 l) : bnd 16 1000000 (rx bar p q l) := by
  refine bnd_set h hq ?_
  have := h.2 q
  split <;> omega
theorem swQ_bnd {bar p : Nat} : ∀ (m q : Nat) (l : List Nat), q + m ≤ 16 → bnd 16 1000000 l → bnd 16 1000000 (swQ bar p q m l)
  | 0, _, _, _, h => h
  | m + 1, q, l, hq, h => swQ_bnd m (q + 1) _ (by omega) (rx_bnd (by omega) h)
theorem swP_bnd {bar : Nat} : ∀ (m p : Nat) (l : List Nat), bnd 16 1000000 l → bnd 16 1000000 (swP bar p m l)
  | 0, _, _, h => h
  | m + 1, p, l, h => swP_bnd m (p + 1) _ (swQ_bnd 16 0 l (by omega) h)
theorem rx_le {bar p q : Nat} {l : List Nat} (hq : q < 16) (h : bnd 16 1000000 l) (j : Nat) : (rx bar p q l).getD j 0 ≤ l.getD j 0 := by
  unfold rx
  rw [getD_set (by rw [h.1]; exact hq)]
  by_cases e : j = q
  · rw [if_pos e, e]
    split <;> omega
  · rw [if_neg e]; exact Nat.le_refl _
theorem swQ_le {bar p : Nat} : ∀ (m q : Nat) (l : List Nat), q + m ≤ 16 → bnd 16 1000000 l → ∀ j, (swQ bar p q m l).getD j 0 ≤ l.getD j 0
  | 0, _, _, _, _, j => Nat.le_refl _
  | m + 1, q, l, hq, h, j => Nat.le_trans (swQ_le m (q + 1) _ (by omega) (rx_bnd (by omega) h) j) (rx_le (by omega) h j)
theorem swP_le {bar : Nat} : ∀ (m p : Nat) (l : List Nat), bnd 16 1000000 l → ∀ j, (swP bar p m l).getD j 0 ≤ l.getD j 0
  | 0, _, _, _, j => Nat.le_refl _
  | m + 1, p, l, h, j => Nat.le_trans (swP_le m (p + 1) _ (swQ_bnd 16 0 l (by omega) h) j) (swQ_le 16 0 l (by omega) h j)
theorem swQ_at {bar p q k : Nat} (hb : bes p q = true) (hn : bar.testBit q = false) : ∀ (m a : Nat) (l : List Nat), a + m ≤ 16 → a ≤ q → q < a + m → bnd 16 1000000 l → l.getD p 0 ≤ k → (swQ bar p a m l).getD q 0 ≤ k + 1
  | 0, a, l, _, h1, h2, _, _ => by omega
  | m + 1, a, l, h0, h1, h2, hl, hk => by
    unfold swQ
    by_cases e : a = q
    · refine Nat.le_trans (swQ_le m (a + 1) _ (by omega) (rx_bnd (by omega) hl) q) ?_
      unfold rx
      rw [getD_set (by rw [hl.1]; omega), if_pos e.symm, e]
      split
      · omega
      · rename_i hc
        have : ¬ (l.getD p 0 + 1 < l.getD q 0) := fun z => hc ⟨hb, hn, z⟩
        omega
    · exact swQ_at hb hn m (a + 1) _ (by omega) (by omega) (by omega) (rx_bnd (by omega) hl) (Nat.le_trans (rx_le (by omega) hl p) hk)
theorem swP_at {bar p q k : Nat} (hq : q < 16) (hb : bes p q = true) (hn : bar.testBit q = false) : ∀ (m a : Nat) (l : List Nat), a ≤ p → p < a + m → bnd 16 1000000 l → l.getD p 0 ≤ k → (swP bar a m l).getD q 0 ≤ k + 1
  | 0, a, l, h1, h2, _, _ => by omega
  | m + 1, a, l, h1, h2, hl, hk => by
    unfold swP
    by_cases e : a = p
    · refine Nat.le_trans (swP_le m (a + 1) _ (swQ_bnd 16 0 l (by omega) hl) q) ?_
      rw [e]
      exact swQ_at hb hn 16 0 l (by omega) (by omega) (by omega) hl hk
    · exact swP_at hq hb hn m (a + 1) _ (by omega) (by omega) (swQ_bnd 16 0 l (by omega) hl) (Nat.le_trans (swQ_le 16 0 l (by omega) hl p) hk)
/-- what is told has a way -/
def Snd (blk : Nat → Bool) (f : Nat) (l : List Nat) : Prop := ∀ q, q < 16 → l.getD q 0 = 1000000 ∨ ∃ k, k ≤ l.getD q 0 ∧ RR blk (ofs f q) k
def Cmp (blk : Nat → Bool) (f m : Nat) (l : List Nat) : Prop := ∀ q, q < 16 → ∀ k, RR blk (ofs f q) k → k ≤ m → l.getD q 0 ≤ k
theorem rx_snd {blk : Nat → Bool} {f bar p q : Nat} {l : List Nat} (hf : f < 16) (hblk : ∀ q, q < 16 → blk (ofs f q) = bar.testBit q) (hp : p < 16) (hq : q < 16) (h : bnd 16 1000000 l) (hs : Snd blk f l) : Snd blk f (rx bar p q l) := by
  intro j hj
  unfold rx
  rw [getD_set (by rw [h.1]; exact hq)]
  by_cases e : j = q
  · rw [if_pos e, e]
    by_cases c : bes p q = true ∧ bar.testBit q = false ∧ l.getD p 0 + 1 < l.getD q 0
    · rw [if_pos c]
      have b := h.2 q
      rcases hs p hp with h1 | ⟨k, h1, h2⟩
      · omega
      · obtain ⟨k', g1, g2⟩ := RR_step (ofs_lt f p) (ofs_lt f q) (bes_o f hf p hp q hq c.1) (by rw [hblk q hq]; exact c.2.1) h2
        exact Or.inr ⟨k', by omega, g2⟩
    · rw [if_neg c]; exact hs q hq
  · rw [if_neg e]; exact hs j hj
theorem swQ_snd {blk : Nat → Bool} {f bar p : Nat} (hf : f < 16) (hblk : ∀ q, q < 16 → blk (ofs f q) = bar.testBit q) (hp : p < 16) : ∀ (m q : Nat) (l : List Nat), q + m ≤ 16 → bnd 16 1000000 l → Snd blk f l → Snd blk f (swQ bar p q m l)
  | 0, _, _, _, _, h => h
  | m + 1, q, l, hq, hl, h => swQ_snd hf hblk hp m (q + 1) _ (by omega) (rx_bnd (by omega) hl) (rx_snd hf hblk hp (by omega) hl h)
theorem swP_snd {blk : Nat → Bool} {f bar : Nat} (hf : f < 16) (hblk : ∀ q, q < 16 → blk (ofs f q) = bar.testBit q) : ∀ (m p : Nat) (l : List Nat), p + m ≤ 16 → bnd 16 1000000 l → Snd blk f l → Snd blk f (swP bar p m l)
  | 0, _, _, _, _, h => h
  | m + 1, p, l, hp, hl, h => swP_snd hf hblk m (p + 1) _ (by omega) (swQ_bnd 16 0 l (by omega) hl) (swQ_snd hf hblk (by omega) 16 0 l (by omega) hl h)
theorem swP_cmp {blk : Nat → Bool} {f bar n : Nat} {l : List Nat} (hf : f < 16) (hblk : ∀ q, q < 16 → blk (ofs f q) = bar.testBit q) (hl : bnd 16 1000000 l) (h : Cmp blk f n l) : Cmp blk f (n + 1) (swP bar 0 16 l) := by
  intro q hq k hR hk
  by_cases e : k ≤ n
  · exact Nat.le_trans (swP_le 16 0 l hl q) (h q hq k hR e)
  · have ek : k = n + 1 := by omega
    subst ek
    obtain ⟨g1, g2⟩ := RR_pred (ofs_lt f q) hR
    rw [hblk q hq] at g1
    rcases g2 with g2 | g2
    · obtain ⟨p1, p2, p3⟩ := prd_b f hf q hq
      rw [← p3] at g2
      exact swP_at hq p2 g1 16 0 l (by omega) (by omega) hl (h _ p1 n g2 (Nat.le_refl _))
    · obtain ⟨p1, p2, p3⟩ := prd_f f hf q hq
      rw [← p3] at g2
      exact swP_at hq p2 g1 16 0 l (by omega) (by omega) hl (h _ p1 n g2 (Nat.le_refl _))
theorem its_inv {blk : Nat → Bool} {f bar : Nat} (hf : f < 16) (hblk : ∀ q, q < 16 → blk (ofs f q) = bar.testBit q) : ∀ (m n : Nat) (l : List Nat), bnd 16 1000000 l → Snd blk f l → Cmp blk f n l → bnd 16 1000000 (itS (swP bar 0 16) m l) ∧ Snd blk f (itS (swP bar 0 16) m l) ∧ Cmp blk f (n + m) (itS (swP bar 0 16) m l)
  | 0, _, _, h1, h2, h3 => ⟨h1, h2, h3⟩
  | m + 1, n, l, h1, h2, h3 => by
    have := its_inv hf hblk m (n + 1) (swP bar 0 16 l) (swP_bnd 16 0 l h1) (swP_snd hf hblk 16 0 l (by omega) h1 h2) (swP_cmp hf hblk h1 h3)
    rw [show n + (m + 1) = n + 1 + m by omega]
    exact this
def HL (bar f : Nat) : List Nat := itS (swP bar 0 16) 16 ((List.replicate 16 1000000).set f 0)
theorem HL_inv {blk : Nat → Bool} {f bar : Nat} (hf : f < 16) (hblk : ∀ q, q < 16 → blk (ofs f q) = bar.testBit q) : bnd 16 1000000 (HL bar f) ∧ Snd blk f (HL bar f) ∧ Cmp blk f 16 (HL bar f) := by
  have e : ∀ q, q < 16 → ((List.replicate 16 1000000).set f 0).getD q 0 = if q = f then 0 else 1000000 := fun q hq => by
    rw [getD_set (by rw [List.length_replicate]; exact hf)]
    by_cases z : q = f
    · rw [if_pos z, if_pos z]
    · rw [if_neg z, if_neg z, List.getD_eq_getElem?_getD, List.getElem?_replicate, if_pos hq]
      rfl
  have := its_inv (blk := blk) (bar := bar) hf hblk 16 0 ((List.replicate 16 1000000).set f 0) (bnd_set (rep_bnd 16 1000000) hf (by omega)) (fun q hq => by
    rw [e q hq]
    by_cases z : q = f
    · rw [if_pos z, z, ofs_f f hf]; exact Or.inr ⟨0, Nat.le_refl _, RR_0 blk⟩
    · rw [if_neg z]; exact Or.inl rfl) (fun q hq k hR hk => by
    have k0 : k = 0 := by omega
    subst k0
    rw [e q hq]
    have : ofs f q = 0 := by
      rcases hR with ⟨h1, _⟩ | ⟨h1, h2, _⟩
      · exact h1.symm
      · have := ofs_lt f q; omega
    rw [if_pos (ofs_0 f hf q hq this)]
    exact Nat.le_refl _)
  exact this
