/-! ===== each part of the relation, and what it reads ===== -/
theorem RROW.fr {u v : XM} (h : RROW u) (e : ∀ a, (2 ≤ a ∧ a ≤ 8 ∨ 36 ≤ a ∧ a ≤ 37) → mi v a = mi u a) : RROW v := fun r hr => by
  rw [e 8 (by omega), e 36 (by omega), e (2 + r) (by omega), e 37 (by omega)]; exact h r hr
theorem RTXT.fr {u v : XM} (h : RTXT u) (e : ∀ a, (10 ≤ a ∧ a ≤ 14 ∨ 38 ≤ a ∧ a ≤ 39) → mi v a = mi u a) : RTXT v := fun t ht => by
  rw [e 14 (by omega), e 38 (by omega), e (10 + t) (by omega), e 39 (by omega)]; exact h t ht
theorem RFND.fr {u v : XM} (h : RFND u) (e1 : mi v 34 = mi u 34) (e2 : mi v 47 = mi u 47) (e3 : mi v 0 11 = mi u 0 11) (e4 : mi v 35 17 = mi u 35 17) : RFND v := by
  unfold RFND; rw [e1, e2, e3, e4]; exact h
theorem RTLD.fr {u v : XM} (h : RTLD u) (e1 : mi v 0 12 = mi u 0 12) (e2 : mi v 35 14 = mi u 35 14) (e3 : ml v 0 = ml u 0) (e4 : ml v 35 = ml u 35) : RTLD v := by
  unfold RTLD; rw [e1, e2, e3, e4]; exact h
theorem RCAN.fr {u v : XM} (h : RCAN u) (a0 : ∀ a, (16 ≤ a ∧ a ≤ 19 ∨ 22 ≤ a ∧ a ≤ 28 ∨ 40 ≤ a ∧ a ≤ 46) → mi v a = mi u a) (a4 : mi v 35 4 = mi u 35 4) (a5 : mi v 35 5 = mi u 35 5) (a6 : mi v 35 10 = mi u 35 10) : RCAN v := by
  obtain ⟨P, s0, ds, n, g1, g2, g3, g4, g5, g6, g7, g8, g9⟩ := h
  refine ⟨P, s0, ds, n, g1, g2, g3, g4, ?_, ?_, ?_, ?_, fun k hk => ?_⟩
  · unfold curC; rw [a0 22 (by omega), a0 23 (by omega), a0 26 (by omega), a0 27 (by omega), a0 25 (by omega)]; exact g5
  · unfold curM; rw [a4, a5, a0 43 (by omega), a0 40 (by omega), a0 41 (by omega), a0 42 (by omega)]; exact g6
  · unfold hisC; rw [a0 24 (by omega), a0 22 (by omega), a0 28 (by omega)]; exact g7
  · unfold hisM snap; rw [a6, a0 44 (by omega)]; exact g8
  · have := g9 k hk
    unfold kep snap at this ⊢
    rw [a0 19 (by omega), a0 46 (by omega), a0 (16 + k) (by omega), a0 45 (by omega)]
    exact this
set_option maxRecDepth 20000 in
theorem REL_init : REL U_X5_init := by
  have h8 : ∀ r, r < 6 → mi U_X5_init 8 r = -1 := by decide +kernel
  have h36 : ∀ r, r < 6 → mi U_X5_init 36 r = -1 := by decide +kernel
  have h14 : ∀ r, r < 4 → mi U_X5_init 14 r = -1 := by decide +kernel
  have h38 : ∀ r, r < 4 → mi U_X5_init 38 r = -1 := by decide +kernel
  have h19 : ∀ r, r < 3 → mi U_X5_init 19 r = -1 := by decide +kernel
  have h46 : ∀ r, r < 3 → mi U_X5_init 46 r = 0 := by decide +kernel
  refine ⟨fun r hr => ⟨by rw [h8 r hr, h36 r hr], Or.inl (h8 r hr)⟩, fun t ht => ⟨by rw [h14 t ht, h38 t ht], Or.inl (h14 t ht)⟩, ⟨by decide +kernel, by decide +kernel⟩, ⟨by decide +kernel, by decide +kernel, by decide +kernel⟩, (0, 0, (fun _ => 0), (fun _ => 0), (fun _ => 0)), ((fun _ => 0), 0, 0), (fun _ => 0), 0, ?_, ?_, rfl, ?_, ?_, ?_, ?_, ?_, fun k hk => Or.inl ⟨h19 k hk, h46 k hk⟩⟩
  · exact ⟨by decide, by decide, fun i hi => absurd hi (Nat.not_lt_zero _)⟩
  · exact ⟨fun i hi => absurd hi (Nat.not_lt_zero _), by decide⟩
  · exact ⟨by decide, fun i hi => absurd hi (Nat.not_lt_zero _)⟩
  · exact ⟨by decide +kernel, by decide +kernel, by decide +kernel, by decide +kernel, fun i hi => absurd hi (Nat.not_lt_zero _)⟩
  · exact ⟨by decide +kernel, by decide +kernel, by decide +kernel, by decide +kernel, fun i hi => absurd hi (Nat.not_lt_zero _)⟩
  · exact ⟨fun i hi => absurd hi (Nat.not_lt_zero _), by decide +kernel, by decide +kernel, fun i hi => absurd hi (Nat.not_lt_zero _)⟩
  · exact ⟨by decide +kernel, fun i hi => absurd hi (Nat.not_lt_zero _)⟩
/-- told on both sides -/
theorem REL_tell {u : XM} (h : REL u) (v : Int32) : REL (wi (wi u 0 12 v) 35 14 v) := by
  obtain ⟨h1, h2, h3, h4, h5⟩ := h
  refine ⟨h1.fr (fun a ha => (xmi_ne (by omega)).trans (xmi_ne (by omega))), h2.fr (fun a ha => (xmi_ne (by omega)).trans (xmi_ne (by omega))), h3.fr rfl rfl rfl rfl, ⟨rfl, h4.2⟩, h5.fr (fun a ha => (xmi_ne (by omega)).trans (xmi_ne (by omega))) rfl rfl rfl⟩
/-- a finding on both sides -/
def fC (u : XM) (f : Nat) : XM := wi (wi u 0 11 (nI f)) 34 f (mi u 34 f + 1)
def fM (u : XM) (f : Nat) : XM := wi (wi u 35 17 (nI f)) 47 f (mi u 47 f + 1)
theorem fX4 (u : XM) {f : Nat} (hf : f < 6) : F_X4_found (nI f) u = some (-3, fC u f) := by
  unfold F_X4_found
  rw [if_pos (ainN rfl hf (by decide)), if_pos (ainN rfl hf (by decide)), nI_clamp (by omega)]
  rfl
theorem fX5 (u : XM) {f : Nat} (hf : f < 6) : F_X5_found (nI f) u = some (-3, fM u f) := by
  unfold F_X5_found
  rw [if_pos (ainN rfl hf (by decide)), if_pos (ainN rfl hf (by decide)), nI_clamp (by omega)]
  rfl
theorem REL_found {u : XM} (h : REL u) {f : Nat} (hf : f < 6) : REL (fM (fC u f) f) := by
  obtain ⟨h1, h2, h3, h4, h5⟩ := h
  unfold fM fC
  have e : ∀ a, ¬ (a = 0 ∨ a = 34 ∨ a = 35 ∨ a = 47) → mi (wi (wi (wi (wi u 0 11 (nI f)) 34 f (mi u 34 f + 1)) 35 17 (nI f)) 47 f (mi (wi (wi u 0 11 (nI f)) 34 f (mi u 34 f + 1)) 47 f + 1)) a = mi u a := fun a ha => (xmi_ne (by omega)).trans ((xmi_ne (by omega)).trans ((xmi_ne (by omega)).trans (xmi_ne (by omega))))
  refine ⟨h1.fr (fun a ha => e a (by omega)), h2.fr (fun a ha => e a (by omega)), ⟨rfl, fun g hg => ?_⟩, h4.fr rfl rfl rfl rfl, h5.fr (fun a ha => e a (by omega)) rfl rfl rfl⟩
  simp only [mi_wi]
  by_cases hgf : g = f
  · subst hgf
    simp [h3.2 g hg]
  · simp [hgf, h3.2 g hg]
theorem fX4n (n : Nat) (u : XM) {x : Int32} (hx : x = nI n) (hf : n < 6) : F_X4_found x u = some (-3, fC u n) := by rw [hx]; exact fX4 u hf
theorem fX5n (n : Nat) (u : XM) {x : Int32} (hx : x = nI n) (hf : n < 6) : F_X5_found x u = some (-3, fM u n) := by rw [hx]; exact fX5 u hf
theorem ST_asked (u : XM) (h : REL u) : PRI F_X4_asked F_X5_asked u := ⟨mi u 0 12, u, u, rfl, by rw [h.2.2.2.1.1]; rfl, h⟩
theorem ST_upper (u : XM) (h : REL u) : PRL F_X4_upper F_X5_upper u := ⟨ml u 0 13, u, u, rfl, by rw [h.2.2.2.1.2.1]; rfl, h⟩
theorem ST_lower (u : XM) (h : REL u) : PRL F_X4_lower F_X5_lower u := ⟨ml u 0 14, u, u, rfl, by rw [h.2.2.2.1.2.2]; rfl, h⟩
theorem ST_finding (u : XM) (h : REL u) : PRI F_X4_finding F_X5_finding u := ⟨mi u 0 11, u, u, rfl, by rw [h.2.2.1.1]; rfl, h⟩
/-! ===== checks ===== -/
theorem l_i64 (v : Int32) : v.toInt64.toInt = v.toInt := Int32.toInt_toInt64 v
theorem in5 (a b c : Int64) (u : XM) : F_X5_in a b c u = some (if b.toInt ≤ a.toInt ∧ a.toInt ≤ c.toInt then 1 else 0, u) := by
  unfold F_X5_in
  simp only [lgc_neg, lgc_pos]
  by_cases h1 : a < b
  · rw [if_pos h1, if_neg]
    rw [l_lt] at h1; omega
  · rw [if_neg h1]
    by_cases h2 : c < a
    · rw [if_pos h2, if_neg]
      rw [l_lt] at h2; omega
    · rw [if_neg h2, if_pos]
      rw [l_lt] at h1 h2; omega
