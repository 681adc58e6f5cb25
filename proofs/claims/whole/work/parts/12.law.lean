/-- the script: cell 999, read alone -/
def EL (L : Nat) (xs : Nat → Int32) : State → Heap → (Nat → Prop) → (Nat → Nat) → Prop := fun s H0 A r => va_X (r 999) L xs s H0 ∧ r 999 < H0.size ∧ ¬ A (r 999)
def sin (L : Nat) (i : Int32) : Bool := decide (0 ≤ i) && decide (i.toNatClampNeg < L)
theorem sin_in {L : Nat} {i : Int32} (h : sin L i = true) : vp_in i L := by
  simp only [sin, Bool.and_eq_true, decide_eq_true_eq] at h
  exact fun q => q.elim (fun q => Int32.not_le.mpr q h.1) (fun q => by omega)
section XScript
variable {L : Nat} {xs : Nat → Int32} {Y : List XS} {d : Nat} {y : MethodName} {cc : ByteArray} {nL : Nat} {rt : Option FieldType} {pc q : Nat} {lv : List (Option Value)} {st : List Value} {u : XM} {τ : Type} {em : τ → Option Value} {o : Option (τ × XM)}
theorem gf_sld {i : Int32} (hd : decode cc pc = .ok (.iaload, 1)) (hq : pc + 1 = q) (h : GF (EL L xs) Y d y cc nL rt q lv (.int (xs i.toNatClampNeg) :: st) u em o) : GF (EL L xs) Y d y cc nL rt pc lv (.int i :: .ref 999 :: st) u em (if sin L i = true then o else none) := by
  subst hq
  by_cases hc : sin L i = true
  · rw [if_pos hc]
    intro z u' eo
    intro p l e R s m args below meth c D ca r H H0 locs cells slots A Q ls hC hE hD hP hS hl kk
    obtain ⟨hx, hb, hml, hr, hlk, hown, hts, hnw, hK, hfr, hlo, hce, hsl⟩ := id hC
    exact va_sld hx hb hE.1 hE.2.1 hE.2.2 hS (sin_in hc) hd (h z u' eo p l e R s m args below meth c D ca r H H0 locs cells slots A Q ls hC hE hD hP hS hl kk)
  · rw [if_neg hc]
    exact gf_none
theorem gf_slen (hd : decode cc pc = .ok (.arraylength, 1)) (hq : pc + 1 = q) (h : GF (EL L xs) Y d y cc nL rt q lv (.int (nI L) :: st) u em o) : GF (EL L xs) Y d y cc nL rt pc lv (.ref 999 :: st) u em o := by
  subst hq
  intro z u' eo
  intro p l e R s m args below meth c D ca r H H0 locs cells slots A Q ls hC hE hD hP hS hl kk
  obtain ⟨hx, hb, hml, hr, hlk, hown, hts, hnw, hK, hfr, hlo, hce, hsl⟩ := id hC
  exact va_slen hx hb hE.1 hE.2.1 hE.2.2 hS hd (h z u' eo p l e R s m args below meth c D ca r H H0 locs cells slots A Q ls hC hE hD hP hS hl kk)
end XScript
def F_law_1452 (L : Nat) (xs : Nat → Int32) (k18 : Int32 → XM → Option (Int32 × XM)) (v3 : Int32) (u : XM) : Option (Int32 × XM) := k18 (v3 + 6) u
set_option maxRecDepth 20000 in
set_option maxHeartbeats 4000000 in
theorem T_law_1452 (L : Nat) (xs : Nat → Int32) (k18 : Int32 → XM → Option (Int32 × XM)) (hk18 : ∀ (v3 : Int32) (u : XM), GF (EL L xs) YY 15 yL_law cL_law 4 (some .boolean) 18 [some (.ref 999), some (.ref 0), some (.ref 35), some (.int v3)] [] u emI (k18 v3 u)) (v3 : Int32) (u : XM) : GF (EL L xs) YY 15 yL_law cL_law 4 (some .boolean) 1452 [some (.ref 999), some (.ref 0), some (.ref 35), some (.int v3)] [] u emI (F_law_1452 L xs k18 v3 u) := by
  unfold F_law_1452
  refine gf_iinc (v := (v3 + 6)) (lv2 := [some (.ref 999), some (.ref 0), some (.ref 35), some (.int (v3 + 6))]) (q := 1455) dL_law_1452 rfl (congrArg _ ki_6) (by decide) rfl rfl ?_
  refine gf_goto (q := 18) dL_law_1455 (by decide) ?_
  exact (hk18 (v3 + 6) u)
def F_law_18 (L : Nat) (xs : Nat → Int32) : Nat → Int32 → XM → Option (Int32 × XM)
  | 0, _, _ => none
  | n + 1, v3, u => (if ((nI L) - 6) < v3 then some (1, u) else (if sin L v3 = true then (tsw ((xs (Int32.toNatClampNeg v3)) &&& 63) 0 [(if sin L (v3 + 1) = true then (if sin L (v3 + 2) = true then (Option.bind (F_X4_row (xs (Int32.toNatClampNeg (v3 + 1))) (xs (Int32.toNatClampNeg (v3 + 2))) u) (fun x1 => (if sin L (v3 + 1) = true then (if sin L (v3 + 2) = true then (Option.bind (F_X5_row (xs (Int32.toNatClampNeg (v3 + 1))) (xs (Int32.toNatClampNeg (v3 + 2))) x1.2) (fun x2 => (if x1.1 = x2.1 then F_law_1452 L xs (F_law_18 L xs n) v3 x2.2 else some (0, x2.2)))) else none) else none))) else none) else none), (if sin L (v3 + 1) = true then (if sin L (v3 + 2) = true then (if sin L (v3 + 3) = true then (Option.bind (F_X4_lay (xs (Int32.toNatClampNeg (v3 + 1))) (xs (Int32.toNatClampNeg (v3 + 2))) (xs (Int32.toNatClampNeg (v3 + 3))) u) (fun x3 => (if sin L (v3 + 1) = true then (if sin L (v3 + 2) = true then (if sin L (v3 + 3) = true then (Option.bind (F_X5_lay (xs (Int32.toNatClampNeg (v3 + 1))) (xs (Int32.toNatClampNeg (v3 + 2))) (xs (Int32.toNatClampNeg (v3 + 3))) x3.2) (fun x4 => (if x3.1 = x4.1 then F_law_1452 L xs (F_law_18 L xs n) v3 x4.2 else some (0, x4.2)))) else none) else none) else none))) else none) else none) else none), (if sin L (v3 + 1) = true then (if sin L (v3 + 2) = true then (Option.bind (F_X4_at (xs (Int32.toNatClampNeg (v3 + 1))) (xs (Int32.toNatClampNeg (v3 + 2))) u) (fun x5 => (if sin L (v3 + 1) = true then (if sin L (v3 + 2) = true then (Option.bind (F_X5_at (xs (Int32.toNatClampNeg (v3 + 1))) (xs (Int32.toNatClampNeg (v3 + 2))) x5.2) (fun x6 => (if x5.1 = x6.1 then F_law_1452 L xs (F_law_18 L xs n) v3 x6.2 else some (0, x6.2)))) else none) else none))) else none) else none), (if sin L (v3 + 1) = true then (Option.bind (F_X4_tear (xs (Int32.toNatClampNeg (v3 + 1))) u) (fun x7 => (if sin L (v3 + 1) = true then (Option.bind (F_X5_tear (xs (Int32.toNatClampNeg (v3 + 1))) x7.2) (fun x8 => (if x7.1 = x8.1 then F_law_1452 L xs (F_law_18 L xs n) v3 x8.2 else some (0, x8.2)))) else none))) else none), (if sin L (v3 + 1) = true then (if sin L (v3 + 2) = true then (if sin L (v3 + 3) = true then (if sin L (v3 + 4) = true then (if sin L (v3 + 5) = true then (Option.bind (F_X4_copy (xs (Int32.toNatClampNeg (v3 + 1))) (xs (Int32.toNatClampNeg (v3 + 2))) (xs (Int32.toNatClampNeg (v3 + 3))) (xs (Int32.toNatClampNeg (v3 + 4))) (xs (Int32.toNatClampNeg (v3 + 5))) u) (fun x9 => (if sin L (v3 + 1) = true then (if sin L (v3 + 2) = true then (if sin L (v3 + 3) = true then (if sin L (v3 + 4) = true then (if sin L (v3 + 5) = true then (Option.bind (F_X5_copy (xs (Int32.toNatClampNeg (v3 + 1))) (xs (Int32.toNatClampNeg (v3 + 2))) (xs (Int32.toNatClampNeg (v3 + 3))) (xs (Int32.toNatClampNeg (v3 + 4))) (xs (Int32.toNatClampNeg (v3 + 5))) x9.2) (fun x10 => (if x9.1 = x10.1 then F_law_1452 L xs (F_law_18 L xs n) v3 x10.2 else some (0, x10.2)))) else none) else none) else none) else none) else none))) else none) else none) else none) else none) else none), (if sin L (v3 + 1) = true then (Option.bind (F_X4_mean (xs (Int32.toNatClampNeg (v3 + 1))) u) (fun x11 => (if sin L (v3 + 1) = true then (Option.bind (F_X5_mean (xs (Int32.toNatClampNeg (v3 + 1))) x11.2) (fun x12 => (if x11.1 = x12.1 then F_law_1452 L xs (F_law_18 L xs n) v3 x12.2 else some (0, x12.2)))) else none))) else none), (if sin L (v3 + 1) = true then (if sin L (v3 + 2) = true then (Option.bind (F_X4_text (xs (Int32.toNatClampNeg (v3 + 1))) (xs (Int32.toNatClampNeg (v3 + 2))) u) (fun x13 => (if sin L (v3 + 1) = true then (if sin L (v3 + 2) = true then (Option.bind (F_X5_text (xs (Int32.toNatClampNeg (v3 + 1))) (xs (Int32.toNatClampNeg (v3 + 2))) x13.2) (fun x14 => (if x13.1 = x14.1 then F_law_1452 L xs (F_law_18 L xs n) v3 x14.2 else some (0, x14.2)))) else none) else none))) else none) else none), (if sin L (v3 + 1) = true then (if sin L (v3 + 2) = true then (if sin L (v3 + 3) = true then (Option.bind (F_X4_put (xs (Int32.toNatClampNeg (v3 + 1))) (xs (Int32.toNatClampNeg (v3 + 2))) (xs (Int32.toNatClampNeg (v3 + 3))) u) (fun x15 => (if sin L (v3 + 1) = true then (if sin L (v3 + 2) = true then (if sin L (v3 + 3) = true then (Option.bind (F_X5_put (xs (Int32.toNatClampNeg (v3 + 1))) (xs (Int32.toNatClampNeg (v3 + 2))) (xs (Int32.toNatClampNeg (v3 + 3))) x15.2) (fun x16 => (if x15.1 = x16.1 then F_law_1452 L xs (F_law_18 L xs n) v3 x16.2 else some (0, x16.2)))) else none) else none) else none))) else none) else none) else none), (if sin L (v3 + 1) = true then (Option.bind (F_X4_fault (xs (Int32.toNatClampNeg (v3 + 1))) u) (fun x17 => (if sin L (v3 + 1) = true then (Option.bind (F_X5_fault (xs (Int32.toNatClampNeg (v3 + 1))) x17.2) (fun x18 => (if x17.1 = x18.1 then F_law_1452 L xs (F_law_18 L xs n) v3 x18.2 else some (0, x18.2)))) else none))) else none), (if sin L (v3 + 1) = true then (Option.bind (F_X4_canal (xs (Int32.toNatClampNeg (v3 + 1))) u) (fun x19 => (if sin L (v3 + 1) = true then (Option.bind (F_X5_canal (xs (Int32.toNatClampNeg (v3 + 1))) x19.2) (fun x20 => (if x19.1 = x20.1 then F_law_1452 L xs (F_law_18 L xs n) v3 x20.2 else some (0, x20.2)))) else none))) else none), (if sin L (v3 + 1) = true then (if sin L (v3 + 2) = true then (Option.bind (F_X4_thing (xs (Int32.toNatClampNeg (v3 + 1))) (xs (Int32.toNatClampNeg (v3 + 2))) u) (fun x21 => (if sin L (v3 + 1) = true then (if sin L (v3 + 2) = true then (Option.bind (F_X5_thing (xs (Int32.toNatClampNeg (v3 + 1))) (xs (Int32.toNatClampNeg (v3 + 2))) x21.2) (fun x22 => (if x21.1 = x22.1 then F_law_1452 L xs (F_law_18 L xs n) v3 x22.2 else some (0, x22.2)))) else none) else none))) else none) else none), (if sin L (v3 + 1) = true then (if sin L (v3 + 2) = true then (Option.bind (F_X4_mark (xs (Int32.toNatClampNeg (v3 + 1))) (xs (Int32.toNatClampNeg (v3 + 2))) u) (fun x23 => (if sin L (v3 + 1) = true then (if sin L (v3 + 2) = true then (Option.bind (F_X5_mark (xs (Int32.toNatClampNeg (v3 + 1))) (xs (Int32.toNatClampNeg (v3 + 2))) x23.2) (fun x24 => (if x23.1 = x24.1 then F_law_1452 L xs (F_law_18 L xs n) v3 x24.2 else some (0, x24.2)))) else none) else none))) else none) else none), (if sin L (v3 + 1) = true then (Option.bind (F_X4_cell (xs (Int32.toNatClampNeg (v3 + 1))) u) (fun x25 => (if sin L (v3 + 1) = true then (Option.bind (F_X5_cell (xs (Int32.toNatClampNeg (v3 + 1))) x25.2) (fun x26 => (if x25.1 = x26.1 then F_law_1452 L xs (F_law_18 L xs n) v3 x26.2 else some (0, x26.2)))) else none))) else none), (Option.bind (F_X4_year u) (fun x27 => (Option.bind (F_X5_year x27.2) (fun x28 => (if x27.1 = x28.1 then F_law_1452 L xs (F_law_18 L xs n) v3 x28.2 else some (0, x28.2)))))), (if sin L (v3 + 1) = true then (Option.bind (F_X4_paddle (xs (Int32.toNatClampNeg (v3 + 1))) u) (fun x29 => (if sin L (v3 + 1) = true then (Option.bind (F_X5_paddle (xs (Int32.toNatClampNeg (v3 + 1))) x29.2) (fun x30 => (if x29.1 = x30.1 then F_law_1452 L xs (F_law_18 L xs n) v3 x30.2 else some (0, x30.2)))) else none))) else none), (if sin L (v3 + 1) = true then (if sin L (v3 + 2) = true then (Option.bind (F_X4_move (xs (Int32.toNatClampNeg (v3 + 1))) (xs (Int32.toNatClampNeg (v3 + 2))) u) (fun x31 => (if sin L (v3 + 1) = true then (if sin L (v3 + 2) = true then (Option.bind (F_X5_move (xs (Int32.toNatClampNeg (v3 + 1))) (xs (Int32.toNatClampNeg (v3 + 2))) x31.2) (fun x32 => (if x31.1 = x32.1 then F_law_1452 L xs (F_law_18 L xs n) v3 x32.2 else some (0, x32.2)))) else none) else none))) else none) else none), (if sin L (v3 + 1) = true then (Option.bind (F_X4_take (xs (Int32.toNatClampNeg (v3 + 1))) u) (fun x33 => (if sin L (v3 + 1) = true then (Option.bind (F_X5_take (xs (Int32.toNatClampNeg (v3 + 1))) x33.2) (fun x34 => (if x33.1 = x34.1 then F_law_1452 L xs (F_law_18 L xs n) v3 x34.2 else some (0, x34.2)))) else none))) else none), (if sin L (v3 + 1) = true then (Option.bind (F_X4_undo (xs (Int32.toNatClampNeg (v3 + 1))) u) (fun x35 => (if sin L (v3 + 1) = true then (Option.bind (F_X5_undo (xs (Int32.toNatClampNeg (v3 + 1))) x35.2) (fun x36 => (if x35.1 = x36.1 then F_law_1452 L xs (F_law_18 L xs n) v3 x36.2 else some (0, x36.2)))) else none))) else none), (if sin L (v3 + 1) = true then (Option.bind (F_X4_keep (xs (Int32.toNatClampNeg (v3 + 1))) u) (fun x37 => (if sin L (v3 + 1) = true then (Option.bind (F_X5_keep (xs (Int32.toNatClampNeg (v3 + 1))) x37.2) (fun x38 => (if x37.1 = x38.1 then F_law_1452 L xs (F_law_18 L xs n) v3 x38.2 else some (0, x38.2)))) else none))) else none), (if sin L (v3 + 1) = true then (Option.bind (F_X4_on (xs (Int32.toNatClampNeg (v3 + 1))) u) (fun x39 => (if sin L (v3 + 1) = true then (Option.bind (F_X5_on (xs (Int32.toNatClampNeg (v3 + 1))) x39.2) (fun x40 => (if x39.1 = x40.1 then F_law_1452 L xs (F_law_18 L xs n) v3 x40.2 else some (0, x40.2)))) else none))) else none), (if sin L (v3 + 1) = true then (if sin L (v3 + 2) = true then (Option.bind (F_X4_lies (xs (Int32.toNatClampNeg (v3 + 1))) (xs (Int32.toNatClampNeg (v3 + 2))) u) (fun x41 => (if sin L (v3 + 1) = true then (if sin L (v3 + 2) = true then (Option.bind (F_X5_lies (xs (Int32.toNatClampNeg (v3 + 1))) (xs (Int32.toNatClampNeg (v3 + 2))) x41.2) (fun x42 => (if x41.1 = x42.1 then F_law_1452 L xs (F_law_18 L xs n) v3 x42.2 else some (0, x42.2)))) else none) else none))) else none) else none), (Option.bind (F_X4_three u) (fun x43 => (Option.bind (F_X5_three x43.2) (fun x44 => (if x43.1 = x44.1 then F_law_1452 L xs (F_law_18 L xs n) v3 x44.2 else some (0, x44.2)))))), (if sin L (v3 + 1) = true then (if sin L (v3 + 2) = true then (if sin L (v3 + 3) = true then (Option.bind (F_X4_moves (xs (Int32.toNatClampNeg (v3 + 1))) (xs (Int32.toNatClampNeg (v3 + 2))) (xs (Int32.toNatClampNeg (v3 + 3))) u) (fun x45 => (if sin L (v3 + 1) = true then (if sin L (v3 + 2) = true then (if sin L (v3 + 3) = true then (Option.bind (F_X5_moves (xs (Int32.toNatClampNeg (v3 + 1))) (xs (Int32.toNatClampNeg (v3 + 2))) (xs (Int32.toNatClampNeg (v3 + 3))) x45.2) (fun x46 => (if x45.1 = x46.1 then F_law_1452 L xs (F_law_18 L xs n) v3 x46.2 else some (0, x46.2)))) else none) else none) else none))) else none) else none) else none), (if sin L (v3 + 1) = true then (Option.bind (F_X4_owned (xs (Int32.toNatClampNeg (v3 + 1))) u) (fun x47 => (if sin L (v3 + 1) = true then (Option.bind (F_X5_owned (xs (Int32.toNatClampNeg (v3 + 1))) x47.2) (fun x48 => (if x47.1 = x48.1 then F_law_1452 L xs (F_law_18 L xs n) v3 x48.2 else some (0, x48.2)))) else none))) else none), (if sin L (v3 + 1) = true then (if sin L (v3 + 2) = true then (if sin L (v3 + 3) = true then (Option.bind (F_X4_thrown (xs (Int32.toNatClampNeg (v3 + 1))) (xs (Int32.toNatClampNeg (v3 + 2))) (xs (Int32.toNatClampNeg (v3 + 3))) u) (fun x49 => (if sin L (v3 + 1) = true then (if sin L (v3 + 2) = true then (if sin L (v3 + 3) = true then (Option.bind (F_X5_thrown (xs (Int32.toNatClampNeg (v3 + 1))) (xs (Int32.toNatClampNeg (v3 + 2))) (xs (Int32.toNatClampNeg (v3 + 3))) x49.2) (fun x50 => (if x49.1 = x50.1 then F_law_1452 L xs (F_law_18 L xs n) v3 x50.2 else some (0, x50.2)))) else none) else none) else none))) else none) else none) else none), (if sin L (v3 + 1) = true then (Option.bind (F_X4_stand (xs (Int32.toNatClampNeg (v3 + 1))) u) (fun x51 => (if sin L (v3 + 1) = true then (Option.bind (F_X5_stand (xs (Int32.toNatClampNeg (v3 + 1))) x51.2) (fun x52 => (if x51.1 = x52.1 then F_law_1452 L xs (F_law_18 L xs n) v3 x52.2 else some (0, x52.2)))) else none))) else none), (if sin L (v3 + 1) = true then (Option.bind (F_X4_level (xs (Int32.toNatClampNeg (v3 + 1))) u) (fun x53 => (if sin L (v3 + 1) = true then (Option.bind (F_X5_level (xs (Int32.toNatClampNeg (v3 + 1))) x53.2) (fun x54 => (if x53.1 = x54.1 then F_law_1452 L xs (F_law_18 L xs n) v3 x54.2 else some (0, x54.2)))) else none))) else none), (if sin L (v3 + 1) = true then (Option.bind (F_X4_home (xs (Int32.toNatClampNeg (v3 + 1))) u) (fun x55 => (if sin L (v3 + 1) = true then (Option.bind (F_X5_home (xs (Int32.toNatClampNeg (v3 + 1))) x55.2) (fun x56 => (if x55.1 = x56.1 then F_law_1452 L xs (F_law_18 L xs n) v3 x56.2 else some (0, x56.2)))) else none))) else none), (if sin L (v3 + 1) = true then (Option.bind (F_X4_stops (xs (Int32.toNatClampNeg (v3 + 1))) u) (fun x57 => (if sin L (v3 + 1) = true then (Option.bind (F_X5_stops (xs (Int32.toNatClampNeg (v3 + 1))) x57.2) (fun x58 => (if x57.1 = x58.1 then F_law_1452 L xs (F_law_18 L xs n) v3 x58.2 else some (0, x58.2)))) else none))) else none), (if sin L (v3 + 1) = true then (if sin L (v3 + 2) = true then (Option.bind (F_X4_starts (xs (Int32.toNatClampNeg (v3 + 1))) (xs (Int32.toNatClampNeg (v3 + 2))) u) (fun x59 => (if sin L (v3 + 1) = true then (if sin L (v3 + 2) = true then (Option.bind (F_X5_starts (xs (Int32.toNatClampNeg (v3 + 1))) (xs (Int32.toNatClampNeg (v3 + 2))) x59.2) (fun x60 => (if x59.1 = x60.1 then F_law_1452 L xs (F_law_18 L xs n) v3 x60.2 else some (0, x60.2)))) else none) else none))) else none) else none), (if sin L (v3 + 1) = true then (if sin L (v3 + 2) = true then (Option.bind (F_X4_weights (xs (Int32.toNatClampNeg (v3 + 1))) (xs (Int32.toNatClampNeg (v3 + 2))) u) (fun x61 => (if sin L (v3 + 1) = true then (if sin L (v3 + 2) = true then (Option.bind (F_X5_weights (xs (Int32.toNatClampNeg (v3 + 1))) (xs (Int32.toNatClampNeg (v3 + 2))) x61.2) (fun x62 => (if x61.1 = x62.1 then F_law_1452 L xs (F_law_18 L xs n) v3 x62.2 else some (0, x62.2)))) else none) else none))) else none) else none), (if sin L (v3 + 1) = true then (if sin L (v3 + 2) = true then (Option.bind (F_X4_kinds (xs (Int32.toNatClampNeg (v3 + 1))) (xs (Int32.toNatClampNeg (v3 + 2))) u) (fun x63 => (if sin L (v3 + 1) = true then (if sin L (v3 + 2) = true then (Option.bind (F_X5_kinds (xs (Int32.toNatClampNeg (v3 + 1))) (xs (Int32.toNatClampNeg (v3 + 2))) x63.2) (fun x64 => (if x63.1 = x64.1 then F_law_1452 L xs (F_law_18 L xs n) v3 x64.2 else some (0, x64.2)))) else none) else none))) else none) else none), (if sin L (v3 + 1) = true then (if sin L (v3 + 2) = true then (if sin L (v3 + 3) = true then (if sin L (v3 + 4) = true then (Option.bind (F_X4_night (xs (Int32.toNatClampNeg (v3 + 1))) (xs (Int32.toNatClampNeg (v3 + 2))) (xs (Int32.toNatClampNeg (v3 + 3))) (xs (Int32.toNatClampNeg (v3 + 4))) u) (fun x65 => (if sin L (v3 + 1) = true then (if sin L (v3 + 2) = true then (if sin L (v3 + 3) = true then (if sin L (v3 + 4) = true then (Option.bind (F_X5_night (xs (Int32.toNatClampNeg (v3 + 1))) (xs (Int32.toNatClampNeg (v3 + 2))) (xs (Int32.toNatClampNeg (v3 + 3))) (xs (Int32.toNatClampNeg (v3 + 4))) x65.2) (fun x66 => (if x65.1 = x66.1 then F_law_1452 L xs (F_law_18 L xs n) v3 x66.2 else some (0, x66.2)))) else none) else none) else none) else none))) else none) else none) else none) else none), (if sin L (v3 + 1) = true then (if sin L (v3 + 2) = true then (if sin L (v3 + 3) = true then (if sin L (v3 + 4) = true then (Option.bind (F_X4_odds (xs (Int32.toNatClampNeg (v3 + 1))) (xs (Int32.toNatClampNeg (v3 + 2))) (xs (Int32.toNatClampNeg (v3 + 3))) (xs (Int32.toNatClampNeg (v3 + 4))) u) (fun x67 => (if sin L (v3 + 1) = true then (if sin L (v3 + 2) = true then (if sin L (v3 + 3) = true then (if sin L (v3 + 4) = true then (Option.bind (F_X5_odds (xs (Int32.toNatClampNeg (v3 + 1))) (xs (Int32.toNatClampNeg (v3 + 2))) (xs (Int32.toNatClampNeg (v3 + 3))) (xs (Int32.toNatClampNeg (v3 + 4))) x67.2) (fun x68 => (if x67.1 = x68.1 then F_law_1452 L xs (F_law_18 L xs n) v3 x68.2 else some (0, x68.2)))) else none) else none) else none) else none))) else none) else none) else none) else none), (if sin L (v3 + 1) = true then (if sin L (v3 + 2) = true then (if sin L (v3 + 3) = true then (Option.bind (F_X4_mid (xs (Int32.toNatClampNeg (v3 + 1))) (xs (Int32.toNatClampNeg (v3 + 2))) (xs (Int32.toNatClampNeg (v3 + 3))) u) (fun x69 => (if sin L (v3 + 1) = true then (if sin L (v3 + 2) = true then (if sin L (v3 + 3) = true then (Option.bind (F_X5_mid (xs (Int32.toNatClampNeg (v3 + 1))) (xs (Int32.toNatClampNeg (v3 + 2))) (xs (Int32.toNatClampNeg (v3 + 3))) x69.2) (fun x70 => (if x69.1 = x70.1 then F_law_1452 L xs (F_law_18 L xs n) v3 x70.2 else some (0, x70.2)))) else none) else none) else none))) else none) else none) else none), (if sin L (v3 + 1) = true then (if sin L (v3 + 2) = true then (Option.bind (F_X4_lots (xs (Int32.toNatClampNeg (v3 + 1))) (xs (Int32.toNatClampNeg (v3 + 2))) u) (fun x71 => (if sin L (v3 + 1) = true then (if sin L (v3 + 2) = true then (Option.bind (F_X5_lots (xs (Int32.toNatClampNeg (v3 + 1))) (xs (Int32.toNatClampNeg (v3 + 2))) x71.2) (fun x72 => (if x71.1 = x72.1 then F_law_1452 L xs (F_law_18 L xs n) v3 x72.2 else some (0, x72.2)))) else none) else none))) else none) else none), (Option.bind (F_X4_asked u) (fun x73 => (Option.bind (F_X5_asked x73.2) (fun x74 => (if x73.1 = x74.1 then F_law_1452 L xs (F_law_18 L xs n) v3 x74.2 else some (0, x74.2)))))), (Option.bind (F_X4_upper u) (fun x75 => (Option.bind (F_X5_upper x75.2) (fun x76 => (if (lg_cmp x75.1 x76.1) = 0 then F_law_1452 L xs (F_law_18 L xs n) v3 x76.2 else some (0, x76.2)))))), (Option.bind (F_X4_lower u) (fun x77 => (Option.bind (F_X5_lower x77.2) (fun x78 => (if (lg_cmp x77.1 x78.1) = 0 then F_law_1452 L xs (F_law_18 L xs n) v3 x78.2 else some (0, x78.2)))))), (if sin L (v3 + 1) = true then (Option.bind (F_X4_count (xs (Int32.toNatClampNeg (v3 + 1))) u) (fun x79 => (if sin L (v3 + 1) = true then (Option.bind (F_X5_count (xs (Int32.toNatClampNeg (v3 + 1))) x79.2) (fun x80 => (if x79.1 = x80.1 then F_law_1452 L xs (F_law_18 L xs n) v3 x80.2 else some (0, x80.2)))) else none))) else none), (Option.bind (F_X4_finding u) (fun x81 => (Option.bind (F_X5_finding x81.2) (fun x82 => (if x81.1 = x82.1 then F_law_1452 L xs (F_law_18 L xs n) v3 x82.2 else some (0, x82.2)))))), (if sin L (v3 + 1) = true then (Option.bind (F_X4_findings (xs (Int32.toNatClampNeg (v3 + 1))) u) (fun x83 => (if sin L (v3 + 1) = true then (Option.bind (F_X5_findings (xs (Int32.toNatClampNeg (v3 + 1))) x83.2) (fun x84 => (if x83.1 = x84.1 then F_law_1452 L xs (F_law_18 L xs n) v3 x84.2 else some (0, x84.2)))) else none))) else none), (Option.bind (F_X4_digest u) (fun x85 => (Option.bind (F_X5_digest x85.2) (fun x86 => (if (lg_cmp x85.1 x86.1) = 0 then F_law_1452 L xs (F_law_18 L xs n) v3 x86.2 else some (0, x86.2))))))] (F_law_1452 L xs (F_law_18 L xs n) v3 u)) else none))
set_option maxRecDepth 20000 in
set_option maxHeartbeats 4000000 in
theorem T_law_18 (L : Nat) (xs : Nat → Int32) : ∀ (n : Nat) (v3 : Int32) (u : XM), GF (EL L xs) YY 15 yL_law cL_law 4 (some .boolean) 18 [some (.ref 999), some (.ref 0), some (.ref 35), some (.int v3)] [] u emI (F_law_18 L xs n v3 u) := by
  intro n
  induction n with
  | zero => intro v3 u; exact gf_none
  | succ n ih =>
    intro v3 u
    unfold F_law_18
    refine gf_iload_n (i := 3) (q := 19) dL_law_18 rfl rfl rfl ?_
    refine gf_aload_n (i := 0) (q := 20) dL_law_19 rfl rfl rfl ?_
    refine gf_slen (q := 21) dL_law_20 rfl ?_
    refine gf_bipush (q := 23) dL_law_21 kb_6 rfl ?_
    refine gf_isub (q := 24) dL_law_23 rfl ?_
    refine gf_icmp_gt (t := 1458) (q := 27) dL_law_24 (by decide) rfl ?_ ?_
    · refine gf_iconst (q := 1459) dL_law_1458 ki_1 rfl ?_
      exact gf_retz dL_law_1459 rfl rfl
    · refine gf_aload_n (i := 0) (q := 28) dL_law_27 rfl rfl rfl ?_
      refine gf_iload_n (i := 3) (q := 29) dL_law_28 rfl rfl rfl ?_
      refine gf_sld (q := 30) dL_law_29 rfl ?_
      refine gf_bipush (q := 32) dL_law_30 kb_63 rfl ?_
      refine gf_iand (q := 33) dL_law_32 rfl ?_
      refine gf_tsw (ts := [220, 253, 296, 329, 352, 415, 438, 471, 514, 537, 560, 593, 626, 649, 662, 685, 718, 741, 764, 787, 810, 843, 856, 899, 922, 965, 988, 1011, 1034, 1057, 1090, 1123, 1156, 1209, 1262, 1305, 1338, 1351, 1365, 1379, 1402, 1415, 1438]) (t0 := 1452) dL_law_33 (by decide +kernel) (xsw_c ?_ (xsw_c ?_ (xsw_c ?_ (xsw_c ?_ (xsw_c ?_ (xsw_c ?_ (xsw_c ?_ (xsw_c ?_ (xsw_c ?_ (xsw_c ?_ (xsw_c ?_ (xsw_c ?_ (xsw_c ?_ (xsw_c ?_ (xsw_c ?_ (xsw_c ?_ (xsw_c ?_ (xsw_c ?_ (xsw_c ?_ (xsw_c ?_ (xsw_c ?_ (xsw_c ?_ (xsw_c ?_ (xsw_c ?_ (xsw_c ?_ (xsw_c ?_ (xsw_c ?_ (xsw_c ?_ (xsw_c ?_ (xsw_c ?_ (xsw_c ?_ (xsw_c ?_ (xsw_c ?_ (xsw_c ?_ (xsw_c ?_ (xsw_c ?_ (xsw_c ?_ (xsw_c ?_ (xsw_c ?_ (xsw_c ?_ (xsw_c ?_ (xsw_c ?_ (xsw_c ?_ (xsw_n)))))))))))))))))))))))))))))))))))))))))))) ?_
      · refine gf_aload_n (i := 1) (q := 221) dL_law_220 rfl rfl rfl ?_
        refine gf_aload_n (i := 0) (q := 222) dL_law_221 rfl rfl rfl ?_
        refine gf_iload_n (i := 3) (q := 223) dL_law_222 rfl rfl rfl ?_
        refine gf_iconst (q := 224) dL_law_223 ki_1 rfl ?_
        refine gf_iadd (q := 225) dL_law_224 rfl ?_
        refine gf_sld (q := 226) dL_law_225 rfl ?_
        refine gf_aload_n (i := 0) (q := 227) dL_law_226 rfl rfl rfl ?_
        refine gf_iload_n (i := 3) (q := 228) dL_law_227 rfl rfl rfl ?_
        refine gf_iconst (q := 229) dL_law_228 ki_2 rfl ?_
        refine gf_iadd (q := 230) dL_law_229 rfl ?_
        refine gf_sld (q := 231) dL_law_230 rfl ?_
        refine gf_callV_i (n2 := 2) (As := [.int (xs (Int32.toNatClampNeg (v3 + 1))), .int (xs (Int32.toNatClampNeg (v3 + 2)))]) (st := []) (b := 0) (ci := 4) (C := RX4) (q := 234) (hlen := rfl) rfl rfl kw173 kw174 kw175 dL_law_231 kw176 kw1 (by decide +kernel) (by decide) (Nat.le_of_ble_eq_true rfl) (C_X4_row (xs (Int32.toNatClampNeg (v3 + 1))) (xs (Int32.toNatClampNeg (v3 + 2))) u) rfl rfl (fun x1 => ?_)
        refine gf_aload_n (i := 2) (q := 235) dL_law_234 rfl rfl rfl ?_
        refine gf_aload_n (i := 0) (q := 236) dL_law_235 rfl rfl rfl ?_
        refine gf_iload_n (i := 3) (q := 237) dL_law_236 rfl rfl rfl ?_
        refine gf_iconst (q := 238) dL_law_237 ki_1 rfl ?_
        refine gf_iadd (q := 239) dL_law_238 rfl ?_
        refine gf_sld (q := 240) dL_law_239 rfl ?_
        refine gf_aload_n (i := 0) (q := 241) dL_law_240 rfl rfl rfl ?_
        refine gf_iload_n (i := 3) (q := 242) dL_law_241 rfl rfl rfl ?_
        refine gf_iconst (q := 243) dL_law_242 ki_2 rfl ?_
        refine gf_iadd (q := 244) dL_law_243 rfl ?_
        refine gf_sld (q := 245) dL_law_244 rfl ?_
        refine gf_callV_i (n2 := 2) (As := [.int (xs (Int32.toNatClampNeg (v3 + 1))), .int (xs (Int32.toNatClampNeg (v3 + 2)))]) (st := [.int x1.1]) (b := 35) (ci := 5) (C := RX5) (q := 248) (hlen := rfl) rfl rfl kw705 kw706 kw707 dL_law_245 kw708 kw7 (by decide +kernel) (by decide) (Nat.le_of_ble_eq_true rfl) (C_X5_row (xs (Int32.toNatClampNeg (v3 + 1))) (xs (Int32.toNatClampNeg (v3 + 2))) x1.2) rfl rfl (fun x2 => ?_)
        refine gf_icmp_eq (t := 1452) (q := 251) dL_law_248 (by decide) rfl ?_ ?_
        · exact (T_law_1452 L xs (F_law_18 L xs n) ih v3 x2.2)
        · refine gf_iconst (q := 252) dL_law_251 ki_0 rfl ?_
          exact gf_retz dL_law_252 rfl rfl
      · refine gf_aload_n (i := 1) (q := 254) dL_law_253 rfl rfl rfl ?_
        refine gf_aload_n (i := 0) (q := 255) dL_law_254 rfl rfl rfl ?_
        refine gf_iload_n (i := 3) (q := 256) dL_law_255 rfl rfl rfl ?_
        refine gf_iconst (q := 257) dL_law_256 ki_1 rfl ?_
        refine gf_iadd (q := 258) dL_law_257 rfl ?_
        refine gf_sld (q := 259) dL_law_258 rfl ?_
        refine gf_aload_n (i := 0) (q := 260) dL_law_259 rfl rfl rfl ?_
        refine gf_iload_n (i := 3) (q := 261) dL_law_260 rfl rfl rfl ?_
        refine gf_iconst (q := 262) dL_law_261 ki_2 rfl ?_
        refine gf_iadd (q := 263) dL_law_262 rfl ?_
        refine gf_sld (q := 264) dL_law_263 rfl ?_
        refine gf_aload_n (i := 0) (q := 265) dL_law_264 rfl rfl rfl ?_
        refine gf_iload_n (i := 3) (q := 266) dL_law_265 rfl rfl rfl ?_
        refine gf_iconst (q := 267) dL_law_266 ki_3 rfl ?_
        refine gf_iadd (q := 268) dL_law_267 rfl ?_
        refine gf_sld (q := 269) dL_law_268 rfl ?_
        refine gf_callV_i (n2 := 3) (As := [.int (xs (Int32.toNatClampNeg (v3 + 1))), .int (xs (Int32.toNatClampNeg (v3 + 2))), .int (xs (Int32.toNatClampNeg (v3 + 3)))]) (st := []) (b := 0) (ci := 4) (C := RX4) (q := 272) (hlen := rfl) rfl rfl kw184 kw185 kw186 dL_law_269 kw187 kw1 (by decide +kernel) (by decide) (Nat.le_of_ble_eq_true rfl) (C_X4_lay (xs (Int32.toNatClampNeg (v3 + 1))) (xs (Int32.toNatClampNeg (v3 + 2))) (xs (Int32.toNatClampNeg (v3 + 3))) u) rfl rfl (fun x3 => ?_)
        refine gf_aload_n (i := 2) (q := 273) dL_law_272 rfl rfl rfl ?_
        refine gf_aload_n (i := 0) (q := 274) dL_law_273 rfl rfl rfl ?_
        refine gf_iload_n (i := 3) (q := 275) dL_law_274 rfl rfl rfl ?_
        refine gf_iconst (q := 276) dL_law_275 ki_1 rfl ?_
        refine gf_iadd (q := 277) dL_law_276 rfl ?_
        refine gf_sld (q := 278) dL_law_277 rfl ?_
        refine gf_aload_n (i := 0) (q := 279) dL_law_278 rfl rfl rfl ?_
        refine gf_iload_n (i := 3) (q := 280) dL_law_279 rfl rfl rfl ?_
        refine gf_iconst (q := 281) dL_law_280 ki_2 rfl ?_
        refine gf_iadd (q := 282) dL_law_281 rfl ?_
        refine gf_sld (q := 283) dL_law_282 rfl ?_
        refine gf_aload_n (i := 0) (q := 284) dL_law_283 rfl rfl rfl ?_
        refine gf_iload_n (i := 3) (q := 285) dL_law_284 rfl rfl rfl ?_
        refine gf_iconst (q := 286) dL_law_285 ki_3 rfl ?_
        refine gf_iadd (q := 287) dL_law_286 rfl ?_
        refine gf_sld (q := 288) dL_law_287 rfl ?_
        refine gf_callV_i (n2 := 3) (As := [.int (xs (Int32.toNatClampNeg (v3 + 1))), .int (xs (Int32.toNatClampNeg (v3 + 2))), .int (xs (Int32.toNatClampNeg (v3 + 3)))]) (st := [.int x3.1]) (b := 35) (ci := 5) (C := RX5) (q := 291) (hlen := rfl) rfl rfl kw720 kw721 kw722 dL_law_288 kw723 kw7 (by decide +kernel) (by decide) (Nat.le_of_ble_eq_true rfl) (C_X5_lay (xs (Int32.toNatClampNeg (v3 + 1))) (xs (Int32.toNatClampNeg (v3 + 2))) (xs (Int32.toNatClampNeg (v3 + 3))) x3.2) rfl rfl (fun x4 => ?_)
        refine gf_icmp_eq (t := 1452) (q := 294) dL_law_291 (by decide) rfl ?_ ?_
        · exact (T_law_1452 L xs (F_law_18 L xs n) ih v3 x4.2)
        · refine gf_iconst (q := 295) dL_law_294 ki_0 rfl ?_
          exact gf_retz dL_law_295 rfl rfl
      · refine gf_aload_n (i := 1) (q := 297) dL_law_296 rfl rfl rfl ?_
        refine gf_aload_n (i := 0) (q := 298) dL_law_297 rfl rfl rfl ?_
        refine gf_iload_n (i := 3) (q := 299) dL_law_298 rfl rfl rfl ?_
        refine gf_iconst (q := 300) dL_law_299 ki_1 rfl ?_
        refine gf_iadd (q := 301) dL_law_300 rfl ?_
        refine gf_sld (q := 302) dL_law_301 rfl ?_
        refine gf_aload_n (i := 0) (q := 303) dL_law_302 rfl rfl rfl ?_
        refine gf_iload_n (i := 3) (q := 304) dL_law_303 rfl rfl rfl ?_
        refine gf_iconst (q := 305) dL_law_304 ki_2 rfl ?_
        refine gf_iadd (q := 306) dL_law_305 rfl ?_
        refine gf_sld (q := 307) dL_law_306 rfl ?_
        refine gf_callV_i (n2 := 2) (As := [.int (xs (Int32.toNatClampNeg (v3 + 1))), .int (xs (Int32.toNatClampNeg (v3 + 2)))]) (st := []) (b := 0) (ci := 4) (C := RX4) (q := 310) (hlen := rfl) rfl rfl kw192 kw193 kw194 dL_law_307 kw195 kw1 (by decide +kernel) (by decide) (Nat.le_of_ble_eq_true rfl) (C_X4_at (xs (Int32.toNatClampNeg (v3 + 1))) (xs (Int32.toNatClampNeg (v3 + 2))) u) rfl rfl (fun x5 => ?_)
        refine gf_aload_n (i := 2) (q := 311) dL_law_310 rfl rfl rfl ?_
        refine gf_aload_n (i := 0) (q := 312) dL_law_311 rfl rfl rfl ?_
        refine gf_iload_n (i := 3) (q := 313) dL_law_312 rfl rfl rfl ?_
        refine gf_iconst (q := 314) dL_law_313 ki_1 rfl ?_
        refine gf_iadd (q := 315) dL_law_314 rfl ?_
        refine gf_sld (q := 316) dL_law_315 rfl ?_
        refine gf_aload_n (i := 0) (q := 317) dL_law_316 rfl rfl rfl ?_
        refine gf_iload_n (i := 3) (q := 318) dL_law_317 rfl rfl rfl ?_
        refine gf_iconst (q := 319) dL_law_318 ki_2 rfl ?_
        refine gf_iadd (q := 320) dL_law_319 rfl ?_
        refine gf_sld (q := 321) dL_law_320 rfl ?_
        refine gf_callV_i (n2 := 2) (As := [.int (xs (Int32.toNatClampNeg (v3 + 1))), .int (xs (Int32.toNatClampNeg (v3 + 2)))]) (st := [.int x5.1]) (b := 35) (ci := 5) (C := RX5) (q := 324) (hlen := rfl) rfl rfl kw728 kw729 kw730 dL_law_321 kw731 kw7 (by decide +kernel) (by decide) (Nat.le_of_ble_eq_true rfl) (C_X5_at (xs (Int32.toNatClampNeg (v3 + 1))) (xs (Int32.toNatClampNeg (v3 + 2))) x5.2) rfl rfl (fun x6 => ?_)
        refine gf_icmp_eq (t := 1452) (q := 327) dL_law_324 (by decide) rfl ?_ ?_
        · exact (T_law_1452 L xs (F_law_18 L xs n) ih v3 x6.2)
        · refine gf_iconst (q := 328) dL_law_327 ki_0 rfl ?_
          exact gf_retz dL_law_328 rfl rfl
      · refine gf_aload_n (i := 1) (q := 330) dL_law_329 rfl rfl rfl ?_
        refine gf_aload_n (i := 0) (q := 331) dL_law_330 rfl rfl rfl ?_
        refine gf_iload_n (i := 3) (q := 332) dL_law_331 rfl rfl rfl ?_
        refine gf_iconst (q := 333) dL_law_332 ki_1 rfl ?_
        refine gf_iadd (q := 334) dL_law_333 rfl ?_
        refine gf_sld (q := 335) dL_law_334 rfl ?_
        refine gf_callV_i (n2 := 1) (As := [.int (xs (Int32.toNatClampNeg (v3 + 1)))]) (st := []) (b := 0) (ci := 4) (C := RX4) (q := 338) (hlen := rfl) rfl rfl kw196 kw197 kw198 dL_law_335 kw199 kw1 (by decide +kernel) (by decide) (Nat.le_of_ble_eq_true rfl) (C_X4_tear (xs (Int32.toNatClampNeg (v3 + 1))) u) rfl rfl (fun x7 => ?_)
        refine gf_aload_n (i := 2) (q := 339) dL_law_338 rfl rfl rfl ?_
        refine gf_aload_n (i := 0) (q := 340) dL_law_339 rfl rfl rfl ?_
        refine gf_iload_n (i := 3) (q := 341) dL_law_340 rfl rfl rfl ?_
        refine gf_iconst (q := 342) dL_law_341 ki_1 rfl ?_
        refine gf_iadd (q := 343) dL_law_342 rfl ?_
        refine gf_sld (q := 344) dL_law_343 rfl ?_
        refine gf_callV_i (n2 := 1) (As := [.int (xs (Int32.toNatClampNeg (v3 + 1)))]) (st := [.int x7.1]) (b := 35) (ci := 5) (C := RX5) (q := 347) (hlen := rfl) rfl rfl kw732 kw733 kw734 dL_law_344 kw735 kw7 (by decide +kernel) (by decide) (Nat.le_of_ble_eq_true rfl) (C_X5_tear (xs (Int32.toNatClampNeg (v3 + 1))) x7.2) rfl rfl (fun x8 => ?_)
        refine gf_icmp_eq (t := 1452) (q := 350) dL_law_347 (by decide) rfl ?_ ?_
        · exact (T_law_1452 L xs (F_law_18 L xs n) ih v3 x8.2)
        · refine gf_iconst (q := 351) dL_law_350 ki_0 rfl ?_
          exact gf_retz dL_law_351 rfl rfl
      · refine gf_aload_n (i := 1) (q := 353) dL_law_352 rfl rfl rfl ?_
        refine gf_aload_n (i := 0) (q := 354) dL_law_353 rfl rfl rfl ?_
        refine gf_iload_n (i := 3) (q := 355) dL_law_354 rfl rfl rfl ?_
        refine gf_iconst (q := 356) dL_law_355 ki_1 rfl ?_
        refine gf_iadd (q := 357) dL_law_356 rfl ?_
        refine gf_sld (q := 358) dL_law_357 rfl ?_
        refine gf_aload_n (i := 0) (q := 359) dL_law_358 rfl rfl rfl ?_
        refine gf_iload_n (i := 3) (q := 360) dL_law_359 rfl rfl rfl ?_
        refine gf_iconst (q := 361) dL_law_360 ki_2 rfl ?_
        refine gf_iadd (q := 362) dL_law_361 rfl ?_
        refine gf_sld (q := 363) dL_law_362 rfl ?_
        refine gf_aload_n (i := 0) (q := 364) dL_law_363 rfl rfl rfl ?_
        refine gf_iload_n (i := 3) (q := 365) dL_law_364 rfl rfl rfl ?_
        refine gf_iconst (q := 366) dL_law_365 ki_3 rfl ?_
        refine gf_iadd (q := 367) dL_law_366 rfl ?_
        refine gf_sld (q := 368) dL_law_367 rfl ?_
        refine gf_aload_n (i := 0) (q := 369) dL_law_368 rfl rfl rfl ?_
        refine gf_iload_n (i := 3) (q := 370) dL_law_369 rfl rfl rfl ?_
        refine gf_iconst (q := 371) dL_law_370 ki_4 rfl ?_
        refine gf_iadd (q := 372) dL_law_371 rfl ?_
        refine gf_sld (q := 373) dL_law_372 rfl ?_
        refine gf_aload_n (i := 0) (q := 374) dL_law_373 rfl rfl rfl ?_
        refine gf_iload_n (i := 3) (q := 375) dL_law_374 rfl rfl rfl ?_
        refine gf_iconst (q := 376) dL_law_375 ki_5 rfl ?_
        refine gf_iadd (q := 377) dL_law_376 rfl ?_
        refine gf_sld (q := 378) dL_law_377 rfl ?_
        refine gf_callV_i (n2 := 5) (As := [.int (xs (Int32.toNatClampNeg (v3 + 1))), .int (xs (Int32.toNatClampNeg (v3 + 2))), .int (xs (Int32.toNatClampNeg (v3 + 3))), .int (xs (Int32.toNatClampNeg (v3 + 4))), .int (xs (Int32.toNatClampNeg (v3 + 5)))]) (st := []) (b := 0) (ci := 4) (C := RX4) (q := 381) (hlen := rfl) rfl rfl kw200 kw201 kw202 dL_law_378 kw203 kw1 (by decide +kernel) (by decide) (Nat.le_of_ble_eq_true rfl) (C_X4_copy (xs (Int32.toNatClampNeg (v3 + 1))) (xs (Int32.toNatClampNeg (v3 + 2))) (xs (Int32.toNatClampNeg (v3 + 3))) (xs (Int32.toNatClampNeg (v3 + 4))) (xs (Int32.toNatClampNeg (v3 + 5))) u) rfl rfl (fun x9 => ?_)
        refine gf_aload_n (i := 2) (q := 382) dL_law_381 rfl rfl rfl ?_
        refine gf_aload_n (i := 0) (q := 383) dL_law_382 rfl rfl rfl ?_
        refine gf_iload_n (i := 3) (q := 384) dL_law_383 rfl rfl rfl ?_
        refine gf_iconst (q := 385) dL_law_384 ki_1 rfl ?_
        refine gf_iadd (q := 386) dL_law_385 rfl ?_
        refine gf_sld (q := 387) dL_law_386 rfl ?_
        refine gf_aload_n (i := 0) (q := 388) dL_law_387 rfl rfl rfl ?_
        refine gf_iload_n (i := 3) (q := 389) dL_law_388 rfl rfl rfl ?_
        refine gf_iconst (q := 390) dL_law_389 ki_2 rfl ?_
        refine gf_iadd (q := 391) dL_law_390 rfl ?_
        refine gf_sld (q := 392) dL_law_391 rfl ?_
        refine gf_aload_n (i := 0) (q := 393) dL_law_392 rfl rfl rfl ?_
        refine gf_iload_n (i := 3) (q := 394) dL_law_393 rfl rfl rfl ?_
        refine gf_iconst (q := 395) dL_law_394 ki_3 rfl ?_
        refine gf_iadd (q := 396) dL_law_395 rfl ?_
        refine gf_sld (q := 397) dL_law_396 rfl ?_
        refine gf_aload_n (i := 0) (q := 398) dL_law_397 rfl rfl rfl ?_
        refine gf_iload_n (i := 3) (q := 399) dL_law_398 rfl rfl rfl ?_
        refine gf_iconst (q := 400) dL_law_399 ki_4 rfl ?_
        refine gf_iadd (q := 401) dL_law_400 rfl ?_
        refine gf_sld (q := 402) dL_law_401 rfl ?_
        refine gf_aload_n (i := 0) (q := 403) dL_law_402 rfl rfl rfl ?_
        refine gf_iload_n (i := 3) (q := 404) dL_law_403 rfl rfl rfl ?_
        refine gf_iconst (q := 405) dL_law_404 ki_5 rfl ?_
        refine gf_iadd (q := 406) dL_law_405 rfl ?_
        refine gf_sld (q := 407) dL_law_406 rfl ?_
        refine gf_callV_i (n2 := 5) (As := [.int (xs (Int32.toNatClampNeg (v3 + 1))), .int (xs (Int32.toNatClampNeg (v3 + 2))), .int (xs (Int32.toNatClampNeg (v3 + 3))), .int (xs (Int32.toNatClampNeg (v3 + 4))), .int (xs (Int32.toNatClampNeg (v3 + 5)))]) (st := [.int x9.1]) (b := 35) (ci := 5) (C := RX5) (q := 410) (hlen := rfl) rfl rfl kw736 kw737 kw738 dL_law_407 kw739 kw7 (by decide +kernel) (by decide) (Nat.le_of_ble_eq_true rfl) (C_X5_copy (xs (Int32.toNatClampNeg (v3 + 1))) (xs (Int32.toNatClampNeg (v3 + 2))) (xs (Int32.toNatClampNeg (v3 + 3))) (xs (Int32.toNatClampNeg (v3 + 4))) (xs (Int32.toNatClampNeg (v3 + 5))) x9.2) rfl rfl (fun x10 => ?_)
        refine gf_icmp_eq (t := 1452) (q := 413) dL_law_410 (by decide) rfl ?_ ?_
        · exact (T_law_1452 L xs (F_law_18 L xs n) ih v3 x10.2)
        · refine gf_iconst (q := 414) dL_law_413 ki_0 rfl ?_
          exact gf_retz dL_law_414 rfl rfl
      · refine gf_aload_n (i := 1) (q := 416) dL_law_415 rfl rfl rfl ?_
        refine gf_aload_n (i := 0) (q := 417) dL_law_416 rfl rfl rfl ?_
        refine gf_iload_n (i := 3) (q := 418) dL_law_417 rfl rfl rfl ?_
        refine gf_iconst (q := 419) dL_law_418 ki_1 rfl ?_
        refine gf_iadd (q := 420) dL_law_419 rfl ?_
        refine gf_sld (q := 421) dL_law_420 rfl ?_
        refine gf_callV_i (n2 := 1) (As := [.int (xs (Int32.toNatClampNeg (v3 + 1)))]) (st := []) (b := 0) (ci := 4) (C := RX4) (q := 424) (hlen := rfl) rfl rfl kw210 kw211 kw212 dL_law_421 kw213 kw1 (by decide +kernel) (by decide) (Nat.le_of_ble_eq_true rfl) (C_X4_mean (xs (Int32.toNatClampNeg (v3 + 1))) u) rfl rfl (fun x11 => ?_)
        refine gf_aload_n (i := 2) (q := 425) dL_law_424 rfl rfl rfl ?_
        refine gf_aload_n (i := 0) (q := 426) dL_law_425 rfl rfl rfl ?_
        refine gf_iload_n (i := 3) (q := 427) dL_law_426 rfl rfl rfl ?_
        refine gf_iconst (q := 428) dL_law_427 ki_1 rfl ?_
        refine gf_iadd (q := 429) dL_law_428 rfl ?_
        refine gf_sld (q := 430) dL_law_429 rfl ?_
        refine gf_callV_i (n2 := 1) (As := [.int (xs (Int32.toNatClampNeg (v3 + 1)))]) (st := [.int x11.1]) (b := 35) (ci := 5) (C := RX5) (q := 433) (hlen := rfl) rfl rfl kw740 kw741 kw742 dL_law_430 kw743 kw7 (by decide +kernel) (by decide) (Nat.le_of_ble_eq_true rfl) (C_X5_mean (xs (Int32.toNatClampNeg (v3 + 1))) x11.2) rfl rfl (fun x12 => ?_)
        refine gf_icmp_eq (t := 1452) (q := 436) dL_law_433 (by decide) rfl ?_ ?_
        · exact (T_law_1452 L xs (F_law_18 L xs n) ih v3 x12.2)
        · refine gf_iconst (q := 437) dL_law_436 ki_0 rfl ?_
          exact gf_retz dL_law_437 rfl rfl
      · refine gf_aload_n (i := 1) (q := 439) dL_law_438 rfl rfl rfl ?_
        refine gf_aload_n (i := 0) (q := 440) dL_law_439 rfl rfl rfl ?_
        refine gf_iload_n (i := 3) (q := 441) dL_law_440 rfl rfl rfl ?_
        refine gf_iconst (q := 442) dL_law_441 ki_1 rfl ?_
        refine gf_iadd (q := 443) dL_law_442 rfl ?_
        refine gf_sld (q := 444) dL_law_443 rfl ?_
        refine gf_aload_n (i := 0) (q := 445) dL_law_444 rfl rfl rfl ?_
        refine gf_iload_n (i := 3) (q := 446) dL_law_445 rfl rfl rfl ?_
        refine gf_iconst (q := 447) dL_law_446 ki_2 rfl ?_
        refine gf_iadd (q := 448) dL_law_447 rfl ?_
        refine gf_sld (q := 449) dL_law_448 rfl ?_
        refine gf_callV_i (n2 := 2) (As := [.int (xs (Int32.toNatClampNeg (v3 + 1))), .int (xs (Int32.toNatClampNeg (v3 + 2)))]) (st := []) (b := 0) (ci := 4) (C := RX4) (q := 452) (hlen := rfl) rfl rfl kw214 kw215 kw216 dL_law_449 kw217 kw1 (by decide +kernel) (by decide) (Nat.le_of_ble_eq_true rfl) (C_X4_text (xs (Int32.toNatClampNeg (v3 + 1))) (xs (Int32.toNatClampNeg (v3 + 2))) u) rfl rfl (fun x13 => ?_)
        refine gf_aload_n (i := 2) (q := 453) dL_law_452 rfl rfl rfl ?_
        refine gf_aload_n (i := 0) (q := 454) dL_law_453 rfl rfl rfl ?_
        refine gf_iload_n (i := 3) (q := 455) dL_law_454 rfl rfl rfl ?_
        refine gf_iconst (q := 456) dL_law_455 ki_1 rfl ?_
        refine gf_iadd (q := 457) dL_law_456 rfl ?_
        refine gf_sld (q := 458) dL_law_457 rfl ?_
        refine gf_aload_n (i := 0) (q := 459) dL_law_458 rfl rfl rfl ?_
        refine gf_iload_n (i := 3) (q := 460) dL_law_459 rfl rfl rfl ?_
        refine gf_iconst (q := 461) dL_law_460 ki_2 rfl ?_
        refine gf_iadd (q := 462) dL_law_461 rfl ?_
        refine gf_sld (q := 463) dL_law_462 rfl ?_
        refine gf_callV_i (n2 := 2) (As := [.int (xs (Int32.toNatClampNeg (v3 + 1))), .int (xs (Int32.toNatClampNeg (v3 + 2)))]) (st := [.int x13.1]) (b := 35) (ci := 5) (C := RX5) (q := 466) (hlen := rfl) rfl rfl kw744 kw745 kw746 dL_law_463 kw747 kw7 (by decide +kernel) (by decide) (Nat.le_of_ble_eq_true rfl) (C_X5_text (xs (Int32.toNatClampNeg (v3 + 1))) (xs (Int32.toNatClampNeg (v3 + 2))) x13.2) rfl rfl (fun x14 => ?_)
        refine gf_icmp_eq (t := 1452) (q := 469) dL_law_466 (by decide) rfl ?_ ?_
        · exact (T_law_1452 L xs (F_law_18 L xs n) ih v3 x14.2)
        · refine gf_iconst (q := 470) dL_law_469 ki_0 rfl ?_
          exact gf_retz dL_law_470 rfl rfl
      · refine gf_aload_n (i := 1) (q := 472) dL_law_471 rfl rfl rfl ?_
        refine gf_aload_n (i := 0) (q := 473) dL_law_472 rfl rfl rfl ?_
        refine gf_iload_n (i := 3) (q := 474) dL_law_473 rfl rfl rfl ?_
        refine gf_iconst (q := 475) dL_law_474 ki_1 rfl ?_
        refine gf_iadd (q := 476) dL_law_475 rfl ?_
        refine gf_sld (q := 477) dL_law_476 rfl ?_
        refine gf_aload_n (i := 0) (q := 478) dL_law_477 rfl rfl rfl ?_
        refine gf_iload_n (i := 3) (q := 479) dL_law_478 rfl rfl rfl ?_
        refine gf_iconst (q := 480) dL_law_479 ki_2 rfl ?_
        refine gf_iadd (q := 481) dL_law_480 rfl ?_
        refine gf_sld (q := 482) dL_law_481 rfl ?_
        refine gf_aload_n (i := 0) (q := 483) dL_law_482 rfl rfl rfl ?_
        refine gf_iload_n (i := 3) (q := 484) dL_law_483 rfl rfl rfl ?_
        refine gf_iconst (q := 485) dL_law_484 ki_3 rfl ?_
        refine gf_iadd (q := 486) dL_law_485 rfl ?_
        refine gf_sld (q := 487) dL_law_486 rfl ?_
        refine gf_callV_i (n2 := 3) (As := [.int (xs (Int32.toNatClampNeg (v3 + 1))), .int (xs (Int32.toNatClampNeg (v3 + 2))), .int (xs (Int32.toNatClampNeg (v3 + 3)))]) (st := []) (b := 0) (ci := 4) (C := RX4) (q := 490) (hlen := rfl) rfl rfl kw224 kw225 kw226 dL_law_487 kw227 kw1 (by decide +kernel) (by decide) (Nat.le_of_ble_eq_true rfl) (C_X4_put (xs (Int32.toNatClampNeg (v3 + 1))) (xs (Int32.toNatClampNeg (v3 + 2))) (xs (Int32.toNatClampNeg (v3 + 3))) u) rfl rfl (fun x15 => ?_)
        refine gf_aload_n (i := 2) (q := 491) dL_law_490 rfl rfl rfl ?_
        refine gf_aload_n (i := 0) (q := 492) dL_law_491 rfl rfl rfl ?_
        refine gf_iload_n (i := 3) (q := 493) dL_law_492 rfl rfl rfl ?_
        refine gf_iconst (q := 494) dL_law_493 ki_1 rfl ?_
        refine gf_iadd (q := 495) dL_law_494 rfl ?_
        refine gf_sld (q := 496) dL_law_495 rfl ?_
        refine gf_aload_n (i := 0) (q := 497) dL_law_496 rfl rfl rfl ?_
        refine gf_iload_n (i := 3) (q := 498) dL_law_497 rfl rfl rfl ?_
        refine gf_iconst (q := 499) dL_law_498 ki_2 rfl ?_
        refine gf_iadd (q := 500) dL_law_499 rfl ?_
        refine gf_sld (q := 501) dL_law_500 rfl ?_
        refine gf_aload_n (i := 0) (q := 502) dL_law_501 rfl rfl rfl ?_
        refine gf_iload_n (i := 3) (q := 503) dL_law_502 rfl rfl rfl ?_
        refine gf_iconst (q := 504) dL_law_503 ki_3 rfl ?_
        refine gf_iadd (q := 505) dL_law_504 rfl ?_
        refine gf_sld (q := 506) dL_law_505 rfl ?_
        refine gf_callV_i (n2 := 3) (As := [.int (xs (Int32.toNatClampNeg (v3 + 1))), .int (xs (Int32.toNatClampNeg (v3 + 2))), .int (xs (Int32.toNatClampNeg (v3 + 3)))]) (st := [.int x15.1]) (b := 35) (ci := 5) (C := RX5) (q := 509) (hlen := rfl) rfl rfl kw752 kw753 kw754 dL_law_506 kw755 kw7 (by decide +kernel) (by decide) (Nat.le_of_ble_eq_true rfl) (C_X5_put (xs (Int32.toNatClampNeg (v3 + 1))) (xs (Int32.toNatClampNeg (v3 + 2))) (xs (Int32.toNatClampNeg (v3 + 3))) x15.2) rfl rfl (fun x16 => ?_)
        refine gf_icmp_eq (t := 1452) (q := 512) dL_law_509 (by decide) rfl ?_ ?_
        · exact (T_law_1452 L xs (F_law_18 L xs n) ih v3 x16.2)
        · refine gf_iconst (q := 513) dL_law_512 ki_0 rfl ?_
          exact gf_retz dL_law_513 rfl rfl
      · refine gf_aload_n (i := 1) (q := 515) dL_law_514 rfl rfl rfl ?_
        refine gf_aload_n (i := 0) (q := 516) dL_law_515 rfl rfl rfl ?_
        refine gf_iload_n (i := 3) (q := 517) dL_law_516 rfl rfl rfl ?_
        refine gf_iconst (q := 518) dL_law_517 ki_1 rfl ?_
        refine gf_iadd (q := 519) dL_law_518 rfl ?_
        refine gf_sld (q := 520) dL_law_519 rfl ?_
        refine gf_callV_i (n2 := 1) (As := [.int (xs (Int32.toNatClampNeg (v3 + 1)))]) (st := []) (b := 0) (ci := 4) (C := RX4) (q := 523) (hlen := rfl) rfl rfl kw228 kw229 kw230 dL_law_520 kw231 kw1 (by decide +kernel) (by decide) (Nat.le_of_ble_eq_true rfl) (C_X4_fault (xs (Int32.toNatClampNeg (v3 + 1))) u) rfl rfl (fun x17 => ?_)
        refine gf_aload_n (i := 2) (q := 524) dL_law_523 rfl rfl rfl ?_
        refine gf_aload_n (i := 0) (q := 525) dL_law_524 rfl rfl rfl ?_
        refine gf_iload_n (i := 3) (q := 526) dL_law_525 rfl rfl rfl ?_
        refine gf_iconst (q := 527) dL_law_526 ki_1 rfl ?_
        refine gf_iadd (q := 528) dL_law_527 rfl ?_
        refine gf_sld (q := 529) dL_law_528 rfl ?_
        refine gf_callV_i (n2 := 1) (As := [.int (xs (Int32.toNatClampNeg (v3 + 1)))]) (st := [.int x17.1]) (b := 35) (ci := 5) (C := RX5) (q := 532) (hlen := rfl) rfl rfl kw756 kw757 kw758 dL_law_529 kw759 kw7 (by decide +kernel) (by decide) (Nat.le_of_ble_eq_true rfl) (C_X5_fault (xs (Int32.toNatClampNeg (v3 + 1))) x17.2) rfl rfl (fun x18 => ?_)
        refine gf_icmp_eq (t := 1452) (q := 535) dL_law_532 (by decide) rfl ?_ ?_
        · exact (T_law_1452 L xs (F_law_18 L xs n) ih v3 x18.2)
        · refine gf_iconst (q := 536) dL_law_535 ki_0 rfl ?_
          exact gf_retz dL_law_536 rfl rfl
      · refine gf_aload_n (i := 1) (q := 538) dL_law_537 rfl rfl rfl ?_
        refine gf_aload_n (i := 0) (q := 539) dL_law_538 rfl rfl rfl ?_
        refine gf_iload_n (i := 3) (q := 540) dL_law_539 rfl rfl rfl ?_
        refine gf_iconst (q := 541) dL_law_540 ki_1 rfl ?_
        refine gf_iadd (q := 542) dL_law_541 rfl ?_
        refine gf_sld (q := 543) dL_law_542 rfl ?_
        refine gf_callV_i (n2 := 1) (As := [.int (xs (Int32.toNatClampNeg (v3 + 1)))]) (st := []) (b := 0) (ci := 4) (C := RX4) (q := 546) (hlen := rfl) rfl rfl kw248 kw249 kw250 dL_law_543 kw251 kw1 (by decide +kernel) (by decide) (Nat.le_of_ble_eq_true rfl) (C_X4_canal (xs (Int32.toNatClampNeg (v3 + 1))) u) rfl rfl (fun x19 => ?_)
        refine gf_aload_n (i := 2) (q := 547) dL_law_546 rfl rfl rfl ?_
        refine gf_aload_n (i := 0) (q := 548) dL_law_547 rfl rfl rfl ?_
        refine gf_iload_n (i := 3) (q := 549) dL_law_548 rfl rfl rfl ?_
        refine gf_iconst (q := 550) dL_law_549 ki_1 rfl ?_
        refine gf_iadd (q := 551) dL_law_550 rfl ?_
        refine gf_sld (q := 552) dL_law_551 rfl ?_
        refine gf_callV_i (n2 := 1) (As := [.int (xs (Int32.toNatClampNeg (v3 + 1)))]) (st := [.int x19.1]) (b := 35) (ci := 5) (C := RX5) (q := 555) (hlen := rfl) rfl rfl kw787 kw788 kw789 dL_law_552 kw790 kw7 (by decide +kernel) (by decide) (Nat.le_of_ble_eq_true rfl) (C_X5_canal (xs (Int32.toNatClampNeg (v3 + 1))) x19.2) rfl rfl (fun x20 => ?_)
        refine gf_icmp_eq (t := 1452) (q := 558) dL_law_555 (by decide) rfl ?_ ?_
        · exact (T_law_1452 L xs (F_law_18 L xs n) ih v3 x20.2)
        · refine gf_iconst (q := 559) dL_law_558 ki_0 rfl ?_
          exact gf_retz dL_law_559 rfl rfl
      · refine gf_aload_n (i := 1) (q := 561) dL_law_560 rfl rfl rfl ?_
        refine gf_aload_n (i := 0) (q := 562) dL_law_561 rfl rfl rfl ?_
        refine gf_iload_n (i := 3) (q := 563) dL_law_562 rfl rfl rfl ?_
        refine gf_iconst (q := 564) dL_law_563 ki_1 rfl ?_
        refine gf_iadd (q := 565) dL_law_564 rfl ?_
        refine gf_sld (q := 566) dL_law_565 rfl ?_
        refine gf_aload_n (i := 0) (q := 567) dL_law_566 rfl rfl rfl ?_
        refine gf_iload_n (i := 3) (q := 568) dL_law_567 rfl rfl rfl ?_
        refine gf_iconst (q := 569) dL_law_568 ki_2 rfl ?_
        refine gf_iadd (q := 570) dL_law_569 rfl ?_
        refine gf_sld (q := 571) dL_law_570 rfl ?_
        refine gf_callV_i (n2 := 2) (As := [.int (xs (Int32.toNatClampNeg (v3 + 1))), .int (xs (Int32.toNatClampNeg (v3 + 2)))]) (st := []) (b := 0) (ci := 4) (C := RX4) (q := 574) (hlen := rfl) rfl rfl kw299 kw300 kw301 dL_law_571 kw302 kw1 (by decide +kernel) (by decide) (Nat.le_of_ble_eq_true rfl) (C_X4_thing (xs (Int32.toNatClampNeg (v3 + 1))) (xs (Int32.toNatClampNeg (v3 + 2))) u) rfl rfl (fun x21 => ?_)
        refine gf_aload_n (i := 2) (q := 575) dL_law_574 rfl rfl rfl ?_
        refine gf_aload_n (i := 0) (q := 576) dL_law_575 rfl rfl rfl ?_
        refine gf_iload_n (i := 3) (q := 577) dL_law_576 rfl rfl rfl ?_
        refine gf_iconst (q := 578) dL_law_577 ki_1 rfl ?_
        refine gf_iadd (q := 579) dL_law_578 rfl ?_
        refine gf_sld (q := 580) dL_law_579 rfl ?_
        refine gf_aload_n (i := 0) (q := 581) dL_law_580 rfl rfl rfl ?_
        refine gf_iload_n (i := 3) (q := 582) dL_law_581 rfl rfl rfl ?_
        refine gf_iconst (q := 583) dL_law_582 ki_2 rfl ?_
        refine gf_iadd (q := 584) dL_law_583 rfl ?_
        refine gf_sld (q := 585) dL_law_584 rfl ?_
        refine gf_callV_i (n2 := 2) (As := [.int (xs (Int32.toNatClampNeg (v3 + 1))), .int (xs (Int32.toNatClampNeg (v3 + 2)))]) (st := [.int x21.1]) (b := 35) (ci := 5) (C := RX5) (q := 588) (hlen := rfl) rfl rfl kw791 kw792 kw793 dL_law_585 kw794 kw7 (by decide +kernel) (by decide) (Nat.le_of_ble_eq_true rfl) (C_X5_thing (xs (Int32.toNatClampNeg (v3 + 1))) (xs (Int32.toNatClampNeg (v3 + 2))) x21.2) rfl rfl (fun x22 => ?_)
        refine gf_icmp_eq (t := 1452) (q := 591) dL_law_588 (by decide) rfl ?_ ?_
        · exact (T_law_1452 L xs (F_law_18 L xs n) ih v3 x22.2)
        · refine gf_iconst (q := 592) dL_law_591 ki_0 rfl ?_
          exact gf_retz dL_law_592 rfl rfl
      · refine gf_aload_n (i := 1) (q := 594) dL_law_593 rfl rfl rfl ?_
        refine gf_aload_n (i := 0) (q := 595) dL_law_594 rfl rfl rfl ?_
        refine gf_iload_n (i := 3) (q := 596) dL_law_595 rfl rfl rfl ?_
        refine gf_iconst (q := 597) dL_law_596 ki_1 rfl ?_
        refine gf_iadd (q := 598) dL_law_597 rfl ?_
        refine gf_sld (q := 599) dL_law_598 rfl ?_
        refine gf_aload_n (i := 0) (q := 600) dL_law_599 rfl rfl rfl ?_
        refine gf_iload_n (i := 3) (q := 601) dL_law_600 rfl rfl rfl ?_
        refine gf_iconst (q := 602) dL_law_601 ki_2 rfl ?_
        refine gf_iadd (q := 603) dL_law_602 rfl ?_
        refine gf_sld (q := 604) dL_law_603 rfl ?_
        refine gf_callV_i (n2 := 2) (As := [.int (xs (Int32.toNatClampNeg (v3 + 1))), .int (xs (Int32.toNatClampNeg (v3 + 2)))]) (st := []) (b := 0) (ci := 4) (C := RX4) (q := 607) (hlen := rfl) rfl rfl kw308 kw309 kw310 dL_law_604 kw311 kw1 (by decide +kernel) (by decide) (Nat.le_of_ble_eq_true rfl) (C_X4_mark (xs (Int32.toNatClampNeg (v3 + 1))) (xs (Int32.toNatClampNeg (v3 + 2))) u) rfl rfl (fun x23 => ?_)
        refine gf_aload_n (i := 2) (q := 608) dL_law_607 rfl rfl rfl ?_
        refine gf_aload_n (i := 0) (q := 609) dL_law_608 rfl rfl rfl ?_
        refine gf_iload_n (i := 3) (q := 610) dL_law_609 rfl rfl rfl ?_
        refine gf_iconst (q := 611) dL_law_610 ki_1 rfl ?_
        refine gf_iadd (q := 612) dL_law_611 rfl ?_
        refine gf_sld (q := 613) dL_law_612 rfl ?_
        refine gf_aload_n (i := 0) (q := 614) dL_law_613 rfl rfl rfl ?_
        refine gf_iload_n (i := 3) (q := 615) dL_law_614 rfl rfl rfl ?_
        refine gf_iconst (q := 616) dL_law_615 ki_2 rfl ?_
        refine gf_iadd (q := 617) dL_law_616 rfl ?_
        refine gf_sld (q := 618) dL_law_617 rfl ?_
        refine gf_callV_i (n2 := 2) (As := [.int (xs (Int32.toNatClampNeg (v3 + 1))), .int (xs (Int32.toNatClampNeg (v3 + 2)))]) (st := [.int x23.1]) (b := 35) (ci := 5) (C := RX5) (q := 621) (hlen := rfl) rfl rfl kw808 kw809 kw810 dL_law_618 kw811 kw7 (by decide +kernel) (by decide) (Nat.le_of_ble_eq_true rfl) (C_X5_mark (xs (Int32.toNatClampNeg (v3 + 1))) (xs (Int32.toNatClampNeg (v3 + 2))) x23.2) rfl rfl (fun x24 => ?_)
        refine gf_icmp_eq (t := 1452) (q := 624) dL_law_621 (by decide) rfl ?_ ?_
        · exact (T_law_1452 L xs (F_law_18 L xs n) ih v3 x24.2)
        · refine gf_iconst (q := 625) dL_law_624 ki_0 rfl ?_
          exact gf_retz dL_law_625 rfl rfl
      · refine gf_aload_n (i := 1) (q := 627) dL_law_626 rfl rfl rfl ?_
        refine gf_aload_n (i := 0) (q := 628) dL_law_627 rfl rfl rfl ?_
        refine gf_iload_n (i := 3) (q := 629) dL_law_628 rfl rfl rfl ?_
        refine gf_iconst (q := 630) dL_law_629 ki_1 rfl ?_
        refine gf_iadd (q := 631) dL_law_630 rfl ?_
        refine gf_sld (q := 632) dL_law_631 rfl ?_
        refine gf_callV_i (n2 := 1) (As := [.int (xs (Int32.toNatClampNeg (v3 + 1)))]) (st := []) (b := 0) (ci := 4) (C := RX4) (q := 635) (hlen := rfl) rfl rfl kw334 kw335 kw336 dL_law_632 kw337 kw1 (by decide +kernel) (by decide) (Nat.le_of_ble_eq_true rfl) (C_X4_cell (xs (Int32.toNatClampNeg (v3 + 1))) u) rfl rfl (fun x25 => ?_)
        refine gf_aload_n (i := 2) (q := 636) dL_law_635 rfl rfl rfl ?_
        refine gf_aload_n (i := 0) (q := 637) dL_law_636 rfl rfl rfl ?_
        refine gf_iload_n (i := 3) (q := 638) dL_law_637 rfl rfl rfl ?_
        refine gf_iconst (q := 639) dL_law_638 ki_1 rfl ?_
        refine gf_iadd (q := 640) dL_law_639 rfl ?_
        refine gf_sld (q := 641) dL_law_640 rfl ?_
        refine gf_callV_i (n2 := 1) (As := [.int (xs (Int32.toNatClampNeg (v3 + 1)))]) (st := [.int x25.1]) (b := 35) (ci := 5) (C := RX5) (q := 644) (hlen := rfl) rfl rfl kw830 kw831 kw832 dL_law_641 kw833 kw7 (by decide +kernel) (by decide) (Nat.le_of_ble_eq_true rfl) (C_X5_cell (xs (Int32.toNatClampNeg (v3 + 1))) x25.2) rfl rfl (fun x26 => ?_)
        refine gf_icmp_eq (t := 1452) (q := 647) dL_law_644 (by decide) rfl ?_ ?_
        · exact (T_law_1452 L xs (F_law_18 L xs n) ih v3 x26.2)
        · refine gf_iconst (q := 648) dL_law_647 ki_0 rfl ?_
          exact gf_retz dL_law_648 rfl rfl
      · refine gf_aload_n (i := 1) (q := 650) dL_law_649 rfl rfl rfl ?_
        refine gf_callV_i (n2 := 0) (As := []) (st := []) (b := 0) (ci := 4) (C := RX4) (q := 653) (hlen := rfl) rfl rfl kw342 kw343 kw344 dL_law_650 kw345 kw1 (by decide +kernel) (by decide) (Nat.le_of_ble_eq_true rfl) (C_X4_year u) rfl rfl (fun x27 => ?_)
        refine gf_aload_n (i := 2) (q := 654) dL_law_653 rfl rfl rfl ?_
        refine gf_callV_i (n2 := 0) (As := []) (st := [.int x27.1]) (b := 35) (ci := 5) (C := RX5) (q := 657) (hlen := rfl) rfl rfl kw838 kw839 kw840 dL_law_654 kw841 kw7 (by decide +kernel) (by decide) (Nat.le_of_ble_eq_true rfl) (C_X5_year x27.2) rfl rfl (fun x28 => ?_)
        refine gf_icmp_eq (t := 1452) (q := 660) dL_law_657 (by decide) rfl ?_ ?_
        · exact (T_law_1452 L xs (F_law_18 L xs n) ih v3 x28.2)
        · refine gf_iconst (q := 661) dL_law_660 ki_0 rfl ?_
          exact gf_retz dL_law_661 rfl rfl
      · refine gf_aload_n (i := 1) (q := 663) dL_law_662 rfl rfl rfl ?_
        refine gf_aload_n (i := 0) (q := 664) dL_law_663 rfl rfl rfl ?_
        refine gf_iload_n (i := 3) (q := 665) dL_law_664 rfl rfl rfl ?_
        refine gf_iconst (q := 666) dL_law_665 ki_1 rfl ?_
        refine gf_iadd (q := 667) dL_law_666 rfl ?_
        refine gf_sld (q := 668) dL_law_667 rfl ?_
        refine gf_callV_i (n2 := 1) (As := [.int (xs (Int32.toNatClampNeg (v3 + 1)))]) (st := []) (b := 0) (ci := 4) (C := RX4) (q := 671) (hlen := rfl) rfl rfl kw350 kw351 kw352 dL_law_668 kw353 kw1 (by decide +kernel) (by decide) (Nat.le_of_ble_eq_true rfl) (C_X4_paddle (xs (Int32.toNatClampNeg (v3 + 1))) u) rfl rfl (fun x29 => ?_)
        refine gf_aload_n (i := 2) (q := 672) dL_law_671 rfl rfl rfl ?_
        refine gf_aload_n (i := 0) (q := 673) dL_law_672 rfl rfl rfl ?_
        refine gf_iload_n (i := 3) (q := 674) dL_law_673 rfl rfl rfl ?_
        refine gf_iconst (q := 675) dL_law_674 ki_1 rfl ?_
        refine gf_iadd (q := 676) dL_law_675 rfl ?_
        refine gf_sld (q := 677) dL_law_676 rfl ?_
        refine gf_callV_i (n2 := 1) (As := [.int (xs (Int32.toNatClampNeg (v3 + 1)))]) (st := [.int x29.1]) (b := 35) (ci := 5) (C := RX5) (q := 680) (hlen := rfl) rfl rfl kw872 kw873 kw874 dL_law_677 kw875 kw7 (by decide +kernel) (by decide) (Nat.le_of_ble_eq_true rfl) (C_X5_paddle (xs (Int32.toNatClampNeg (v3 + 1))) x29.2) rfl rfl (fun x30 => ?_)
        refine gf_icmp_eq (t := 1452) (q := 683) dL_law_680 (by decide) rfl ?_ ?_
        · exact (T_law_1452 L xs (F_law_18 L xs n) ih v3 x30.2)
        · refine gf_iconst (q := 684) dL_law_683 ki_0 rfl ?_
          exact gf_retz dL_law_684 rfl rfl
      · refine gf_aload_n (i := 1) (q := 686) dL_law_685 rfl rfl rfl ?_
        refine gf_aload_n (i := 0) (q := 687) dL_law_686 rfl rfl rfl ?_
        refine gf_iload_n (i := 3) (q := 688) dL_law_687 rfl rfl rfl ?_
        refine gf_iconst (q := 689) dL_law_688 ki_1 rfl ?_
        refine gf_iadd (q := 690) dL_law_689 rfl ?_
        refine gf_sld (q := 691) dL_law_690 rfl ?_
        refine gf_aload_n (i := 0) (q := 692) dL_law_691 rfl rfl rfl ?_
        refine gf_iload_n (i := 3) (q := 693) dL_law_692 rfl rfl rfl ?_
        refine gf_iconst (q := 694) dL_law_693 ki_2 rfl ?_
        refine gf_iadd (q := 695) dL_law_694 rfl ?_
        refine gf_sld (q := 696) dL_law_695 rfl ?_
        refine gf_callV_i (n2 := 2) (As := [.int (xs (Int32.toNatClampNeg (v3 + 1))), .int (xs (Int32.toNatClampNeg (v3 + 2)))]) (st := []) (b := 0) (ci := 4) (C := RX4) (q := 699) (hlen := rfl) rfl rfl kw354 kw355 kw356 dL_law_696 kw357 kw1 (by decide +kernel) (by decide) (Nat.le_of_ble_eq_true rfl) (C_X4_move (xs (Int32.toNatClampNeg (v3 + 1))) (xs (Int32.toNatClampNeg (v3 + 2))) u) rfl rfl (fun x31 => ?_)
        refine gf_aload_n (i := 2) (q := 700) dL_law_699 rfl rfl rfl ?_
        refine gf_aload_n (i := 0) (q := 701) dL_law_700 rfl rfl rfl ?_
        refine gf_iload_n (i := 3) (q := 702) dL_law_701 rfl rfl rfl ?_
        refine gf_iconst (q := 703) dL_law_702 ki_1 rfl ?_
        refine gf_iadd (q := 704) dL_law_703 rfl ?_
        refine gf_sld (q := 705) dL_law_704 rfl ?_
        refine gf_aload_n (i := 0) (q := 706) dL_law_705 rfl rfl rfl ?_
        refine gf_iload_n (i := 3) (q := 707) dL_law_706 rfl rfl rfl ?_
        refine gf_iconst (q := 708) dL_law_707 ki_2 rfl ?_
        refine gf_iadd (q := 709) dL_law_708 rfl ?_
        refine gf_sld (q := 710) dL_law_709 rfl ?_
        refine gf_callV_i (n2 := 2) (As := [.int (xs (Int32.toNatClampNeg (v3 + 1))), .int (xs (Int32.toNatClampNeg (v3 + 2)))]) (st := [.int x31.1]) (b := 35) (ci := 5) (C := RX5) (q := 713) (hlen := rfl) rfl rfl kw883 kw884 kw885 dL_law_710 kw886 kw7 (by decide +kernel) (by decide) (Nat.le_of_ble_eq_true rfl) (C_X5_move (xs (Int32.toNatClampNeg (v3 + 1))) (xs (Int32.toNatClampNeg (v3 + 2))) x31.2) rfl rfl (fun x32 => ?_)
        refine gf_icmp_eq (t := 1452) (q := 716) dL_law_713 (by decide) rfl ?_ ?_
        · exact (T_law_1452 L xs (F_law_18 L xs n) ih v3 x32.2)
        · refine gf_iconst (q := 717) dL_law_716 ki_0 rfl ?_
          exact gf_retz dL_law_717 rfl rfl
      · refine gf_aload_n (i := 1) (q := 719) dL_law_718 rfl rfl rfl ?_
        refine gf_aload_n (i := 0) (q := 720) dL_law_719 rfl rfl rfl ?_
        refine gf_iload_n (i := 3) (q := 721) dL_law_720 rfl rfl rfl ?_
        refine gf_iconst (q := 722) dL_law_721 ki_1 rfl ?_
        refine gf_iadd (q := 723) dL_law_722 rfl ?_
        refine gf_sld (q := 724) dL_law_723 rfl ?_
        refine gf_callV_i (n2 := 1) (As := [.int (xs (Int32.toNatClampNeg (v3 + 1)))]) (st := []) (b := 0) (ci := 4) (C := RX4) (q := 727) (hlen := rfl) rfl rfl kw363 kw364 kw365 dL_law_724 kw366 kw1 (by decide +kernel) (by decide) (Nat.le_of_ble_eq_true rfl) (C_X4_take (xs (Int32.toNatClampNeg (v3 + 1))) u) rfl rfl (fun x33 => ?_)
        refine gf_aload_n (i := 2) (q := 728) dL_law_727 rfl rfl rfl ?_
        refine gf_aload_n (i := 0) (q := 729) dL_law_728 rfl rfl rfl ?_
        refine gf_iload_n (i := 3) (q := 730) dL_law_729 rfl rfl rfl ?_
        refine gf_iconst (q := 731) dL_law_730 ki_1 rfl ?_
        refine gf_iadd (q := 732) dL_law_731 rfl ?_
        refine gf_sld (q := 733) dL_law_732 rfl ?_
        refine gf_callV_i (n2 := 1) (As := [.int (xs (Int32.toNatClampNeg (v3 + 1)))]) (st := [.int x33.1]) (b := 35) (ci := 5) (C := RX5) (q := 736) (hlen := rfl) rfl rfl kw895 kw896 kw897 dL_law_733 kw898 kw7 (by decide +kernel) (by decide) (Nat.le_of_ble_eq_true rfl) (C_X5_take (xs (Int32.toNatClampNeg (v3 + 1))) x33.2) rfl rfl (fun x34 => ?_)
        refine gf_icmp_eq (t := 1452) (q := 739) dL_law_736 (by decide) rfl ?_ ?_
        · exact (T_law_1452 L xs (F_law_18 L xs n) ih v3 x34.2)
        · refine gf_iconst (q := 740) dL_law_739 ki_0 rfl ?_
          exact gf_retz dL_law_740 rfl rfl
      · refine gf_aload_n (i := 1) (q := 742) dL_law_741 rfl rfl rfl ?_
        refine gf_aload_n (i := 0) (q := 743) dL_law_742 rfl rfl rfl ?_
        refine gf_iload_n (i := 3) (q := 744) dL_law_743 rfl rfl rfl ?_
        refine gf_iconst (q := 745) dL_law_744 ki_1 rfl ?_
        refine gf_iadd (q := 746) dL_law_745 rfl ?_
        refine gf_sld (q := 747) dL_law_746 rfl ?_
        refine gf_callV_i (n2 := 1) (As := [.int (xs (Int32.toNatClampNeg (v3 + 1)))]) (st := []) (b := 0) (ci := 4) (C := RX4) (q := 750) (hlen := rfl) rfl rfl kw374 kw375 kw376 dL_law_747 kw377 kw1 (by decide +kernel) (by decide) (Nat.le_of_ble_eq_true rfl) (C_X4_undo (xs (Int32.toNatClampNeg (v3 + 1))) u) rfl rfl (fun x35 => ?_)
        refine gf_aload_n (i := 2) (q := 751) dL_law_750 rfl rfl rfl ?_
        refine gf_aload_n (i := 0) (q := 752) dL_law_751 rfl rfl rfl ?_
        refine gf_iload_n (i := 3) (q := 753) dL_law_752 rfl rfl rfl ?_
        refine gf_iconst (q := 754) dL_law_753 ki_1 rfl ?_
        refine gf_iadd (q := 755) dL_law_754 rfl ?_
        refine gf_sld (q := 756) dL_law_755 rfl ?_
        refine gf_callV_i (n2 := 1) (As := [.int (xs (Int32.toNatClampNeg (v3 + 1)))]) (st := [.int x35.1]) (b := 35) (ci := 5) (C := RX5) (q := 759) (hlen := rfl) rfl rfl kw910 kw911 kw912 dL_law_756 kw913 kw7 (by decide +kernel) (by decide) (Nat.le_of_ble_eq_true rfl) (C_X5_undo (xs (Int32.toNatClampNeg (v3 + 1))) x35.2) rfl rfl (fun x36 => ?_)
        refine gf_icmp_eq (t := 1452) (q := 762) dL_law_759 (by decide) rfl ?_ ?_
        · exact (T_law_1452 L xs (F_law_18 L xs n) ih v3 x36.2)
        · refine gf_iconst (q := 763) dL_law_762 ki_0 rfl ?_
          exact gf_retz dL_law_763 rfl rfl
      · refine gf_aload_n (i := 1) (q := 765) dL_law_764 rfl rfl rfl ?_
        refine gf_aload_n (i := 0) (q := 766) dL_law_765 rfl rfl rfl ?_
        refine gf_iload_n (i := 3) (q := 767) dL_law_766 rfl rfl rfl ?_
        refine gf_iconst (q := 768) dL_law_767 ki_1 rfl ?_
        refine gf_iadd (q := 769) dL_law_768 rfl ?_
        refine gf_sld (q := 770) dL_law_769 rfl ?_
        refine gf_callV_i (n2 := 1) (As := [.int (xs (Int32.toNatClampNeg (v3 + 1)))]) (st := []) (b := 0) (ci := 4) (C := RX4) (q := 773) (hlen := rfl) rfl rfl kw379 kw380 kw381 dL_law_770 kw382 kw1 (by decide +kernel) (by decide) (Nat.le_of_ble_eq_true rfl) (C_X4_keep (xs (Int32.toNatClampNeg (v3 + 1))) u) rfl rfl (fun x37 => ?_)
        refine gf_aload_n (i := 2) (q := 774) dL_law_773 rfl rfl rfl ?_
        refine gf_aload_n (i := 0) (q := 775) dL_law_774 rfl rfl rfl ?_
        refine gf_iload_n (i := 3) (q := 776) dL_law_775 rfl rfl rfl ?_
        refine gf_iconst (q := 777) dL_law_776 ki_1 rfl ?_
        refine gf_iadd (q := 778) dL_law_777 rfl ?_
        refine gf_sld (q := 779) dL_law_778 rfl ?_
        refine gf_callV_i (n2 := 1) (As := [.int (xs (Int32.toNatClampNeg (v3 + 1)))]) (st := [.int x37.1]) (b := 35) (ci := 5) (C := RX5) (q := 782) (hlen := rfl) rfl rfl kw914 kw915 kw916 dL_law_779 kw917 kw7 (by decide +kernel) (by decide) (Nat.le_of_ble_eq_true rfl) (C_X5_keep (xs (Int32.toNatClampNeg (v3 + 1))) x37.2) rfl rfl (fun x38 => ?_)
        refine gf_icmp_eq (t := 1452) (q := 785) dL_law_782 (by decide) rfl ?_ ?_
        · exact (T_law_1452 L xs (F_law_18 L xs n) ih v3 x38.2)
        · refine gf_iconst (q := 786) dL_law_785 ki_0 rfl ?_
          exact gf_retz dL_law_786 rfl rfl
      · refine gf_aload_n (i := 1) (q := 788) dL_law_787 rfl rfl rfl ?_
        refine gf_aload_n (i := 0) (q := 789) dL_law_788 rfl rfl rfl ?_
        refine gf_iload_n (i := 3) (q := 790) dL_law_789 rfl rfl rfl ?_
        refine gf_iconst (q := 791) dL_law_790 ki_1 rfl ?_
        refine gf_iadd (q := 792) dL_law_791 rfl ?_
        refine gf_sld (q := 793) dL_law_792 rfl ?_
        refine gf_callV_i (n2 := 1) (As := [.int (xs (Int32.toNatClampNeg (v3 + 1)))]) (st := []) (b := 0) (ci := 4) (C := RX4) (q := 796) (hlen := rfl) rfl rfl kw386 kw387 kw388 dL_law_793 kw389 kw1 (by decide +kernel) (by decide) (Nat.le_of_ble_eq_true rfl) (C_X4_on (xs (Int32.toNatClampNeg (v3 + 1))) u) rfl rfl (fun x39 => ?_)
        refine gf_aload_n (i := 2) (q := 797) dL_law_796 rfl rfl rfl ?_
        refine gf_aload_n (i := 0) (q := 798) dL_law_797 rfl rfl rfl ?_
        refine gf_iload_n (i := 3) (q := 799) dL_law_798 rfl rfl rfl ?_
        refine gf_iconst (q := 800) dL_law_799 ki_1 rfl ?_
        refine gf_iadd (q := 801) dL_law_800 rfl ?_
        refine gf_sld (q := 802) dL_law_801 rfl ?_
        refine gf_callV_i (n2 := 1) (As := [.int (xs (Int32.toNatClampNeg (v3 + 1)))]) (st := [.int x39.1]) (b := 35) (ci := 5) (C := RX5) (q := 805) (hlen := rfl) rfl rfl kw919 kw920 kw921 dL_law_802 kw922 kw7 (by decide +kernel) (by decide) (Nat.le_of_ble_eq_true rfl) (C_X5_on (xs (Int32.toNatClampNeg (v3 + 1))) x39.2) rfl rfl (fun x40 => ?_)
        refine gf_icmp_eq (t := 1452) (q := 808) dL_law_805 (by decide) rfl ?_ ?_
        · exact (T_law_1452 L xs (F_law_18 L xs n) ih v3 x40.2)
        · refine gf_iconst (q := 809) dL_law_808 ki_0 rfl ?_
          exact gf_retz dL_law_809 rfl rfl
      · refine gf_aload_n (i := 1) (q := 811) dL_law_810 rfl rfl rfl ?_
        refine gf_aload_n (i := 0) (q := 812) dL_law_811 rfl rfl rfl ?_
        refine gf_iload_n (i := 3) (q := 813) dL_law_812 rfl rfl rfl ?_
        refine gf_iconst (q := 814) dL_law_813 ki_1 rfl ?_
        refine gf_iadd (q := 815) dL_law_814 rfl ?_
        refine gf_sld (q := 816) dL_law_815 rfl ?_
        refine gf_aload_n (i := 0) (q := 817) dL_law_816 rfl rfl rfl ?_
        refine gf_iload_n (i := 3) (q := 818) dL_law_817 rfl rfl rfl ?_
        refine gf_iconst (q := 819) dL_law_818 ki_2 rfl ?_
        refine gf_iadd (q := 820) dL_law_819 rfl ?_
        refine gf_sld (q := 821) dL_law_820 rfl ?_
        refine gf_callV_i (n2 := 2) (As := [.int (xs (Int32.toNatClampNeg (v3 + 1))), .int (xs (Int32.toNatClampNeg (v3 + 2)))]) (st := []) (b := 0) (ci := 4) (C := RX4) (q := 824) (hlen := rfl) rfl rfl kw390 kw391 kw392 dL_law_821 kw393 kw1 (by decide +kernel) (by decide) (Nat.le_of_ble_eq_true rfl) (C_X4_lies (xs (Int32.toNatClampNeg (v3 + 1))) (xs (Int32.toNatClampNeg (v3 + 2))) u) rfl rfl (fun x41 => ?_)
        refine gf_aload_n (i := 2) (q := 825) dL_law_824 rfl rfl rfl ?_
        refine gf_aload_n (i := 0) (q := 826) dL_law_825 rfl rfl rfl ?_
        refine gf_iload_n (i := 3) (q := 827) dL_law_826 rfl rfl rfl ?_
        refine gf_iconst (q := 828) dL_law_827 ki_1 rfl ?_
        refine gf_iadd (q := 829) dL_law_828 rfl ?_
        refine gf_sld (q := 830) dL_law_829 rfl ?_
        refine gf_aload_n (i := 0) (q := 831) dL_law_830 rfl rfl rfl ?_
        refine gf_iload_n (i := 3) (q := 832) dL_law_831 rfl rfl rfl ?_
        refine gf_iconst (q := 833) dL_law_832 ki_2 rfl ?_
        refine gf_iadd (q := 834) dL_law_833 rfl ?_
        refine gf_sld (q := 835) dL_law_834 rfl ?_
        refine gf_callV_i (n2 := 2) (As := [.int (xs (Int32.toNatClampNeg (v3 + 1))), .int (xs (Int32.toNatClampNeg (v3 + 2)))]) (st := [.int x41.1]) (b := 35) (ci := 5) (C := RX5) (q := 838) (hlen := rfl) rfl rfl kw923 kw924 kw925 dL_law_835 kw926 kw7 (by decide +kernel) (by decide) (Nat.le_of_ble_eq_true rfl) (C_X5_lies (xs (Int32.toNatClampNeg (v3 + 1))) (xs (Int32.toNatClampNeg (v3 + 2))) x41.2) rfl rfl (fun x42 => ?_)
        refine gf_icmp_eq (t := 1452) (q := 841) dL_law_838 (by decide) rfl ?_ ?_
        · exact (T_law_1452 L xs (F_law_18 L xs n) ih v3 x42.2)
        · refine gf_iconst (q := 842) dL_law_841 ki_0 rfl ?_
          exact gf_retz dL_law_842 rfl rfl
      · refine gf_aload_n (i := 1) (q := 844) dL_law_843 rfl rfl rfl ?_
        refine gf_callV_i (n2 := 0) (As := []) (st := []) (b := 0) (ci := 4) (C := RX4) (q := 847) (hlen := rfl) rfl rfl kw403 kw404 kw405 dL_law_844 kw406 kw1 (by decide +kernel) (by decide) (Nat.le_of_ble_eq_true rfl) (C_X4_three u) rfl rfl (fun x43 => ?_)
        refine gf_aload_n (i := 2) (q := 848) dL_law_847 rfl rfl rfl ?_
        refine gf_callV_i (n2 := 0) (As := []) (st := [.int x43.1]) (b := 35) (ci := 5) (C := RX5) (q := 851) (hlen := rfl) rfl rfl kw928 kw929 kw930 dL_law_848 kw931 kw7 (by decide +kernel) (by decide) (Nat.le_of_ble_eq_true rfl) (C_X5_three x43.2) rfl rfl (fun x44 => ?_)
        refine gf_icmp_eq (t := 1452) (q := 854) dL_law_851 (by decide) rfl ?_ ?_
        · exact (T_law_1452 L xs (F_law_18 L xs n) ih v3 x44.2)
        · refine gf_iconst (q := 855) dL_law_854 ki_0 rfl ?_
          exact gf_retz dL_law_855 rfl rfl
      · refine gf_aload_n (i := 1) (q := 857) dL_law_856 rfl rfl rfl ?_
        refine gf_aload_n (i := 0) (q := 858) dL_law_857 rfl rfl rfl ?_
        refine gf_iload_n (i := 3) (q := 859) dL_law_858 rfl rfl rfl ?_
        refine gf_iconst (q := 860) dL_law_859 ki_1 rfl ?_
        refine gf_iadd (q := 861) dL_law_860 rfl ?_
        refine gf_sld (q := 862) dL_law_861 rfl ?_
        refine gf_aload_n (i := 0) (q := 863) dL_law_862 rfl rfl rfl ?_
        refine gf_iload_n (i := 3) (q := 864) dL_law_863 rfl rfl rfl ?_
        refine gf_iconst (q := 865) dL_law_864 ki_2 rfl ?_
        refine gf_iadd (q := 866) dL_law_865 rfl ?_
        refine gf_sld (q := 867) dL_law_866 rfl ?_
        refine gf_aload_n (i := 0) (q := 868) dL_law_867 rfl rfl rfl ?_
        refine gf_iload_n (i := 3) (q := 869) dL_law_868 rfl rfl rfl ?_
        refine gf_iconst (q := 870) dL_law_869 ki_3 rfl ?_
        refine gf_iadd (q := 871) dL_law_870 rfl ?_
        refine gf_sld (q := 872) dL_law_871 rfl ?_
        refine gf_callV_i (n2 := 3) (As := [.int (xs (Int32.toNatClampNeg (v3 + 1))), .int (xs (Int32.toNatClampNeg (v3 + 2))), .int (xs (Int32.toNatClampNeg (v3 + 3)))]) (st := []) (b := 0) (ci := 4) (C := RX4) (q := 875) (hlen := rfl) rfl rfl kw416 kw417 kw418 dL_law_872 kw419 kw1 (by decide +kernel) (by decide) (Nat.le_of_ble_eq_true rfl) (C_X4_moves (xs (Int32.toNatClampNeg (v3 + 1))) (xs (Int32.toNatClampNeg (v3 + 2))) (xs (Int32.toNatClampNeg (v3 + 3))) u) rfl rfl (fun x45 => ?_)
        refine gf_aload_n (i := 2) (q := 876) dL_law_875 rfl rfl rfl ?_
        refine gf_aload_n (i := 0) (q := 877) dL_law_876 rfl rfl rfl ?_
        refine gf_iload_n (i := 3) (q := 878) dL_law_877 rfl rfl rfl ?_
        refine gf_iconst (q := 879) dL_law_878 ki_1 rfl ?_
        refine gf_iadd (q := 880) dL_law_879 rfl ?_
        refine gf_sld (q := 881) dL_law_880 rfl ?_
        refine gf_aload_n (i := 0) (q := 882) dL_law_881 rfl rfl rfl ?_
        refine gf_iload_n (i := 3) (q := 883) dL_law_882 rfl rfl rfl ?_
        refine gf_iconst (q := 884) dL_law_883 ki_2 rfl ?_
        refine gf_iadd (q := 885) dL_law_884 rfl ?_
        refine gf_sld (q := 886) dL_law_885 rfl ?_
        refine gf_aload_n (i := 0) (q := 887) dL_law_886 rfl rfl rfl ?_
        refine gf_iload_n (i := 3) (q := 888) dL_law_887 rfl rfl rfl ?_
        refine gf_iconst (q := 889) dL_law_888 ki_3 rfl ?_
        refine gf_iadd (q := 890) dL_law_889 rfl ?_
        refine gf_sld (q := 891) dL_law_890 rfl ?_
        refine gf_callV_i (n2 := 3) (As := [.int (xs (Int32.toNatClampNeg (v3 + 1))), .int (xs (Int32.toNatClampNeg (v3 + 2))), .int (xs (Int32.toNatClampNeg (v3 + 3)))]) (st := [.int x45.1]) (b := 35) (ci := 5) (C := RX5) (q := 894) (hlen := rfl) rfl rfl kw936 kw937 kw938 dL_law_891 kw939 kw7 (by decide +kernel) (by decide) (Nat.le_of_ble_eq_true rfl) (C_X5_moves (xs (Int32.toNatClampNeg (v3 + 1))) (xs (Int32.toNatClampNeg (v3 + 2))) (xs (Int32.toNatClampNeg (v3 + 3))) x45.2) rfl rfl (fun x46 => ?_)
        refine gf_icmp_eq (t := 1452) (q := 897) dL_law_894 (by decide) rfl ?_ ?_
        · exact (T_law_1452 L xs (F_law_18 L xs n) ih v3 x46.2)
        · refine gf_iconst (q := 898) dL_law_897 ki_0 rfl ?_
          exact gf_retz dL_law_898 rfl rfl
      · refine gf_aload_n (i := 1) (q := 900) dL_law_899 rfl rfl rfl ?_
        refine gf_aload_n (i := 0) (q := 901) dL_law_900 rfl rfl rfl ?_
        refine gf_iload_n (i := 3) (q := 902) dL_law_901 rfl rfl rfl ?_
        refine gf_iconst (q := 903) dL_law_902 ki_1 rfl ?_
        refine gf_iadd (q := 904) dL_law_903 rfl ?_
        refine gf_sld (q := 905) dL_law_904 rfl ?_
        refine gf_callV_i (n2 := 1) (As := [.int (xs (Int32.toNatClampNeg (v3 + 1)))]) (st := []) (b := 0) (ci := 4) (C := RX4) (q := 908) (hlen := rfl) rfl rfl kw425 kw426 kw427 dL_law_905 kw428 kw1 (by decide +kernel) (by decide) (Nat.le_of_ble_eq_true rfl) (C_X4_owned (xs (Int32.toNatClampNeg (v3 + 1))) u) rfl rfl (fun x47 => ?_)
        refine gf_aload_n (i := 2) (q := 909) dL_law_908 rfl rfl rfl ?_
        refine gf_aload_n (i := 0) (q := 910) dL_law_909 rfl rfl rfl ?_
        refine gf_iload_n (i := 3) (q := 911) dL_law_910 rfl rfl rfl ?_
        refine gf_iconst (q := 912) dL_law_911 ki_1 rfl ?_
        refine gf_iadd (q := 913) dL_law_912 rfl ?_
        refine gf_sld (q := 914) dL_law_913 rfl ?_
        refine gf_callV_i (n2 := 1) (As := [.int (xs (Int32.toNatClampNeg (v3 + 1)))]) (st := [.int x47.1]) (b := 35) (ci := 5) (C := RX5) (q := 917) (hlen := rfl) rfl rfl kw946 kw947 kw948 dL_law_914 kw949 kw7 (by decide +kernel) (by decide) (Nat.le_of_ble_eq_true rfl) (C_X5_owned (xs (Int32.toNatClampNeg (v3 + 1))) x47.2) rfl rfl (fun x48 => ?_)
        refine gf_icmp_eq (t := 1452) (q := 920) dL_law_917 (by decide) rfl ?_ ?_
        · exact (T_law_1452 L xs (F_law_18 L xs n) ih v3 x48.2)
        · refine gf_iconst (q := 921) dL_law_920 ki_0 rfl ?_
          exact gf_retz dL_law_921 rfl rfl
      · refine gf_aload_n (i := 1) (q := 923) dL_law_922 rfl rfl rfl ?_
        refine gf_aload_n (i := 0) (q := 924) dL_law_923 rfl rfl rfl ?_
        refine gf_iload_n (i := 3) (q := 925) dL_law_924 rfl rfl rfl ?_
        refine gf_iconst (q := 926) dL_law_925 ki_1 rfl ?_
        refine gf_iadd (q := 927) dL_law_926 rfl ?_
        refine gf_sld (q := 928) dL_law_927 rfl ?_
        refine gf_aload_n (i := 0) (q := 929) dL_law_928 rfl rfl rfl ?_
        refine gf_iload_n (i := 3) (q := 930) dL_law_929 rfl rfl rfl ?_
        refine gf_iconst (q := 931) dL_law_930 ki_2 rfl ?_
        refine gf_iadd (q := 932) dL_law_931 rfl ?_
        refine gf_sld (q := 933) dL_law_932 rfl ?_
        refine gf_aload_n (i := 0) (q := 934) dL_law_933 rfl rfl rfl ?_
        refine gf_iload_n (i := 3) (q := 935) dL_law_934 rfl rfl rfl ?_
        refine gf_iconst (q := 936) dL_law_935 ki_3 rfl ?_
        refine gf_iadd (q := 937) dL_law_936 rfl ?_
        refine gf_sld (q := 938) dL_law_937 rfl ?_
        refine gf_callV_i (n2 := 3) (As := [.int (xs (Int32.toNatClampNeg (v3 + 1))), .int (xs (Int32.toNatClampNeg (v3 + 2))), .int (xs (Int32.toNatClampNeg (v3 + 3)))]) (st := []) (b := 0) (ci := 4) (C := RX4) (q := 941) (hlen := rfl) rfl rfl kw429 kw430 kw431 dL_law_938 kw432 kw1 (by decide +kernel) (by decide) (Nat.le_of_ble_eq_true rfl) (C_X4_thrown (xs (Int32.toNatClampNeg (v3 + 1))) (xs (Int32.toNatClampNeg (v3 + 2))) (xs (Int32.toNatClampNeg (v3 + 3))) u) rfl rfl (fun x49 => ?_)
        refine gf_aload_n (i := 2) (q := 942) dL_law_941 rfl rfl rfl ?_
        refine gf_aload_n (i := 0) (q := 943) dL_law_942 rfl rfl rfl ?_
        refine gf_iload_n (i := 3) (q := 944) dL_law_943 rfl rfl rfl ?_
        refine gf_iconst (q := 945) dL_law_944 ki_1 rfl ?_
        refine gf_iadd (q := 946) dL_law_945 rfl ?_
        refine gf_sld (q := 947) dL_law_946 rfl ?_
        refine gf_aload_n (i := 0) (q := 948) dL_law_947 rfl rfl rfl ?_
        refine gf_iload_n (i := 3) (q := 949) dL_law_948 rfl rfl rfl ?_
        refine gf_iconst (q := 950) dL_law_949 ki_2 rfl ?_
        refine gf_iadd (q := 951) dL_law_950 rfl ?_
        refine gf_sld (q := 952) dL_law_951 rfl ?_
        refine gf_aload_n (i := 0) (q := 953) dL_law_952 rfl rfl rfl ?_
        refine gf_iload_n (i := 3) (q := 954) dL_law_953 rfl rfl rfl ?_
        refine gf_iconst (q := 955) dL_law_954 ki_3 rfl ?_
        refine gf_iadd (q := 956) dL_law_955 rfl ?_
        refine gf_sld (q := 957) dL_law_956 rfl ?_
        refine gf_callV_i (n2 := 3) (As := [.int (xs (Int32.toNatClampNeg (v3 + 1))), .int (xs (Int32.toNatClampNeg (v3 + 2))), .int (xs (Int32.toNatClampNeg (v3 + 3)))]) (st := [.int x49.1]) (b := 35) (ci := 5) (C := RX5) (q := 960) (hlen := rfl) rfl rfl kw950 kw951 kw952 dL_law_957 kw953 kw7 (by decide +kernel) (by decide) (Nat.le_of_ble_eq_true rfl) (C_X5_thrown (xs (Int32.toNatClampNeg (v3 + 1))) (xs (Int32.toNatClampNeg (v3 + 2))) (xs (Int32.toNatClampNeg (v3 + 3))) x49.2) rfl rfl (fun x50 => ?_)
        refine gf_icmp_eq (t := 1452) (q := 963) dL_law_960 (by decide) rfl ?_ ?_
        · exact (T_law_1452 L xs (F_law_18 L xs n) ih v3 x50.2)
        · refine gf_iconst (q := 964) dL_law_963 ki_0 rfl ?_
          exact gf_retz dL_law_964 rfl rfl
      · refine gf_aload_n (i := 1) (q := 966) dL_law_965 rfl rfl rfl ?_
        refine gf_aload_n (i := 0) (q := 967) dL_law_966 rfl rfl rfl ?_
        refine gf_iload_n (i := 3) (q := 968) dL_law_967 rfl rfl rfl ?_
        refine gf_iconst (q := 969) dL_law_968 ki_1 rfl ?_
        refine gf_iadd (q := 970) dL_law_969 rfl ?_
        refine gf_sld (q := 971) dL_law_970 rfl ?_
        refine gf_callV_i (n2 := 1) (As := [.int (xs (Int32.toNatClampNeg (v3 + 1)))]) (st := []) (b := 0) (ci := 4) (C := RX4) (q := 974) (hlen := rfl) rfl rfl kw433 kw434 kw435 dL_law_971 kw436 kw1 (by decide +kernel) (by decide) (Nat.le_of_ble_eq_true rfl) (C_X4_stand (xs (Int32.toNatClampNeg (v3 + 1))) u) rfl rfl (fun x51 => ?_)
        refine gf_aload_n (i := 2) (q := 975) dL_law_974 rfl rfl rfl ?_
        refine gf_aload_n (i := 0) (q := 976) dL_law_975 rfl rfl rfl ?_
        refine gf_iload_n (i := 3) (q := 977) dL_law_976 rfl rfl rfl ?_
        refine gf_iconst (q := 978) dL_law_977 ki_1 rfl ?_
        refine gf_iadd (q := 979) dL_law_978 rfl ?_
        refine gf_sld (q := 980) dL_law_979 rfl ?_
        refine gf_callV_i (n2 := 1) (As := [.int (xs (Int32.toNatClampNeg (v3 + 1)))]) (st := [.int x51.1]) (b := 35) (ci := 5) (C := RX5) (q := 983) (hlen := rfl) rfl rfl kw954 kw955 kw956 dL_law_980 kw957 kw7 (by decide +kernel) (by decide) (Nat.le_of_ble_eq_true rfl) (C_X5_stand (xs (Int32.toNatClampNeg (v3 + 1))) x51.2) rfl rfl (fun x52 => ?_)
        refine gf_icmp_eq (t := 1452) (q := 986) dL_law_983 (by decide) rfl ?_ ?_
        · exact (T_law_1452 L xs (F_law_18 L xs n) ih v3 x52.2)
        · refine gf_iconst (q := 987) dL_law_986 ki_0 rfl ?_
          exact gf_retz dL_law_987 rfl rfl
      · refine gf_aload_n (i := 1) (q := 989) dL_law_988 rfl rfl rfl ?_
        refine gf_aload_n (i := 0) (q := 990) dL_law_989 rfl rfl rfl ?_
        refine gf_iload_n (i := 3) (q := 991) dL_law_990 rfl rfl rfl ?_
        refine gf_iconst (q := 992) dL_law_991 ki_1 rfl ?_
        refine gf_iadd (q := 993) dL_law_992 rfl ?_
        refine gf_sld (q := 994) dL_law_993 rfl ?_
        refine gf_callV_i (n2 := 1) (As := [.int (xs (Int32.toNatClampNeg (v3 + 1)))]) (st := []) (b := 0) (ci := 4) (C := RX4) (q := 997) (hlen := rfl) rfl rfl kw450 kw451 kw452 dL_law_994 kw453 kw1 (by decide +kernel) (by decide) (Nat.le_of_ble_eq_true rfl) (C_X4_level (xs (Int32.toNatClampNeg (v3 + 1))) u) rfl rfl (fun x53 => ?_)
        refine gf_aload_n (i := 2) (q := 998) dL_law_997 rfl rfl rfl ?_
        refine gf_aload_n (i := 0) (q := 999) dL_law_998 rfl rfl rfl ?_
        refine gf_iload_n (i := 3) (q := 1000) dL_law_999 rfl rfl rfl ?_
        refine gf_iconst (q := 1001) dL_law_1000 ki_1 rfl ?_
        refine gf_iadd (q := 1002) dL_law_1001 rfl ?_
        refine gf_sld (q := 1003) dL_law_1002 rfl ?_
        refine gf_callV_i (n2 := 1) (As := [.int (xs (Int32.toNatClampNeg (v3 + 1)))]) (st := [.int x53.1]) (b := 35) (ci := 5) (C := RX5) (q := 1006) (hlen := rfl) rfl rfl kw970 kw971 kw972 dL_law_1003 kw973 kw7 (by decide +kernel) (by decide) (Nat.le_of_ble_eq_true rfl) (C_X5_level (xs (Int32.toNatClampNeg (v3 + 1))) x53.2) rfl rfl (fun x54 => ?_)
        refine gf_icmp_eq (t := 1452) (q := 1009) dL_law_1006 (by decide) rfl ?_ ?_
        · exact (T_law_1452 L xs (F_law_18 L xs n) ih v3 x54.2)
        · refine gf_iconst (q := 1010) dL_law_1009 ki_0 rfl ?_
          exact gf_retz dL_law_1010 rfl rfl
      · refine gf_aload_n (i := 1) (q := 1012) dL_law_1011 rfl rfl rfl ?_
        refine gf_aload_n (i := 0) (q := 1013) dL_law_1012 rfl rfl rfl ?_
        refine gf_iload_n (i := 3) (q := 1014) dL_law_1013 rfl rfl rfl ?_
        refine gf_iconst (q := 1015) dL_law_1014 ki_1 rfl ?_
        refine gf_iadd (q := 1016) dL_law_1015 rfl ?_
        refine gf_sld (q := 1017) dL_law_1016 rfl ?_
        refine gf_callV_i (n2 := 1) (As := [.int (xs (Int32.toNatClampNeg (v3 + 1)))]) (st := []) (b := 0) (ci := 4) (C := RX4) (q := 1020) (hlen := rfl) rfl rfl kw465 kw466 kw467 dL_law_1017 kw468 kw1 (by decide +kernel) (by decide) (Nat.le_of_ble_eq_true rfl) (C_X4_home (xs (Int32.toNatClampNeg (v3 + 1))) u) rfl rfl (fun x55 => ?_)
        refine gf_aload_n (i := 2) (q := 1021) dL_law_1020 rfl rfl rfl ?_
        refine gf_aload_n (i := 0) (q := 1022) dL_law_1021 rfl rfl rfl ?_
        refine gf_iload_n (i := 3) (q := 1023) dL_law_1022 rfl rfl rfl ?_
        refine gf_iconst (q := 1024) dL_law_1023 ki_1 rfl ?_
        refine gf_iadd (q := 1025) dL_law_1024 rfl ?_
        refine gf_sld (q := 1026) dL_law_1025 rfl ?_
        refine gf_callV_i (n2 := 1) (As := [.int (xs (Int32.toNatClampNeg (v3 + 1)))]) (st := [.int x55.1]) (b := 35) (ci := 5) (C := RX5) (q := 1029) (hlen := rfl) rfl rfl kw979 kw980 kw981 dL_law_1026 kw982 kw7 (by decide +kernel) (by decide) (Nat.le_of_ble_eq_true rfl) (C_X5_home (xs (Int32.toNatClampNeg (v3 + 1))) x55.2) rfl rfl (fun x56 => ?_)
        refine gf_icmp_eq (t := 1452) (q := 1032) dL_law_1029 (by decide) rfl ?_ ?_
        · exact (T_law_1452 L xs (F_law_18 L xs n) ih v3 x56.2)
        · refine gf_iconst (q := 1033) dL_law_1032 ki_0 rfl ?_
          exact gf_retz dL_law_1033 rfl rfl
      · refine gf_aload_n (i := 1) (q := 1035) dL_law_1034 rfl rfl rfl ?_
        refine gf_aload_n (i := 0) (q := 1036) dL_law_1035 rfl rfl rfl ?_
        refine gf_iload_n (i := 3) (q := 1037) dL_law_1036 rfl rfl rfl ?_
        refine gf_iconst (q := 1038) dL_law_1037 ki_1 rfl ?_
        refine gf_iadd (q := 1039) dL_law_1038 rfl ?_
        refine gf_sld (q := 1040) dL_law_1039 rfl ?_
        refine gf_callV_i (n2 := 1) (As := [.int (xs (Int32.toNatClampNeg (v3 + 1)))]) (st := []) (b := 0) (ci := 4) (C := RX4) (q := 1043) (hlen := rfl) rfl rfl kw483 kw484 kw485 dL_law_1040 kw486 kw1 (by decide +kernel) (by decide) (Nat.le_of_ble_eq_true rfl) (C_X4_stops (xs (Int32.toNatClampNeg (v3 + 1))) u) rfl rfl (fun x57 => ?_)
        refine gf_aload_n (i := 2) (q := 1044) dL_law_1043 rfl rfl rfl ?_
        refine gf_aload_n (i := 0) (q := 1045) dL_law_1044 rfl rfl rfl ?_
        refine gf_iload_n (i := 3) (q := 1046) dL_law_1045 rfl rfl rfl ?_
        refine gf_iconst (q := 1047) dL_law_1046 ki_1 rfl ?_
        refine gf_iadd (q := 1048) dL_law_1047 rfl ?_
        refine gf_sld (q := 1049) dL_law_1048 rfl ?_
        refine gf_callV_i (n2 := 1) (As := [.int (xs (Int32.toNatClampNeg (v3 + 1)))]) (st := [.int x57.1]) (b := 35) (ci := 5) (C := RX5) (q := 1052) (hlen := rfl) rfl rfl kw994 kw995 kw996 dL_law_1049 kw997 kw7 (by decide +kernel) (by decide) (Nat.le_of_ble_eq_true rfl) (C_X5_stops (xs (Int32.toNatClampNeg (v3 + 1))) x57.2) rfl rfl (fun x58 => ?_)
        refine gf_icmp_eq (t := 1452) (q := 1055) dL_law_1052 (by decide) rfl ?_ ?_
        · exact (T_law_1452 L xs (F_law_18 L xs n) ih v3 x58.2)
        · refine gf_iconst (q := 1056) dL_law_1055 ki_0 rfl ?_
          exact gf_retz dL_law_1056 rfl rfl
      · refine gf_aload_n (i := 1) (q := 1058) dL_law_1057 rfl rfl rfl ?_
        refine gf_aload_n (i := 0) (q := 1059) dL_law_1058 rfl rfl rfl ?_
        refine gf_iload_n (i := 3) (q := 1060) dL_law_1059 rfl rfl rfl ?_
        refine gf_iconst (q := 1061) dL_law_1060 ki_1 rfl ?_
        refine gf_iadd (q := 1062) dL_law_1061 rfl ?_
        refine gf_sld (q := 1063) dL_law_1062 rfl ?_
        refine gf_aload_n (i := 0) (q := 1064) dL_law_1063 rfl rfl rfl ?_
        refine gf_iload_n (i := 3) (q := 1065) dL_law_1064 rfl rfl rfl ?_
        refine gf_iconst (q := 1066) dL_law_1065 ki_2 rfl ?_
        refine gf_iadd (q := 1067) dL_law_1066 rfl ?_
        refine gf_sld (q := 1068) dL_law_1067 rfl ?_
        refine gf_callV_i (n2 := 2) (As := [.int (xs (Int32.toNatClampNeg (v3 + 1))), .int (xs (Int32.toNatClampNeg (v3 + 2)))]) (st := []) (b := 0) (ci := 4) (C := RX4) (q := 1071) (hlen := rfl) rfl rfl kw487 kw488 kw489 dL_law_1068 kw490 kw1 (by decide +kernel) (by decide) (Nat.le_of_ble_eq_true rfl) (C_X4_starts (xs (Int32.toNatClampNeg (v3 + 1))) (xs (Int32.toNatClampNeg (v3 + 2))) u) rfl rfl (fun x59 => ?_)
        refine gf_aload_n (i := 2) (q := 1072) dL_law_1071 rfl rfl rfl ?_
        refine gf_aload_n (i := 0) (q := 1073) dL_law_1072 rfl rfl rfl ?_
        refine gf_iload_n (i := 3) (q := 1074) dL_law_1073 rfl rfl rfl ?_
        refine gf_iconst (q := 1075) dL_law_1074 ki_1 rfl ?_
        refine gf_iadd (q := 1076) dL_law_1075 rfl ?_
        refine gf_sld (q := 1077) dL_law_1076 rfl ?_
        refine gf_aload_n (i := 0) (q := 1078) dL_law_1077 rfl rfl rfl ?_
        refine gf_iload_n (i := 3) (q := 1079) dL_law_1078 rfl rfl rfl ?_
        refine gf_iconst (q := 1080) dL_law_1079 ki_2 rfl ?_
        refine gf_iadd (q := 1081) dL_law_1080 rfl ?_
        refine gf_sld (q := 1082) dL_law_1081 rfl ?_
        refine gf_callV_i (n2 := 2) (As := [.int (xs (Int32.toNatClampNeg (v3 + 1))), .int (xs (Int32.toNatClampNeg (v3 + 2)))]) (st := [.int x59.1]) (b := 35) (ci := 5) (C := RX5) (q := 1085) (hlen := rfl) rfl rfl kw998 kw999 kw1000 dL_law_1082 kw1001 kw7 (by decide +kernel) (by decide) (Nat.le_of_ble_eq_true rfl) (C_X5_starts (xs (Int32.toNatClampNeg (v3 + 1))) (xs (Int32.toNatClampNeg (v3 + 2))) x59.2) rfl rfl (fun x60 => ?_)
        refine gf_icmp_eq (t := 1452) (q := 1088) dL_law_1085 (by decide) rfl ?_ ?_
        · exact (T_law_1452 L xs (F_law_18 L xs n) ih v3 x60.2)
        · refine gf_iconst (q := 1089) dL_law_1088 ki_0 rfl ?_
          exact gf_retz dL_law_1089 rfl rfl
      · refine gf_aload_n (i := 1) (q := 1091) dL_law_1090 rfl rfl rfl ?_
        refine gf_aload_n (i := 0) (q := 1092) dL_law_1091 rfl rfl rfl ?_
        refine gf_iload_n (i := 3) (q := 1093) dL_law_1092 rfl rfl rfl ?_
        refine gf_iconst (q := 1094) dL_law_1093 ki_1 rfl ?_
        refine gf_iadd (q := 1095) dL_law_1094 rfl ?_
        refine gf_sld (q := 1096) dL_law_1095 rfl ?_
        refine gf_aload_n (i := 0) (q := 1097) dL_law_1096 rfl rfl rfl ?_
        refine gf_iload_n (i := 3) (q := 1098) dL_law_1097 rfl rfl rfl ?_
        refine gf_iconst (q := 1099) dL_law_1098 ki_2 rfl ?_
        refine gf_iadd (q := 1100) dL_law_1099 rfl ?_
        refine gf_sld (q := 1101) dL_law_1100 rfl ?_
        refine gf_callV_i (n2 := 2) (As := [.int (xs (Int32.toNatClampNeg (v3 + 1))), .int (xs (Int32.toNatClampNeg (v3 + 2)))]) (st := []) (b := 0) (ci := 4) (C := RX4) (q := 1104) (hlen := rfl) rfl rfl kw500 kw501 kw502 dL_law_1101 kw503 kw1 (by decide +kernel) (by decide) (Nat.le_of_ble_eq_true rfl) (C_X4_weights (xs (Int32.toNatClampNeg (v3 + 1))) (xs (Int32.toNatClampNeg (v3 + 2))) u) rfl rfl (fun x61 => ?_)
        refine gf_aload_n (i := 2) (q := 1105) dL_law_1104 rfl rfl rfl ?_
        refine gf_aload_n (i := 0) (q := 1106) dL_law_1105 rfl rfl rfl ?_
        refine gf_iload_n (i := 3) (q := 1107) dL_law_1106 rfl rfl rfl ?_
        refine gf_iconst (q := 1108) dL_law_1107 ki_1 rfl ?_
        refine gf_iadd (q := 1109) dL_law_1108 rfl ?_
        refine gf_sld (q := 1110) dL_law_1109 rfl ?_
        refine gf_aload_n (i := 0) (q := 1111) dL_law_1110 rfl rfl rfl ?_
        refine gf_iload_n (i := 3) (q := 1112) dL_law_1111 rfl rfl rfl ?_
        refine gf_iconst (q := 1113) dL_law_1112 ki_2 rfl ?_
        refine gf_iadd (q := 1114) dL_law_1113 rfl ?_
        refine gf_sld (q := 1115) dL_law_1114 rfl ?_
        refine gf_callV_i (n2 := 2) (As := [.int (xs (Int32.toNatClampNeg (v3 + 1))), .int (xs (Int32.toNatClampNeg (v3 + 2)))]) (st := [.int x61.1]) (b := 35) (ci := 5) (C := RX5) (q := 1118) (hlen := rfl) rfl rfl kw1010 kw1011 kw1012 dL_law_1115 kw1013 kw7 (by decide +kernel) (by decide) (Nat.le_of_ble_eq_true rfl) (C_X5_weights (xs (Int32.toNatClampNeg (v3 + 1))) (xs (Int32.toNatClampNeg (v3 + 2))) x61.2) rfl rfl (fun x62 => ?_)
        refine gf_icmp_eq (t := 1452) (q := 1121) dL_law_1118 (by decide) rfl ?_ ?_
        · exact (T_law_1452 L xs (F_law_18 L xs n) ih v3 x62.2)
        · refine gf_iconst (q := 1122) dL_law_1121 ki_0 rfl ?_
          exact gf_retz dL_law_1122 rfl rfl
      · refine gf_aload_n (i := 1) (q := 1124) dL_law_1123 rfl rfl rfl ?_
        refine gf_aload_n (i := 0) (q := 1125) dL_law_1124 rfl rfl rfl ?_
        refine gf_iload_n (i := 3) (q := 1126) dL_law_1125 rfl rfl rfl ?_
        refine gf_iconst (q := 1127) dL_law_1126 ki_1 rfl ?_
        refine gf_iadd (q := 1128) dL_law_1127 rfl ?_
        refine gf_sld (q := 1129) dL_law_1128 rfl ?_
        refine gf_aload_n (i := 0) (q := 1130) dL_law_1129 rfl rfl rfl ?_
        refine gf_iload_n (i := 3) (q := 1131) dL_law_1130 rfl rfl rfl ?_
        refine gf_iconst (q := 1132) dL_law_1131 ki_2 rfl ?_
        refine gf_iadd (q := 1133) dL_law_1132 rfl ?_
        refine gf_sld (q := 1134) dL_law_1133 rfl ?_
        refine gf_callV_i (n2 := 2) (As := [.int (xs (Int32.toNatClampNeg (v3 + 1))), .int (xs (Int32.toNatClampNeg (v3 + 2)))]) (st := []) (b := 0) (ci := 4) (C := RX4) (q := 1137) (hlen := rfl) rfl rfl kw504 kw505 kw506 dL_law_1134 kw507 kw1 (by decide +kernel) (by decide) (Nat.le_of_ble_eq_true rfl) (C_X4_kinds (xs (Int32.toNatClampNeg (v3 + 1))) (xs (Int32.toNatClampNeg (v3 + 2))) u) rfl rfl (fun x63 => ?_)
        refine gf_aload_n (i := 2) (q := 1138) dL_law_1137 rfl rfl rfl ?_
        refine gf_aload_n (i := 0) (q := 1139) dL_law_1138 rfl rfl rfl ?_
        refine gf_iload_n (i := 3) (q := 1140) dL_law_1139 rfl rfl rfl ?_
        refine gf_iconst (q := 1141) dL_law_1140 ki_1 rfl ?_
        refine gf_iadd (q := 1142) dL_law_1141 rfl ?_
        refine gf_sld (q := 1143) dL_law_1142 rfl ?_
        refine gf_aload_n (i := 0) (q := 1144) dL_law_1143 rfl rfl rfl ?_
        refine gf_iload_n (i := 3) (q := 1145) dL_law_1144 rfl rfl rfl ?_
        refine gf_iconst (q := 1146) dL_law_1145 ki_2 rfl ?_
        refine gf_iadd (q := 1147) dL_law_1146 rfl ?_
        refine gf_sld (q := 1148) dL_law_1147 rfl ?_
        refine gf_callV_i (n2 := 2) (As := [.int (xs (Int32.toNatClampNeg (v3 + 1))), .int (xs (Int32.toNatClampNeg (v3 + 2)))]) (st := [.int x63.1]) (b := 35) (ci := 5) (C := RX5) (q := 1151) (hlen := rfl) rfl rfl kw1014 kw1015 kw1016 dL_law_1148 kw1017 kw7 (by decide +kernel) (by decide) (Nat.le_of_ble_eq_true rfl) (C_X5_kinds (xs (Int32.toNatClampNeg (v3 + 1))) (xs (Int32.toNatClampNeg (v3 + 2))) x63.2) rfl rfl (fun x64 => ?_)
        refine gf_icmp_eq (t := 1452) (q := 1154) dL_law_1151 (by decide) rfl ?_ ?_
        · exact (T_law_1452 L xs (F_law_18 L xs n) ih v3 x64.2)
        · refine gf_iconst (q := 1155) dL_law_1154 ki_0 rfl ?_
          exact gf_retz dL_law_1155 rfl rfl
      · refine gf_aload_n (i := 1) (q := 1157) dL_law_1156 rfl rfl rfl ?_
        refine gf_aload_n (i := 0) (q := 1158) dL_law_1157 rfl rfl rfl ?_
        refine gf_iload_n (i := 3) (q := 1159) dL_law_1158 rfl rfl rfl ?_
        refine gf_iconst (q := 1160) dL_law_1159 ki_1 rfl ?_
        refine gf_iadd (q := 1161) dL_law_1160 rfl ?_
        refine gf_sld (q := 1162) dL_law_1161 rfl ?_
        refine gf_aload_n (i := 0) (q := 1163) dL_law_1162 rfl rfl rfl ?_
        refine gf_iload_n (i := 3) (q := 1164) dL_law_1163 rfl rfl rfl ?_
        refine gf_iconst (q := 1165) dL_law_1164 ki_2 rfl ?_
        refine gf_iadd (q := 1166) dL_law_1165 rfl ?_
        refine gf_sld (q := 1167) dL_law_1166 rfl ?_
        refine gf_aload_n (i := 0) (q := 1168) dL_law_1167 rfl rfl rfl ?_
        refine gf_iload_n (i := 3) (q := 1169) dL_law_1168 rfl rfl rfl ?_
        refine gf_iconst (q := 1170) dL_law_1169 ki_3 rfl ?_
        refine gf_iadd (q := 1171) dL_law_1170 rfl ?_
        refine gf_sld (q := 1172) dL_law_1171 rfl ?_
        refine gf_aload_n (i := 0) (q := 1173) dL_law_1172 rfl rfl rfl ?_
        refine gf_iload_n (i := 3) (q := 1174) dL_law_1173 rfl rfl rfl ?_
        refine gf_iconst (q := 1175) dL_law_1174 ki_4 rfl ?_
        refine gf_iadd (q := 1176) dL_law_1175 rfl ?_
        refine gf_sld (q := 1177) dL_law_1176 rfl ?_
        refine gf_callV_i (n2 := 4) (As := [.int (xs (Int32.toNatClampNeg (v3 + 1))), .int (xs (Int32.toNatClampNeg (v3 + 2))), .int (xs (Int32.toNatClampNeg (v3 + 3))), .int (xs (Int32.toNatClampNeg (v3 + 4)))]) (st := []) (b := 0) (ci := 4) (C := RX4) (q := 1180) (hlen := rfl) rfl rfl kw508 kw509 kw510 dL_law_1177 kw511 kw1 (by decide +kernel) (by decide) (Nat.le_of_ble_eq_true rfl) (C_X4_night (xs (Int32.toNatClampNeg (v3 + 1))) (xs (Int32.toNatClampNeg (v3 + 2))) (xs (Int32.toNatClampNeg (v3 + 3))) (xs (Int32.toNatClampNeg (v3 + 4))) u) rfl rfl (fun x65 => ?_)
        refine gf_aload_n (i := 2) (q := 1181) dL_law_1180 rfl rfl rfl ?_
        refine gf_aload_n (i := 0) (q := 1182) dL_law_1181 rfl rfl rfl ?_
        refine gf_iload_n (i := 3) (q := 1183) dL_law_1182 rfl rfl rfl ?_
        refine gf_iconst (q := 1184) dL_law_1183 ki_1 rfl ?_
        refine gf_iadd (q := 1185) dL_law_1184 rfl ?_
        refine gf_sld (q := 1186) dL_law_1185 rfl ?_
        refine gf_aload_n (i := 0) (q := 1187) dL_law_1186 rfl rfl rfl ?_
        refine gf_iload_n (i := 3) (q := 1188) dL_law_1187 rfl rfl rfl ?_
        refine gf_iconst (q := 1189) dL_law_1188 ki_2 rfl ?_
        refine gf_iadd (q := 1190) dL_law_1189 rfl ?_
        refine gf_sld (q := 1191) dL_law_1190 rfl ?_
        refine gf_aload_n (i := 0) (q := 1192) dL_law_1191 rfl rfl rfl ?_
        refine gf_iload_n (i := 3) (q := 1193) dL_law_1192 rfl rfl rfl ?_
        refine gf_iconst (q := 1194) dL_law_1193 ki_3 rfl ?_
        refine gf_iadd (q := 1195) dL_law_1194 rfl ?_
        refine gf_sld (q := 1196) dL_law_1195 rfl ?_
        refine gf_aload_n (i := 0) (q := 1197) dL_law_1196 rfl rfl rfl ?_
        refine gf_iload_n (i := 3) (q := 1198) dL_law_1197 rfl rfl rfl ?_
        refine gf_iconst (q := 1199) dL_law_1198 ki_4 rfl ?_
        refine gf_iadd (q := 1200) dL_law_1199 rfl ?_
        refine gf_sld (q := 1201) dL_law_1200 rfl ?_
        refine gf_callV_i (n2 := 4) (As := [.int (xs (Int32.toNatClampNeg (v3 + 1))), .int (xs (Int32.toNatClampNeg (v3 + 2))), .int (xs (Int32.toNatClampNeg (v3 + 3))), .int (xs (Int32.toNatClampNeg (v3 + 4)))]) (st := [.int x65.1]) (b := 35) (ci := 5) (C := RX5) (q := 1204) (hlen := rfl) rfl rfl kw1018 kw1019 kw1020 dL_law_1201 kw1021 kw7 (by decide +kernel) (by decide) (Nat.le_of_ble_eq_true rfl) (C_X5_night (xs (Int32.toNatClampNeg (v3 + 1))) (xs (Int32.toNatClampNeg (v3 + 2))) (xs (Int32.toNatClampNeg (v3 + 3))) (xs (Int32.toNatClampNeg (v3 + 4))) x65.2) rfl rfl (fun x66 => ?_)
        refine gf_icmp_eq (t := 1452) (q := 1207) dL_law_1204 (by decide) rfl ?_ ?_
        · exact (T_law_1452 L xs (F_law_18 L xs n) ih v3 x66.2)
        · refine gf_iconst (q := 1208) dL_law_1207 ki_0 rfl ?_
          exact gf_retz dL_law_1208 rfl rfl
      · refine gf_aload_n (i := 1) (q := 1210) dL_law_1209 rfl rfl rfl ?_
        refine gf_aload_n (i := 0) (q := 1211) dL_law_1210 rfl rfl rfl ?_
        refine gf_iload_n (i := 3) (q := 1212) dL_law_1211 rfl rfl rfl ?_
        refine gf_iconst (q := 1213) dL_law_1212 ki_1 rfl ?_
        refine gf_iadd (q := 1214) dL_law_1213 rfl ?_
        refine gf_sld (q := 1215) dL_law_1214 rfl ?_
        refine gf_aload_n (i := 0) (q := 1216) dL_law_1215 rfl rfl rfl ?_
        refine gf_iload_n (i := 3) (q := 1217) dL_law_1216 rfl rfl rfl ?_
        refine gf_iconst (q := 1218) dL_law_1217 ki_2 rfl ?_
        refine gf_iadd (q := 1219) dL_law_1218 rfl ?_
        refine gf_sld (q := 1220) dL_law_1219 rfl ?_
        refine gf_aload_n (i := 0) (q := 1221) dL_law_1220 rfl rfl rfl ?_
        refine gf_iload_n (i := 3) (q := 1222) dL_law_1221 rfl rfl rfl ?_
        refine gf_iconst (q := 1223) dL_law_1222 ki_3 rfl ?_
        refine gf_iadd (q := 1224) dL_law_1223 rfl ?_
        refine gf_sld (q := 1225) dL_law_1224 rfl ?_
        refine gf_aload_n (i := 0) (q := 1226) dL_law_1225 rfl rfl rfl ?_
        refine gf_iload_n (i := 3) (q := 1227) dL_law_1226 rfl rfl rfl ?_
        refine gf_iconst (q := 1228) dL_law_1227 ki_4 rfl ?_
        refine gf_iadd (q := 1229) dL_law_1228 rfl ?_
        refine gf_sld (q := 1230) dL_law_1229 rfl ?_
        refine gf_callV_i (n2 := 4) (As := [.int (xs (Int32.toNatClampNeg (v3 + 1))), .int (xs (Int32.toNatClampNeg (v3 + 2))), .int (xs (Int32.toNatClampNeg (v3 + 3))), .int (xs (Int32.toNatClampNeg (v3 + 4)))]) (st := []) (b := 0) (ci := 4) (C := RX4) (q := 1233) (hlen := rfl) rfl rfl kw516 kw517 kw518 dL_law_1230 kw519 kw1 (by decide +kernel) (by decide) (Nat.le_of_ble_eq_true rfl) (C_X4_odds (xs (Int32.toNatClampNeg (v3 + 1))) (xs (Int32.toNatClampNeg (v3 + 2))) (xs (Int32.toNatClampNeg (v3 + 3))) (xs (Int32.toNatClampNeg (v3 + 4))) u) rfl rfl (fun x67 => ?_)
        refine gf_aload_n (i := 2) (q := 1234) dL_law_1233 rfl rfl rfl ?_
        refine gf_aload_n (i := 0) (q := 1235) dL_law_1234 rfl rfl rfl ?_
        refine gf_iload_n (i := 3) (q := 1236) dL_law_1235 rfl rfl rfl ?_
        refine gf_iconst (q := 1237) dL_law_1236 ki_1 rfl ?_
        refine gf_iadd (q := 1238) dL_law_1237 rfl ?_
        refine gf_sld (q := 1239) dL_law_1238 rfl ?_
        refine gf_aload_n (i := 0) (q := 1240) dL_law_1239 rfl rfl rfl ?_
        refine gf_iload_n (i := 3) (q := 1241) dL_law_1240 rfl rfl rfl ?_
        refine gf_iconst (q := 1242) dL_law_1241 ki_2 rfl ?_
        refine gf_iadd (q := 1243) dL_law_1242 rfl ?_
        refine gf_sld (q := 1244) dL_law_1243 rfl ?_
        refine gf_aload_n (i := 0) (q := 1245) dL_law_1244 rfl rfl rfl ?_
        refine gf_iload_n (i := 3) (q := 1246) dL_law_1245 rfl rfl rfl ?_
        refine gf_iconst (q := 1247) dL_law_1246 ki_3 rfl ?_
        refine gf_iadd (q := 1248) dL_law_1247 rfl ?_
        refine gf_sld (q := 1249) dL_law_1248 rfl ?_
        refine gf_aload_n (i := 0) (q := 1250) dL_law_1249 rfl rfl rfl ?_
        refine gf_iload_n (i := 3) (q := 1251) dL_law_1250 rfl rfl rfl ?_
        refine gf_iconst (q := 1252) dL_law_1251 ki_4 rfl ?_
        refine gf_iadd (q := 1253) dL_law_1252 rfl ?_
        refine gf_sld (q := 1254) dL_law_1253 rfl ?_
        refine gf_callV_i (n2 := 4) (As := [.int (xs (Int32.toNatClampNeg (v3 + 1))), .int (xs (Int32.toNatClampNeg (v3 + 2))), .int (xs (Int32.toNatClampNeg (v3 + 3))), .int (xs (Int32.toNatClampNeg (v3 + 4)))]) (st := [.int x67.1]) (b := 35) (ci := 5) (C := RX5) (q := 1257) (hlen := rfl) rfl rfl kw1022 kw1023 kw1024 dL_law_1254 kw1025 kw7 (by decide +kernel) (by decide) (Nat.le_of_ble_eq_true rfl) (C_X5_odds (xs (Int32.toNatClampNeg (v3 + 1))) (xs (Int32.toNatClampNeg (v3 + 2))) (xs (Int32.toNatClampNeg (v3 + 3))) (xs (Int32.toNatClampNeg (v3 + 4))) x67.2) rfl rfl (fun x68 => ?_)
        refine gf_icmp_eq (t := 1452) (q := 1260) dL_law_1257 (by decide) rfl ?_ ?_
        · exact (T_law_1452 L xs (F_law_18 L xs n) ih v3 x68.2)
        · refine gf_iconst (q := 1261) dL_law_1260 ki_0 rfl ?_
          exact gf_retz dL_law_1261 rfl rfl
      · refine gf_aload_n (i := 1) (q := 1263) dL_law_1262 rfl rfl rfl ?_
        refine gf_aload_n (i := 0) (q := 1264) dL_law_1263 rfl rfl rfl ?_
        refine gf_iload_n (i := 3) (q := 1265) dL_law_1264 rfl rfl rfl ?_
        refine gf_iconst (q := 1266) dL_law_1265 ki_1 rfl ?_
        refine gf_iadd (q := 1267) dL_law_1266 rfl ?_
        refine gf_sld (q := 1268) dL_law_1267 rfl ?_
        refine gf_aload_n (i := 0) (q := 1269) dL_law_1268 rfl rfl rfl ?_
        refine gf_iload_n (i := 3) (q := 1270) dL_law_1269 rfl rfl rfl ?_
        refine gf_iconst (q := 1271) dL_law_1270 ki_2 rfl ?_
        refine gf_iadd (q := 1272) dL_law_1271 rfl ?_
        refine gf_sld (q := 1273) dL_law_1272 rfl ?_
        refine gf_aload_n (i := 0) (q := 1274) dL_law_1273 rfl rfl rfl ?_
        refine gf_iload_n (i := 3) (q := 1275) dL_law_1274 rfl rfl rfl ?_
        refine gf_iconst (q := 1276) dL_law_1275 ki_3 rfl ?_
        refine gf_iadd (q := 1277) dL_law_1276 rfl ?_
        refine gf_sld (q := 1278) dL_law_1277 rfl ?_
        refine gf_callV_i (n2 := 3) (As := [.int (xs (Int32.toNatClampNeg (v3 + 1))), .int (xs (Int32.toNatClampNeg (v3 + 2))), .int (xs (Int32.toNatClampNeg (v3 + 3)))]) (st := []) (b := 0) (ci := 4) (C := RX4) (q := 1281) (hlen := rfl) rfl rfl kw540 kw541 kw542 dL_law_1278 kw543 kw1 (by decide +kernel) (by decide) (Nat.le_of_ble_eq_true rfl) (C_X4_mid (xs (Int32.toNatClampNeg (v3 + 1))) (xs (Int32.toNatClampNeg (v3 + 2))) (xs (Int32.toNatClampNeg (v3 + 3))) u) rfl rfl (fun x69 => ?_)
        refine gf_aload_n (i := 2) (q := 1282) dL_law_1281 rfl rfl rfl ?_
        refine gf_aload_n (i := 0) (q := 1283) dL_law_1282 rfl rfl rfl ?_
        refine gf_iload_n (i := 3) (q := 1284) dL_law_1283 rfl rfl rfl ?_
        refine gf_iconst (q := 1285) dL_law_1284 ki_1 rfl ?_
        refine gf_iadd (q := 1286) dL_law_1285 rfl ?_
        refine gf_sld (q := 1287) dL_law_1286 rfl ?_
        refine gf_aload_n (i := 0) (q := 1288) dL_law_1287 rfl rfl rfl ?_
        refine gf_iload_n (i := 3) (q := 1289) dL_law_1288 rfl rfl rfl ?_
        refine gf_iconst (q := 1290) dL_law_1289 ki_2 rfl ?_
        refine gf_iadd (q := 1291) dL_law_1290 rfl ?_
        refine gf_sld (q := 1292) dL_law_1291 rfl ?_
        refine gf_aload_n (i := 0) (q := 1293) dL_law_1292 rfl rfl rfl ?_
        refine gf_iload_n (i := 3) (q := 1294) dL_law_1293 rfl rfl rfl ?_
        refine gf_iconst (q := 1295) dL_law_1294 ki_3 rfl ?_
        refine gf_iadd (q := 1296) dL_law_1295 rfl ?_
        refine gf_sld (q := 1297) dL_law_1296 rfl ?_
        refine gf_callV_i (n2 := 3) (As := [.int (xs (Int32.toNatClampNeg (v3 + 1))), .int (xs (Int32.toNatClampNeg (v3 + 2))), .int (xs (Int32.toNatClampNeg (v3 + 3)))]) (st := [.int x69.1]) (b := 35) (ci := 5) (C := RX5) (q := 1300) (hlen := rfl) rfl rfl kw1036 kw1037 kw1038 dL_law_1297 kw1039 kw7 (by decide +kernel) (by decide) (Nat.le_of_ble_eq_true rfl) (C_X5_mid (xs (Int32.toNatClampNeg (v3 + 1))) (xs (Int32.toNatClampNeg (v3 + 2))) (xs (Int32.toNatClampNeg (v3 + 3))) x69.2) rfl rfl (fun x70 => ?_)
        refine gf_icmp_eq (t := 1452) (q := 1303) dL_law_1300 (by decide) rfl ?_ ?_
        · exact (T_law_1452 L xs (F_law_18 L xs n) ih v3 x70.2)
        · refine gf_iconst (q := 1304) dL_law_1303 ki_0 rfl ?_
          exact gf_retz dL_law_1304 rfl rfl
      · refine gf_aload_n (i := 1) (q := 1306) dL_law_1305 rfl rfl rfl ?_
        refine gf_aload_n (i := 0) (q := 1307) dL_law_1306 rfl rfl rfl ?_
        refine gf_iload_n (i := 3) (q := 1308) dL_law_1307 rfl rfl rfl ?_
        refine gf_iconst (q := 1309) dL_law_1308 ki_1 rfl ?_
        refine gf_iadd (q := 1310) dL_law_1309 rfl ?_
        refine gf_sld (q := 1311) dL_law_1310 rfl ?_
        refine gf_aload_n (i := 0) (q := 1312) dL_law_1311 rfl rfl rfl ?_
        refine gf_iload_n (i := 3) (q := 1313) dL_law_1312 rfl rfl rfl ?_
        refine gf_iconst (q := 1314) dL_law_1313 ki_2 rfl ?_
        refine gf_iadd (q := 1315) dL_law_1314 rfl ?_
        refine gf_sld (q := 1316) dL_law_1315 rfl ?_
        refine gf_callV_i (n2 := 2) (As := [.int (xs (Int32.toNatClampNeg (v3 + 1))), .int (xs (Int32.toNatClampNeg (v3 + 2)))]) (st := []) (b := 0) (ci := 4) (C := RX4) (q := 1319) (hlen := rfl) rfl rfl kw544 kw545 kw546 dL_law_1316 kw547 kw1 (by decide +kernel) (by decide) (Nat.le_of_ble_eq_true rfl) (C_X4_lots (xs (Int32.toNatClampNeg (v3 + 1))) (xs (Int32.toNatClampNeg (v3 + 2))) u) rfl rfl (fun x71 => ?_)
        refine gf_aload_n (i := 2) (q := 1320) dL_law_1319 rfl rfl rfl ?_
        refine gf_aload_n (i := 0) (q := 1321) dL_law_1320 rfl rfl rfl ?_
        refine gf_iload_n (i := 3) (q := 1322) dL_law_1321 rfl rfl rfl ?_
        refine gf_iconst (q := 1323) dL_law_1322 ki_1 rfl ?_
        refine gf_iadd (q := 1324) dL_law_1323 rfl ?_
        refine gf_sld (q := 1325) dL_law_1324 rfl ?_
        refine gf_aload_n (i := 0) (q := 1326) dL_law_1325 rfl rfl rfl ?_
        refine gf_iload_n (i := 3) (q := 1327) dL_law_1326 rfl rfl rfl ?_
        refine gf_iconst (q := 1328) dL_law_1327 ki_2 rfl ?_
        refine gf_iadd (q := 1329) dL_law_1328 rfl ?_
        refine gf_sld (q := 1330) dL_law_1329 rfl ?_
        refine gf_callV_i (n2 := 2) (As := [.int (xs (Int32.toNatClampNeg (v3 + 1))), .int (xs (Int32.toNatClampNeg (v3 + 2)))]) (st := [.int x71.1]) (b := 35) (ci := 5) (C := RX5) (q := 1333) (hlen := rfl) rfl rfl kw1040 kw1041 kw1042 dL_law_1330 kw1043 kw7 (by decide +kernel) (by decide) (Nat.le_of_ble_eq_true rfl) (C_X5_lots (xs (Int32.toNatClampNeg (v3 + 1))) (xs (Int32.toNatClampNeg (v3 + 2))) x71.2) rfl rfl (fun x72 => ?_)
        refine gf_icmp_eq (t := 1452) (q := 1336) dL_law_1333 (by decide) rfl ?_ ?_
        · exact (T_law_1452 L xs (F_law_18 L xs n) ih v3 x72.2)
        · refine gf_iconst (q := 1337) dL_law_1336 ki_0 rfl ?_
          exact gf_retz dL_law_1337 rfl rfl
      · refine gf_aload_n (i := 1) (q := 1339) dL_law_1338 rfl rfl rfl ?_
        refine gf_callV_i (n2 := 0) (As := []) (st := []) (b := 0) (ci := 4) (C := RX4) (q := 1342) (hlen := rfl) rfl rfl kw559 kw560 kw561 dL_law_1339 kw562 kw1 (by decide +kernel) (by decide) (Nat.le_of_ble_eq_true rfl) (C_X4_asked u) rfl rfl (fun x73 => ?_)
        refine gf_aload_n (i := 2) (q := 1343) dL_law_1342 rfl rfl rfl ?_
        refine gf_callV_i (n2 := 0) (As := []) (st := [.int x73.1]) (b := 35) (ci := 5) (C := RX5) (q := 1346) (hlen := rfl) rfl rfl kw1052 kw1053 kw1054 dL_law_1343 kw1055 kw7 (by decide +kernel) (by decide) (Nat.le_of_ble_eq_true rfl) (C_X5_asked x73.2) rfl rfl (fun x74 => ?_)
        refine gf_icmp_eq (t := 1452) (q := 1349) dL_law_1346 (by decide) rfl ?_ ?_
        · exact (T_law_1452 L xs (F_law_18 L xs n) ih v3 x74.2)
        · refine gf_iconst (q := 1350) dL_law_1349 ki_0 rfl ?_
          exact gf_retz dL_law_1350 rfl rfl
      · refine gf_aload_n (i := 1) (q := 1352) dL_law_1351 rfl rfl rfl ?_
        refine gf_callV_l (n2 := 0) (As := []) (st := []) (b := 0) (ci := 4) (C := RX4) (q := 1355) (hlen := rfl) rfl rfl kw563 kw564 kw565 dL_law_1352 kw566 kw1 (by decide +kernel) (by decide) (Nat.le_of_ble_eq_true rfl) (C_X4_upper u) rfl rfl (fun x75 => ?_)
        refine gf_aload_n (i := 2) (q := 1356) dL_law_1355 rfl rfl rfl ?_
        refine gf_callV_l (n2 := 0) (As := []) (st := [.long x75.1]) (b := 35) (ci := 5) (C := RX5) (q := 1359) (hlen := rfl) rfl rfl kw1056 kw1057 kw1058 dL_law_1356 kw1059 kw7 (by decide +kernel) (by decide) (Nat.le_of_ble_eq_true rfl) (C_X5_upper x75.2) rfl rfl (fun x76 => ?_)
        refine gf_lcmp (q := 1360) dL_law_1359 rfl ?_
        refine gf_if_eq (t := 1452) (q := 1363) dL_law_1360 (by decide) rfl ?_ ?_
        · exact (T_law_1452 L xs (F_law_18 L xs n) ih v3 x76.2)
        · refine gf_iconst (q := 1364) dL_law_1363 ki_0 rfl ?_
          exact gf_retz dL_law_1364 rfl rfl
      · refine gf_aload_n (i := 1) (q := 1366) dL_law_1365 rfl rfl rfl ?_
        refine gf_callV_l (n2 := 0) (As := []) (st := []) (b := 0) (ci := 4) (C := RX4) (q := 1369) (hlen := rfl) rfl rfl kw567 kw568 kw569 dL_law_1366 kw570 kw1 (by decide +kernel) (by decide) (Nat.le_of_ble_eq_true rfl) (C_X4_lower u) rfl rfl (fun x77 => ?_)
        refine gf_aload_n (i := 2) (q := 1370) dL_law_1369 rfl rfl rfl ?_
        refine gf_callV_l (n2 := 0) (As := []) (st := [.long x77.1]) (b := 35) (ci := 5) (C := RX5) (q := 1373) (hlen := rfl) rfl rfl kw1060 kw1061 kw1062 dL_law_1370 kw1063 kw7 (by decide +kernel) (by decide) (Nat.le_of_ble_eq_true rfl) (C_X5_lower x77.2) rfl rfl (fun x78 => ?_)
        refine gf_lcmp (q := 1374) dL_law_1373 rfl ?_
        refine gf_if_eq (t := 1452) (q := 1377) dL_law_1374 (by decide) rfl ?_ ?_
        · exact (T_law_1452 L xs (F_law_18 L xs n) ih v3 x78.2)
        · refine gf_iconst (q := 1378) dL_law_1377 ki_0 rfl ?_
          exact gf_retz dL_law_1378 rfl rfl
      · refine gf_aload_n (i := 1) (q := 1380) dL_law_1379 rfl rfl rfl ?_
        refine gf_aload_n (i := 0) (q := 1381) dL_law_1380 rfl rfl rfl ?_
        refine gf_iload_n (i := 3) (q := 1382) dL_law_1381 rfl rfl rfl ?_
        refine gf_iconst (q := 1383) dL_law_1382 ki_1 rfl ?_
        refine gf_iadd (q := 1384) dL_law_1383 rfl ?_
        refine gf_sld (q := 1385) dL_law_1384 rfl ?_
        refine gf_callV_i (n2 := 1) (As := [.int (xs (Int32.toNatClampNeg (v3 + 1)))]) (st := []) (b := 0) (ci := 4) (C := RX4) (q := 1388) (hlen := rfl) rfl rfl kw571 kw572 kw573 dL_law_1385 kw574 kw1 (by decide +kernel) (by decide) (Nat.le_of_ble_eq_true rfl) (C_X4_count (xs (Int32.toNatClampNeg (v3 + 1))) u) rfl rfl (fun x79 => ?_)
        refine gf_aload_n (i := 2) (q := 1389) dL_law_1388 rfl rfl rfl ?_
        refine gf_aload_n (i := 0) (q := 1390) dL_law_1389 rfl rfl rfl ?_
        refine gf_iload_n (i := 3) (q := 1391) dL_law_1390 rfl rfl rfl ?_
        refine gf_iconst (q := 1392) dL_law_1391 ki_1 rfl ?_
        refine gf_iadd (q := 1393) dL_law_1392 rfl ?_
        refine gf_sld (q := 1394) dL_law_1393 rfl ?_
        refine gf_callV_i (n2 := 1) (As := [.int (xs (Int32.toNatClampNeg (v3 + 1)))]) (st := [.int x79.1]) (b := 35) (ci := 5) (C := RX5) (q := 1397) (hlen := rfl) rfl rfl kw1064 kw1065 kw1066 dL_law_1394 kw1067 kw7 (by decide +kernel) (by decide) (Nat.le_of_ble_eq_true rfl) (C_X5_count (xs (Int32.toNatClampNeg (v3 + 1))) x79.2) rfl rfl (fun x80 => ?_)
        refine gf_icmp_eq (t := 1452) (q := 1400) dL_law_1397 (by decide) rfl ?_ ?_
        · exact (T_law_1452 L xs (F_law_18 L xs n) ih v3 x80.2)
        · refine gf_iconst (q := 1401) dL_law_1400 ki_0 rfl ?_
          exact gf_retz dL_law_1401 rfl rfl
      · refine gf_aload_n (i := 1) (q := 1403) dL_law_1402 rfl rfl rfl ?_
        refine gf_callV_i (n2 := 0) (As := []) (st := []) (b := 0) (ci := 4) (C := RX4) (q := 1406) (hlen := rfl) rfl rfl kw583 kw584 kw585 dL_law_1403 kw586 kw1 (by decide +kernel) (by decide) (Nat.le_of_ble_eq_true rfl) (C_X4_finding u) rfl rfl (fun x81 => ?_)
        refine gf_aload_n (i := 2) (q := 1407) dL_law_1406 rfl rfl rfl ?_
        refine gf_callV_i (n2 := 0) (As := []) (st := [.int x81.1]) (b := 35) (ci := 5) (C := RX5) (q := 1410) (hlen := rfl) rfl rfl kw1073 kw1074 kw1075 dL_law_1407 kw1076 kw7 (by decide +kernel) (by decide) (Nat.le_of_ble_eq_true rfl) (C_X5_finding x81.2) rfl rfl (fun x82 => ?_)
        refine gf_icmp_eq (t := 1452) (q := 1413) dL_law_1410 (by decide) rfl ?_ ?_
        · exact (T_law_1452 L xs (F_law_18 L xs n) ih v3 x82.2)
        · refine gf_iconst (q := 1414) dL_law_1413 ki_0 rfl ?_
          exact gf_retz dL_law_1414 rfl rfl
      · refine gf_aload_n (i := 1) (q := 1416) dL_law_1415 rfl rfl rfl ?_
        refine gf_aload_n (i := 0) (q := 1417) dL_law_1416 rfl rfl rfl ?_
        refine gf_iload_n (i := 3) (q := 1418) dL_law_1417 rfl rfl rfl ?_
        refine gf_iconst (q := 1419) dL_law_1418 ki_1 rfl ?_
        refine gf_iadd (q := 1420) dL_law_1419 rfl ?_
        refine gf_sld (q := 1421) dL_law_1420 rfl ?_
        refine gf_callV_i (n2 := 1) (As := [.int (xs (Int32.toNatClampNeg (v3 + 1)))]) (st := []) (b := 0) (ci := 4) (C := RX4) (q := 1424) (hlen := rfl) rfl rfl kw587 kw588 kw589 dL_law_1421 kw590 kw1 (by decide +kernel) (by decide) (Nat.le_of_ble_eq_true rfl) (C_X4_findings (xs (Int32.toNatClampNeg (v3 + 1))) u) rfl rfl (fun x83 => ?_)
        refine gf_aload_n (i := 2) (q := 1425) dL_law_1424 rfl rfl rfl ?_
        refine gf_aload_n (i := 0) (q := 1426) dL_law_1425 rfl rfl rfl ?_
        refine gf_iload_n (i := 3) (q := 1427) dL_law_1426 rfl rfl rfl ?_
        refine gf_iconst (q := 1428) dL_law_1427 ki_1 rfl ?_
        refine gf_iadd (q := 1429) dL_law_1428 rfl ?_
        refine gf_sld (q := 1430) dL_law_1429 rfl ?_
        refine gf_callV_i (n2 := 1) (As := [.int (xs (Int32.toNatClampNeg (v3 + 1)))]) (st := [.int x83.1]) (b := 35) (ci := 5) (C := RX5) (q := 1433) (hlen := rfl) rfl rfl kw1077 kw1078 kw1079 dL_law_1430 kw1080 kw7 (by decide +kernel) (by decide) (Nat.le_of_ble_eq_true rfl) (C_X5_findings (xs (Int32.toNatClampNeg (v3 + 1))) x83.2) rfl rfl (fun x84 => ?_)
        refine gf_icmp_eq (t := 1452) (q := 1436) dL_law_1433 (by decide) rfl ?_ ?_
        · exact (T_law_1452 L xs (F_law_18 L xs n) ih v3 x84.2)
        · refine gf_iconst (q := 1437) dL_law_1436 ki_0 rfl ?_
          exact gf_retz dL_law_1437 rfl rfl
      · refine gf_aload_n (i := 1) (q := 1439) dL_law_1438 rfl rfl rfl ?_
        refine gf_callV_l (n2 := 0) (As := []) (st := []) (b := 0) (ci := 4) (C := RX4) (q := 1442) (hlen := rfl) rfl rfl kw591 kw592 kw593 dL_law_1439 kw594 kw1 (by decide +kernel) (by decide) (Nat.le_of_ble_eq_true rfl) (C_X4_digest u) rfl rfl (fun x85 => ?_)
        refine gf_aload_n (i := 2) (q := 1443) dL_law_1442 rfl rfl rfl ?_
        refine gf_callV_l (n2 := 0) (As := []) (st := [.long x85.1]) (b := 35) (ci := 5) (C := RX5) (q := 1446) (hlen := rfl) rfl rfl kw1081 kw1082 kw1083 dL_law_1443 kw1084 kw7 (by decide +kernel) (by decide) (Nat.le_of_ble_eq_true rfl) (C_X5_digest x85.2) rfl rfl (fun x86 => ?_)
        refine gf_lcmp (q := 1447) dL_law_1446 rfl ?_
        refine gf_if_eq (t := 1452) (q := 1450) dL_law_1447 (by decide) rfl ?_ ?_
        · exact (T_law_1452 L xs (F_law_18 L xs n) ih v3 x86.2)
        · refine gf_iconst (q := 1451) dL_law_1450 ki_0 rfl ?_
          exact gf_retz dL_law_1451 rfl rfl
      · exact (T_law_1452 L xs (F_law_18 L xs n) ih v3 u)
def F_law (L : Nat) (xs : Nat → Int32) (u : XM) : Option (Int32 × XM) := F_law_18 L xs FU 0 u
set_option maxRecDepth 20000 in
set_option maxHeartbeats 4000000 in
theorem T_law (L : Nat) (xs : Nat → Int32) (u : XM) : GF (EL L xs) YY 15 yL_law cL_law 4 (some .boolean) 16 [some (.ref 999), some (.ref 0), some (.ref 35), none] [] u emI (F_law L xs u) := by
  unfold F_law
  refine gf_iconst (q := 17) dL_law_16 ki_0 rfl ?_
  refine gf_istore_n (i := 3) (lv2 := [some (.ref 999), some (.ref 0), some (.ref 35), some (.int 0)]) (q := 18) dL_law_17 rfl (by decide) rfl rfl ?_
  exact (T_law_18 L xs FU 0 u)
