def F_X5_in (v0 : Int64) (v2 : Int64) (v4 : Int64) (u : XM) : Option (Int32 × XM) := (if (lg_cmp v0 v2) < 0 then some (0, u) else (if 0 < (lg_cmp v0 v4) then some (0, u) else some (1, u)))
set_option maxRecDepth 20000 in
set_option maxHeartbeats 4000000 in
theorem T_X5_in (v0 : Int64) (v2 : Int64) (v4 : Int64) (u : XM) : GF E0 YY 1 yX5_in cX5_in 6 (some .boolean) 0 [some (.long v0), none, some (.long v2), none, some (.long v4), none] [] u emI (F_X5_in v0 v2 v4 u) := by
  unfold F_X5_in
  refine gf_lload_n (i := 0) (q := 1) dX5_in_0 rfl rfl rfl ?_
  refine gf_lload_n (i := 2) (q := 2) dX5_in_1 rfl rfl rfl ?_
  refine gf_lcmp (q := 3) dX5_in_2 rfl ?_
  refine gf_if_lt (t := 17) (q := 6) dX5_in_3 (by decide) rfl ?_ ?_
  · refine gf_iconst (q := 18) dX5_in_17 ki_0 rfl ?_
    exact gf_retz dX5_in_18 rfl rfl
  · refine gf_lload_n (i := 0) (q := 7) dX5_in_6 rfl rfl rfl ?_
    refine gf_lload (q := 9) dX5_in_7 rfl rfl ?_
    refine gf_lcmp (q := 10) dX5_in_9 rfl ?_
    refine gf_if_gt (t := 17) (q := 13) dX5_in_10 (by decide) rfl ?_ ?_
    · refine gf_iconst (q := 18) dX5_in_17 ki_0 rfl ?_
      exact gf_retz dX5_in_18 rfl rfl
    · refine gf_iconst (q := 14) dX5_in_13 ki_1 rfl ?_
      refine gf_goto (q := 18) dX5_in_14 (by decide) ?_
      exact gf_retz dX5_in_18 rfl rfl
theorem C_X5_in (v0 : Int64) (v2 : Int64) (v4 : Int64) (u : XM) : CF YY 1 yX5_in cX5_in 6 (some .boolean) [.long v0, .long v2, .long v4] u emI (F_X5_in v0 v2 v4 u) := cf_of (by decide +kernel) (Nat.le_of_ble_eq_true rfl) rfl (T_X5_in v0 v2 v4 u)
def F_X5_has (v0 : Int32) (v1 : Int32) (u : XM) : Option (Int32 × XM) := (if ((v0 >>> (v1 &&& 31)) &&& 1) = 1 then some (1, u) else some (0, u))
set_option maxRecDepth 20000 in
set_option maxHeartbeats 4000000 in
theorem T_X5_has (v0 : Int32) (v1 : Int32) (u : XM) : GF E0 YY 1 yX5_has cX5_has 2 (some .boolean) 0 [some (.int v0), some (.int v1)] [] u emI (F_X5_has v0 v1 u) := by
  unfold F_X5_has
  refine gf_iload_n (i := 0) (q := 1) dX5_has_0 rfl rfl rfl ?_
  refine gf_iload_n (i := 1) (q := 2) dX5_has_1 rfl rfl rfl ?_
  refine gf_ishr (q := 3) dX5_has_2 rfl ?_
  refine gf_iconst (q := 4) dX5_has_3 ki_1 rfl ?_
  refine gf_iand (q := 5) dX5_has_4 rfl ?_
  refine gf_iconst (q := 6) dX5_has_5 ki_1 rfl ?_
  refine gf_icmp_ne (t := 13) (q := 9) dX5_has_6 (by decide) rfl ?_ ?_
  · refine gf_iconst (q := 10) dX5_has_9 ki_1 rfl ?_
    refine gf_goto (q := 14) dX5_has_10 (by decide) ?_
    exact gf_retz dX5_has_14 rfl rfl
  · refine gf_iconst (q := 14) dX5_has_13 ki_0 rfl ?_
    exact gf_retz dX5_has_14 rfl rfl
theorem C_X5_has (v0 : Int32) (v1 : Int32) (u : XM) : CF YY 1 yX5_has cX5_has 2 (some .boolean) [.int v0, .int v1] u emI (F_X5_has v0 v1 u) := cf_of (by decide +kernel) (Nat.le_of_ble_eq_true rfl) rfl (T_X5_has v0 v1 u)
def F_X5_bits_4 : Nat → Int32 → Int32 → XM → Option (Int32 × XM)
  | 0, _, _, _ => none
  | n + 1, v1, v2, u => (if v2 = 0 then some (v1, u) else F_X5_bits_4 n (v1 + 1) (v2 &&& (v2 - 1)) u)
set_option maxRecDepth 20000 in
set_option maxHeartbeats 4000000 in
theorem T_X5_bits_4 : ∀ (n : Nat) (v1 : Int32) (v2 : Int32) (u : XM), GF E0 YY 1 yX5_bits cX5_bits 3 (some .int) 4 [none, some (.int v1), some (.int v2)] [] u emI (F_X5_bits_4 n v1 v2 u) := by
  intro n
  induction n with
  | zero => intro v1 v2 u; exact gf_none
  | succ n ih =>
    intro v1 v2 u
    unfold F_X5_bits_4
    refine gf_iload_n (i := 2) (q := 5) dX5_bits_4 rfl rfl rfl ?_
    refine gf_if_eq (t := 20) (q := 8) dX5_bits_5 (by decide) rfl ?_ ?_
    · refine gf_iload_n (i := 1) (q := 21) dX5_bits_20 rfl rfl rfl ?_
      exact gf_reti dX5_bits_21 rfl
    · refine gf_iinc (v := (v1 + 1)) (lv2 := [none, some (.int (v1 + 1)), some (.int v2)]) (q := 11) dX5_bits_8 rfl (congrArg _ ki_1) (by decide) rfl rfl ?_
      refine gf_iload_n (i := 2) (q := 12) dX5_bits_11 rfl rfl rfl ?_
      refine gf_iload_n (i := 2) (q := 13) dX5_bits_12 rfl rfl rfl ?_
      refine gf_iconst (q := 14) dX5_bits_13 ki_1 rfl ?_
      refine gf_isub (q := 15) dX5_bits_14 rfl ?_
      refine gf_iand (q := 16) dX5_bits_15 rfl ?_
      refine gf_istore_n (i := 2) (lv2 := [none, some (.int (v1 + 1)), some (.int (v2 &&& (v2 - 1)))]) (q := 17) dX5_bits_16 rfl (by decide) rfl rfl ?_
      refine gf_goto (q := 4) dX5_bits_17 (by decide) ?_
      exact (ih (v1 + 1) (v2 &&& (v2 - 1)) u)
def F_X5_bits (v0 : Int32) (u : XM) : Option (Int32 × XM) := F_X5_bits_4 FU 0 v0 u
set_option maxRecDepth 20000 in
set_option maxHeartbeats 4000000 in
theorem T_X5_bits (v0 : Int32) (u : XM) : GF E0 YY 1 yX5_bits cX5_bits 3 (some .int) 0 [some (.int v0), none, none] [] u emI (F_X5_bits v0 u) := by
  unfold F_X5_bits
  refine gf_iconst (q := 1) dX5_bits_0 ki_0 rfl ?_
  refine gf_istore_n (i := 1) (lv2 := [some (.int v0), some (.int 0), none]) (q := 2) dX5_bits_1 rfl (by decide) rfl rfl ?_
  refine gf_iload_n (i := 0) (q := 3) dX5_bits_2 rfl rfl rfl ?_
  refine gf_istore_n (i := 2) (lv2 := [some (.int v0), some (.int 0), some (.int v0)]) (q := 4) dX5_bits_3 rfl (by decide) rfl rfl ?_
  exact gf_mask (b := [false, true, true]) rfl (T_X5_bits_4 FU 0 v0 u)
theorem C_X5_bits (v0 : Int32) (u : XM) : CF YY 1 yX5_bits cX5_bits 3 (some .int) [.int v0] u emI (F_X5_bits v0 u) := cf_of (by decide +kernel) (Nat.le_of_ble_eq_true rfl) rfl (T_X5_bits v0 u)
def F_X5_found (v1 : Int32) (u : XM) : Option (Int32 × XM) := (if ain YY 0 47 v1 = true then (if ain YY 0 47 v1 = true then some ((-3), (wi (wi u 35 17 v1) 47 (Int32.toNatClampNeg v1) ((mi (wi u 35 17 v1) 47 (Int32.toNatClampNeg v1)) + 1))) else none) else none)
set_option maxRecDepth 20000 in
set_option maxHeartbeats 4000000 in
theorem T_X5_found (v1 : Int32) (u : XM) : GF E0 YY 1 yX5_found cX5_found 2 (some .int) 0 [some (.ref 35), some (.int v1)] [] u emI (F_X5_found v1 u) := by
  unfold F_X5_found
  refine gf_aload_n (i := 0) (q := 1) dX5_found_0 rfl rfl rfl ?_
  refine gf_iload_n (i := 1) (q := 2) dX5_found_1 rfl rfl rfl ?_
  refine gf_putI (C := RX5) (T := TX5) (N := 33) (ci := 5) (k := 35) (j := 17) (q := 5) dX5_found_2 rfl rfl kin5 tyX5 tyX5_ok nmX5 (by decide) kw621 rfl rfl rfl rfl ?_
  refine gf_aload_n (i := 0) (q := 6) dX5_found_5 rfl rfl rfl ?_
  refine gf_getA (C := RX5) (T := TX5) (N := 33) (ci := 5) (k := 35) (j := 18) (t := 47) (q := 9) dX5_found_6 rfl rfl kin5 (by decide) kw622 rfl rfl ?_
  refine gf_iload_n (i := 1) (q := 10) dX5_found_9 rfl rfl rfl ?_
  refine gf_dup2 (q := 11) dX5_found_10 rfl rfl rfl ?_
  refine gf_iald (q := 12) dX5_found_11 rfl ?_
  refine gf_iconst (q := 13) dX5_found_12 ki_1 rfl ?_
  refine gf_iadd (q := 14) dX5_found_13 rfl ?_
  refine gf_iast (q := 15) dX5_found_14 rfl ?_
  refine gf_bipush (q := 17) dX5_found_15 kb_m3 rfl ?_
  exact gf_reti dX5_found_17 rfl
theorem C_X5_found (v1 : Int32) (u : XM) : CF YY 1 yX5_found cX5_found 2 (some .int) [.ref 35, .int v1] u emI (F_X5_found v1 u) := cf_of (by decide +kernel) (Nat.le_of_ble_eq_true rfl) rfl (T_X5_found v1 u)
def F_X5_tell (v1 : Int32) (u : XM) : Option (Int32 × XM) := some (1, (wi u 35 14 v1))
set_option maxRecDepth 20000 in
set_option maxHeartbeats 4000000 in
theorem T_X5_tell (v1 : Int32) (u : XM) : GF E0 YY 1 yX5_tell cX5_tell 2 (some .int) 0 [some (.ref 35), some (.int v1)] [] u emI (F_X5_tell v1 u) := by
  unfold F_X5_tell
  refine gf_aload_n (i := 0) (q := 1) dX5_tell_0 rfl rfl rfl ?_
  refine gf_iload_n (i := 1) (q := 2) dX5_tell_1 rfl rfl rfl ?_
  refine gf_putI (C := RX5) (T := TX5) (N := 33) (ci := 5) (k := 35) (j := 14) (q := 5) dX5_tell_2 rfl rfl kin5 tyX5 tyX5_ok nmX5 (by decide) kw618 rfl rfl rfl rfl ?_
  refine gf_iconst (q := 6) dX5_tell_5 ki_1 rfl ?_
  exact gf_reti dX5_tell_6 rfl
theorem C_X5_tell (v1 : Int32) (u : XM) : CF YY 1 yX5_tell cX5_tell 2 (some .int) [.ref 35, .int v1] u emI (F_X5_tell v1 u) := cf_of (by decide +kernel) (Nat.le_of_ble_eq_true rfl) rfl (T_X5_tell v1 u)
def F_X5_answer (v1 : Int32) (v2 : Int32) (u : XM) : Option (Int32 × XM) := some (v1, (wi u 35 14 v2))
set_option maxRecDepth 20000 in
set_option maxHeartbeats 4000000 in
theorem T_X5_answer (v1 : Int32) (v2 : Int32) (u : XM) : GF E0 YY 1 yX5_answer cX5_answer 3 (some .int) 0 [some (.ref 35), some (.int v1), some (.int v2)] [] u emI (F_X5_answer v1 v2 u) := by
  unfold F_X5_answer
  refine gf_aload_n (i := 0) (q := 1) dX5_answer_0 rfl rfl rfl ?_
  refine gf_iload_n (i := 2) (q := 2) dX5_answer_1 rfl rfl rfl ?_
  refine gf_putI (C := RX5) (T := TX5) (N := 33) (ci := 5) (k := 35) (j := 14) (q := 5) dX5_answer_2 rfl rfl kin5 tyX5 tyX5_ok nmX5 (by decide) kw618 rfl rfl rfl rfl ?_
  refine gf_iload_n (i := 1) (q := 6) dX5_answer_5 rfl rfl rfl ?_
  exact gf_reti dX5_answer_6 rfl
theorem C_X5_answer (v1 : Int32) (v2 : Int32) (u : XM) : CF YY 1 yX5_answer cX5_answer 3 (some .int) [.ref 35, .int v1, .int v2] u emI (F_X5_answer v1 v2 u) := cf_of (by decide +kernel) (Nat.le_of_ble_eq_true rfl) rfl (T_X5_answer v1 v2 u)
def F_X5_isRow (v0 : Int32) (u : XM) : Option (Int32 × XM) := (Option.bind (F_X5_in (Int32.toInt64 v0) 0 5 u) (fun x1 => (if vp_nar .boolean x1.1 = x1.1 then some (x1.1, x1.2) else none)))
set_option maxRecDepth 20000 in
set_option maxHeartbeats 4000000 in
theorem T_X5_isRow (v0 : Int32) (u : XM) : GF E0 YY 2 yX5_isRow cX5_isRow 1 (some .boolean) 0 [some (.int v0)] [] u emI (F_X5_isRow v0 u) := by
  unfold F_X5_isRow
  refine gf_iload_n (i := 0) (q := 1) dX5_isRow_0 rfl rfl rfl ?_
  refine gf_i2l (q := 2) dX5_isRow_1 rfl ?_
  refine gf_lconst (v := 0) (q := 3) dX5_isRow_2 rfl rfl ?_
  refine gf_ldc2 (q := 6) dX5_isRow_3 kw712 rfl ?_
  refine gf_callS_i (n2 := 3) (As := [.long (Int32.toInt64 v0), .long 0, .long 5]) (st := []) (q := 9) (hlen := rfl) kw713 kw714 dX5_isRow_6 kw715 kw7 (by decide +kernel) (by decide) (Nat.le_of_ble_eq_true rfl) (C_X5_in (Int32.toInt64 v0) 0 5 u) rfl rfl (fun x1 => ?_)
  exact gf_retb dX5_isRow_9 rfl
theorem C_X5_isRow (v0 : Int32) (u : XM) : CF YY 2 yX5_isRow cX5_isRow 1 (some .boolean) [.int v0] u emI (F_X5_isRow v0 u) := cf_of (by decide +kernel) (Nat.le_of_ble_eq_true rfl) rfl (T_X5_isRow v0 u)
def F_X5_isText (v0 : Int32) (u : XM) : Option (Int32 × XM) := (Option.bind (F_X5_in (Int32.toInt64 v0) 0 3 u) (fun x1 => (if vp_nar .boolean x1.1 = x1.1 then some (x1.1, x1.2) else none)))
set_option maxRecDepth 20000 in
set_option maxHeartbeats 4000000 in
theorem T_X5_isText (v0 : Int32) (u : XM) : GF E0 YY 2 yX5_isText cX5_isText 1 (some .boolean) 0 [some (.int v0)] [] u emI (F_X5_isText v0 u) := by
  unfold F_X5_isText
  refine gf_iload_n (i := 0) (q := 1) dX5_isText_0 rfl rfl rfl ?_
  refine gf_i2l (q := 2) dX5_isText_1 rfl ?_
  refine gf_lconst (v := 0) (q := 3) dX5_isText_2 rfl rfl ?_
  refine gf_ldc2 (q := 6) dX5_isText_3 kw751 rfl ?_
  refine gf_callS_i (n2 := 3) (As := [.long (Int32.toInt64 v0), .long 0, .long 3]) (st := []) (q := 9) (hlen := rfl) kw713 kw714 dX5_isText_6 kw715 kw7 (by decide +kernel) (by decide) (Nat.le_of_ble_eq_true rfl) (C_X5_in (Int32.toInt64 v0) 0 3 u) rfl rfl (fun x1 => ?_)
  exact gf_retb dX5_isText_9 rfl
theorem C_X5_isText (v0 : Int32) (u : XM) : CF YY 2 yX5_isText cX5_isText 1 (some .boolean) [.int v0] u emI (F_X5_isText v0 u) := cf_of (by decide +kernel) (Nat.le_of_ble_eq_true rfl) rfl (T_X5_isText v0 u)
def F_X5_row_34 : Nat → Int32 → Int32 → Int32 → XM → Option (Int32 × XM)
  | 0, _, _, _, _ => none
  | n + 1, v1, v2, v3, u => (if 40 ≤ v3 then some (v2, u) else (if ain YY 0 37 ((40 * v1) + v3) = true then F_X5_row_34 n v1 v2 (v3 + 1) (wi u 37 (Int32.toNatClampNeg ((40 * v1) + v3)) 0) else none))
set_option maxRecDepth 20000 in
set_option maxHeartbeats 4000000 in
theorem T_X5_row_34 : ∀ (n : Nat) (v1 : Int32) (v2 : Int32) (v3 : Int32) (u : XM), GF E0 YY 3 yX5_row cX5_row 4 (some .int) 34 [some (.ref 35), some (.int v1), some (.int v2), some (.int v3)] [] u emI (F_X5_row_34 n v1 v2 v3 u) := by
  intro n
  induction n with
  | zero => intro v1 v2 v3 u; exact gf_none
  | succ n ih =>
    intro v1 v2 v3 u
    unfold F_X5_row_34
    refine gf_iload_n (i := 3) (q := 35) dX5_row_34 rfl rfl rfl ?_
    refine gf_bipush (q := 37) dX5_row_35 kb_40 rfl ?_
    refine gf_icmp_ge (t := 58) (q := 40) dX5_row_37 (by decide) rfl ?_ ?_
    · refine gf_iload_n (i := 2) (q := 59) dX5_row_58 rfl rfl rfl ?_
      exact gf_reti dX5_row_59 rfl
    · refine gf_aload_n (i := 0) (q := 41) dX5_row_40 rfl rfl rfl ?_
      refine gf_getA (C := RX5) (T := TX5) (N := 33) (ci := 5) (k := 35) (j := 1) (t := 37) (q := 44) dX5_row_41 rfl rfl kin5 (by decide) kw605 rfl rfl ?_
      refine gf_bipush (q := 46) dX5_row_44 kb_40 rfl ?_
      refine gf_iload_n (i := 1) (q := 47) dX5_row_46 rfl rfl rfl ?_
      refine gf_imul (q := 48) dX5_row_47 rfl ?_
      refine gf_iload_n (i := 3) (q := 49) dX5_row_48 rfl rfl rfl ?_
      refine gf_iadd (q := 50) dX5_row_49 rfl ?_
      refine gf_iconst (q := 51) dX5_row_50 ki_0 rfl ?_
      refine gf_iast (q := 52) dX5_row_51 rfl ?_
      refine gf_iinc (v := (v3 + 1)) (lv2 := [some (.ref 35), some (.int v1), some (.int v2), some (.int (v3 + 1))]) (q := 55) dX5_row_52 rfl (congrArg _ ki_1) (by decide) rfl rfl ?_
      refine gf_goto (q := 34) dX5_row_55 (by decide) ?_
      exact (ih v1 v2 (v3 + 1) (wi u 37 (Int32.toNatClampNeg ((40 * v1) + v3)) 0))
def F_X5_row (v1 : Int32) (v2 : Int32) (u : XM) : Option (Int32 × XM) := (Option.bind (F_X5_isRow v1 u) (fun x1 => (if x1.1 = 0 then some ((-1), x1.2) else (if v2 ≤ 40 then (if 0 ≤ v2 then (if ain YY 0 36 v1 = true then F_X5_row_34 FU v1 v2 0 (wi x1.2 36 (Int32.toNatClampNeg v1) v2) else none) else (Option.bind (F_X5_found 5 x1.2) (fun x2 => some (x2.1, x2.2)))) else some ((-1), x1.2)))))
set_option maxRecDepth 20000 in
set_option maxHeartbeats 4000000 in
theorem T_X5_row (v1 : Int32) (v2 : Int32) (u : XM) : GF E0 YY 3 yX5_row cX5_row 4 (some .int) 0 [some (.ref 35), some (.int v1), some (.int v2), none] [] u emI (F_X5_row v1 v2 u) := by
  unfold F_X5_row
  refine gf_iload_n (i := 1) (q := 1) dX5_row_0 rfl rfl rfl ?_
  refine gf_callS_i (n2 := 1) (As := [.int v1]) (st := []) (q := 4) (hlen := rfl) kw709 kw710 dX5_row_1 kw711 kw7 (by decide +kernel) (by decide) (Nat.le_of_ble_eq_true rfl) (C_X5_isRow v1 u) rfl rfl (fun x1 => ?_)
  refine gf_if_eq (t := 13) (q := 7) dX5_row_4 (by decide) rfl ?_ ?_
  · refine gf_iconst (q := 14) dX5_row_13 ki_m1 rfl ?_
    exact gf_reti dX5_row_14 rfl
  · refine gf_iload_n (i := 2) (q := 8) dX5_row_7 rfl rfl rfl ?_
    refine gf_bipush (q := 10) dX5_row_8 kb_40 rfl ?_
    refine gf_icmp_le (t := 15) (q := 13) dX5_row_10 (by decide) rfl ?_ ?_
    · refine gf_iload_n (i := 2) (q := 16) dX5_row_15 rfl rfl rfl ?_
      refine gf_if_ge (t := 25) (q := 19) dX5_row_16 (by decide) rfl ?_ ?_
      · refine gf_aload_n (i := 0) (q := 26) dX5_row_25 rfl rfl rfl ?_
        refine gf_getA (C := RX5) (T := TX5) (N := 33) (ci := 5) (k := 35) (j := 0) (t := 36) (q := 29) dX5_row_26 rfl rfl kin5 (by decide) kw604 rfl rfl ?_
        refine gf_iload_n (i := 1) (q := 30) dX5_row_29 rfl rfl rfl ?_
        refine gf_iload_n (i := 2) (q := 31) dX5_row_30 rfl rfl rfl ?_
        refine gf_iast (q := 32) dX5_row_31 rfl ?_
        refine gf_iconst (q := 33) dX5_row_32 ki_0 rfl ?_
        refine gf_istore_n (i := 3) (lv2 := [some (.ref 35), some (.int v1), some (.int v2), some (.int 0)]) (q := 34) dX5_row_33 rfl (by decide) rfl rfl ?_
        exact (T_X5_row_34 FU v1 v2 0 (wi x1.2 36 (Int32.toNatClampNeg v1) v2))
      · refine gf_aload_n (i := 0) (q := 20) dX5_row_19 rfl rfl rfl ?_
        refine gf_iconst (q := 21) dX5_row_20 ki_5 rfl ?_
        refine gf_callV_i (n2 := 1) (As := [.int 5]) (st := []) (b := 35) (ci := 5) (C := RX5) (q := 24) (hlen := rfl) rfl rfl kw716 kw718 kp12 dX5_row_21 kw719 kw7 (by decide +kernel) (by decide) (Nat.le_of_ble_eq_true rfl) (C_X5_found 5 x1.2) rfl rfl (fun x2 => ?_)
        exact gf_reti dX5_row_24 rfl
    · refine gf_iconst (q := 14) dX5_row_13 ki_m1 rfl ?_
      exact gf_reti dX5_row_14 rfl
theorem C_X5_row (v1 : Int32) (v2 : Int32) (u : XM) : CF YY 3 yX5_row cX5_row 4 (some .int) [.ref 35, .int v1, .int v2] u emI (F_X5_row v1 v2 u) := cf_of (by decide +kernel) (Nat.le_of_ble_eq_true rfl) rfl (T_X5_row v1 v2 u)
def F_X5_lay (v1 : Int32) (v2 : Int32) (v3 : Int32) (u : XM) : Option (Int32 × XM) := (Option.bind (F_X5_isRow v1 u) (fun x1 => (if x1.1 = 0 then some ((-1), x1.2) else (if ain YY 0 36 v1 = true then (if 0 ≤ (mi x1.2 36 (Int32.toNatClampNeg v1)) then (if ain YY 0 36 v1 = true then (Option.bind (F_X5_in (Int32.toInt64 v2) 0 (Int32.toInt64 ((mi x1.2 36 (Int32.toNatClampNeg v1)) - 1)) x1.2) (fun x2 => (if x2.1 = 0 then (Option.bind (F_X5_found 2 x2.2) (fun x4 => some (x4.1, x4.2))) else (if ain YY 0 37 ((40 * v1) + v2) = true then (if ain YY 0 37 ((40 * v1) + v2) = true then (Option.bind (F_X5_tell (mi x2.2 37 (Int32.toNatClampNeg ((40 * v1) + v2))) (wi x2.2 37 (Int32.toNatClampNeg ((40 * v1) + v2)) v3)) (fun x3 => some (x3.1, x3.2))) else none) else none)))) else none) else (Option.bind (F_X5_found 1 x1.2) (fun x5 => some (x5.1, x5.2)))) else none))))
set_option maxRecDepth 20000 in
set_option maxHeartbeats 4000000 in
theorem T_X5_lay (v1 : Int32) (v2 : Int32) (v3 : Int32) (u : XM) : GF E0 YY 3 yX5_lay cX5_lay 5 (some .int) 0 [some (.ref 35), some (.int v1), some (.int v2), some (.int v3), none] [] u emI (F_X5_lay v1 v2 v3 u) := by
  unfold F_X5_lay
  refine gf_iload_n (i := 1) (q := 1) dX5_lay_0 rfl rfl rfl ?_
  refine gf_callS_i (n2 := 1) (As := [.int v1]) (st := []) (q := 4) (hlen := rfl) kw709 kw710 dX5_lay_1 kw711 kw7 (by decide +kernel) (by decide) (Nat.le_of_ble_eq_true rfl) (C_X5_isRow v1 u) rfl rfl (fun x1 => ?_)
  refine gf_if_ne (t := 9) (q := 7) dX5_lay_4 (by decide) rfl ?_ ?_
  · refine gf_iconst (q := 8) dX5_lay_7 ki_m1 rfl ?_
    exact gf_reti dX5_lay_8 rfl
  · refine gf_aload_n (i := 0) (q := 10) dX5_lay_9 rfl rfl rfl ?_
    refine gf_getA (C := RX5) (T := TX5) (N := 33) (ci := 5) (k := 35) (j := 0) (t := 36) (q := 13) dX5_lay_10 rfl rfl kin5 (by decide) kw604 rfl rfl ?_
    refine gf_iload_n (i := 1) (q := 14) dX5_lay_13 rfl rfl rfl ?_
    refine gf_iald (q := 15) dX5_lay_14 rfl ?_
    refine gf_if_ge (t := 24) (q := 18) dX5_lay_15 (by decide) rfl ?_ ?_
    · refine gf_iload_n (i := 2) (q := 25) dX5_lay_24 rfl rfl rfl ?_
      refine gf_i2l (q := 26) dX5_lay_25 rfl ?_
      refine gf_lconst (v := 0) (q := 27) dX5_lay_26 rfl rfl ?_
      refine gf_aload_n (i := 0) (q := 28) dX5_lay_27 rfl rfl rfl ?_
      refine gf_getA (C := RX5) (T := TX5) (N := 33) (ci := 5) (k := 35) (j := 0) (t := 36) (q := 31) dX5_lay_28 rfl rfl kin5 (by decide) kw604 rfl rfl ?_
      refine gf_iload_n (i := 1) (q := 32) dX5_lay_31 rfl rfl rfl ?_
      refine gf_iald (q := 33) dX5_lay_32 rfl ?_
      refine gf_iconst (q := 34) dX5_lay_33 ki_1 rfl ?_
      refine gf_isub (q := 35) dX5_lay_34 rfl ?_
      refine gf_i2l (q := 36) dX5_lay_35 rfl ?_
      refine gf_callS_i (n2 := 3) (As := [.long (Int32.toInt64 v2), .long 0, .long (Int32.toInt64 ((mi x1.2 36 (Int32.toNatClampNeg v1)) - 1))]) (st := []) (q := 39) (hlen := rfl) kw713 kw714 dX5_lay_36 kw715 kw7 (by decide +kernel) (by decide) (Nat.le_of_ble_eq_true rfl) (C_X5_in (Int32.toInt64 v2) 0 (Int32.toInt64 ((mi x1.2 36 (Int32.toNatClampNeg v1)) - 1)) x1.2) rfl rfl (fun x2 => ?_)
      refine gf_if_ne (t := 48) (q := 42) dX5_lay_39 (by decide) rfl ?_ ?_
      · refine gf_aload_n (i := 0) (q := 43) dX5_lay_42 rfl rfl rfl ?_
        refine gf_iconst (q := 44) dX5_lay_43 ki_2 rfl ?_
        refine gf_callV_i (n2 := 1) (As := [.int 2]) (st := []) (b := 35) (ci := 5) (C := RX5) (q := 47) (hlen := rfl) rfl rfl kw716 kw718 kp12 dX5_lay_44 kw719 kw7 (by decide +kernel) (by decide) (Nat.le_of_ble_eq_true rfl) (C_X5_found 2 x2.2) rfl rfl (fun x4 => ?_)
        exact gf_reti dX5_lay_47 rfl
      · refine gf_aload_n (i := 0) (q := 49) dX5_lay_48 rfl rfl rfl ?_
        refine gf_getA (C := RX5) (T := TX5) (N := 33) (ci := 5) (k := 35) (j := 1) (t := 37) (q := 52) dX5_lay_49 rfl rfl kin5 (by decide) kw605 rfl rfl ?_
        refine gf_bipush (q := 54) dX5_lay_52 kb_40 rfl ?_
        refine gf_iload_n (i := 1) (q := 55) dX5_lay_54 rfl rfl rfl ?_
        refine gf_imul (q := 56) dX5_lay_55 rfl ?_
        refine gf_iload_n (i := 2) (q := 57) dX5_lay_56 rfl rfl rfl ?_
        refine gf_iadd (q := 58) dX5_lay_57 rfl ?_
        refine gf_iald (q := 59) dX5_lay_58 rfl ?_
        refine gf_istore (lv2 := [some (.ref 35), some (.int v1), some (.int v2), some (.int v3), some (.int (mi x2.2 37 (Int32.toNatClampNeg ((40 * v1) + v2))))]) (q := 61) dX5_lay_59 (by decide) rfl rfl ?_
        refine gf_aload_n (i := 0) (q := 62) dX5_lay_61 rfl rfl rfl ?_
        refine gf_getA (C := RX5) (T := TX5) (N := 33) (ci := 5) (k := 35) (j := 1) (t := 37) (q := 65) dX5_lay_62 rfl rfl kin5 (by decide) kw605 rfl rfl ?_
        refine gf_bipush (q := 67) dX5_lay_65 kb_40 rfl ?_
        refine gf_iload_n (i := 1) (q := 68) dX5_lay_67 rfl rfl rfl ?_
        refine gf_imul (q := 69) dX5_lay_68 rfl ?_
        refine gf_iload_n (i := 2) (q := 70) dX5_lay_69 rfl rfl rfl ?_
        refine gf_iadd (q := 71) dX5_lay_70 rfl ?_
        refine gf_iload_n (i := 3) (q := 72) dX5_lay_71 rfl rfl rfl ?_
        refine gf_iast (q := 73) dX5_lay_72 rfl ?_
        refine gf_aload_n (i := 0) (q := 74) dX5_lay_73 rfl rfl rfl ?_
        refine gf_iload (q := 76) dX5_lay_74 rfl rfl ?_
        refine gf_callV_i (n2 := 1) (As := [.int (mi x2.2 37 (Int32.toNatClampNeg ((40 * v1) + v2)))]) (st := []) (b := 35) (ci := 5) (C := RX5) (q := 79) (hlen := rfl) rfl rfl kw724 kw726 kp13 dX5_lay_76 kw727 kw7 (by decide +kernel) (by decide) (Nat.le_of_ble_eq_true rfl) (C_X5_tell (mi x2.2 37 (Int32.toNatClampNeg ((40 * v1) + v2))) (wi x2.2 37 (Int32.toNatClampNeg ((40 * v1) + v2)) v3)) rfl rfl (fun x3 => ?_)
        exact gf_reti dX5_lay_79 rfl
    · refine gf_aload_n (i := 0) (q := 19) dX5_lay_18 rfl rfl rfl ?_
      refine gf_iconst (q := 20) dX5_lay_19 ki_1 rfl ?_
      refine gf_callV_i (n2 := 1) (As := [.int 1]) (st := []) (b := 35) (ci := 5) (C := RX5) (q := 23) (hlen := rfl) rfl rfl kw716 kw718 kp12 dX5_lay_20 kw719 kw7 (by decide +kernel) (by decide) (Nat.le_of_ble_eq_true rfl) (C_X5_found 1 x1.2) rfl rfl (fun x5 => ?_)
      exact gf_reti dX5_lay_23 rfl
theorem C_X5_lay (v1 : Int32) (v2 : Int32) (v3 : Int32) (u : XM) : CF YY 3 yX5_lay cX5_lay 5 (some .int) [.ref 35, .int v1, .int v2, .int v3] u emI (F_X5_lay v1 v2 v3 u) := cf_of (by decide +kernel) (Nat.le_of_ble_eq_true rfl) rfl (T_X5_lay v1 v2 v3 u)
def F_X5_at (v1 : Int32) (v2 : Int32) (u : XM) : Option (Int32 × XM) := (Option.bind (F_X5_isRow v1 u) (fun x1 => (if x1.1 = 0 then some ((-1), x1.2) else (if ain YY 0 36 v1 = true then (if 0 ≤ (mi x1.2 36 (Int32.toNatClampNeg v1)) then (if ain YY 0 36 v1 = true then (Option.bind (F_X5_in (Int32.toInt64 v2) 0 (Int32.toInt64 ((mi x1.2 36 (Int32.toNatClampNeg v1)) - 1)) x1.2) (fun x2 => (if x2.1 = 0 then (Option.bind (F_X5_found 2 x2.2) (fun x3 => some (x3.1, x3.2))) else (if ain YY 0 37 ((40 * v1) + v2) = true then (Option.bind (F_X5_tell (mi x2.2 37 (Int32.toNatClampNeg ((40 * v1) + v2))) x2.2) (fun x4 => some (x4.1, x4.2))) else none)))) else none) else (Option.bind (F_X5_found 1 x1.2) (fun x5 => some (x5.1, x5.2)))) else none))))
set_option maxRecDepth 20000 in
set_option maxHeartbeats 4000000 in
theorem T_X5_at (v1 : Int32) (v2 : Int32) (u : XM) : GF E0 YY 3 yX5_at cX5_at 3 (some .int) 0 [some (.ref 35), some (.int v1), some (.int v2)] [] u emI (F_X5_at v1 v2 u) := by
  unfold F_X5_at
  refine gf_iload_n (i := 1) (q := 1) dX5_at_0 rfl rfl rfl ?_
  refine gf_callS_i (n2 := 1) (As := [.int v1]) (st := []) (q := 4) (hlen := rfl) kw709 kw710 dX5_at_1 kw711 kw7 (by decide +kernel) (by decide) (Nat.le_of_ble_eq_true rfl) (C_X5_isRow v1 u) rfl rfl (fun x1 => ?_)
  refine gf_if_ne (t := 9) (q := 7) dX5_at_4 (by decide) rfl ?_ ?_
  · refine gf_iconst (q := 8) dX5_at_7 ki_m1 rfl ?_
    exact gf_reti dX5_at_8 rfl
  · refine gf_aload_n (i := 0) (q := 10) dX5_at_9 rfl rfl rfl ?_
    refine gf_getA (C := RX5) (T := TX5) (N := 33) (ci := 5) (k := 35) (j := 0) (t := 36) (q := 13) dX5_at_10 rfl rfl kin5 (by decide) kw604 rfl rfl ?_
    refine gf_iload_n (i := 1) (q := 14) dX5_at_13 rfl rfl rfl ?_
    refine gf_iald (q := 15) dX5_at_14 rfl ?_
    refine gf_if_ge (t := 24) (q := 18) dX5_at_15 (by decide) rfl ?_ ?_
    · refine gf_iload_n (i := 2) (q := 25) dX5_at_24 rfl rfl rfl ?_
      refine gf_i2l (q := 26) dX5_at_25 rfl ?_
      refine gf_lconst (v := 0) (q := 27) dX5_at_26 rfl rfl ?_
      refine gf_aload_n (i := 0) (q := 28) dX5_at_27 rfl rfl rfl ?_
      refine gf_getA (C := RX5) (T := TX5) (N := 33) (ci := 5) (k := 35) (j := 0) (t := 36) (q := 31) dX5_at_28 rfl rfl kin5 (by decide) kw604 rfl rfl ?_
      refine gf_iload_n (i := 1) (q := 32) dX5_at_31 rfl rfl rfl ?_
      refine gf_iald (q := 33) dX5_at_32 rfl ?_
      refine gf_iconst (q := 34) dX5_at_33 ki_1 rfl ?_
      refine gf_isub (q := 35) dX5_at_34 rfl ?_
      refine gf_i2l (q := 36) dX5_at_35 rfl ?_
      refine gf_callS_i (n2 := 3) (As := [.long (Int32.toInt64 v2), .long 0, .long (Int32.toInt64 ((mi x1.2 36 (Int32.toNatClampNeg v1)) - 1))]) (st := []) (q := 39) (hlen := rfl) kw713 kw714 dX5_at_36 kw715 kw7 (by decide +kernel) (by decide) (Nat.le_of_ble_eq_true rfl) (C_X5_in (Int32.toInt64 v2) 0 (Int32.toInt64 ((mi x1.2 36 (Int32.toNatClampNeg v1)) - 1)) x1.2) rfl rfl (fun x2 => ?_)
      refine gf_if_eq (t := 60) (q := 42) dX5_at_39 (by decide) rfl ?_ ?_
      · refine gf_aload_n (i := 0) (q := 61) dX5_at_60 rfl rfl rfl ?_
        refine gf_iconst (q := 62) dX5_at_61 ki_2 rfl ?_
        refine gf_callV_i (n2 := 1) (As := [.int 2]) (st := []) (b := 35) (ci := 5) (C := RX5) (q := 65) (hlen := rfl) rfl rfl kw716 kw718 kp12 dX5_at_62 kw719 kw7 (by decide +kernel) (by decide) (Nat.le_of_ble_eq_true rfl) (C_X5_found 2 x2.2) rfl rfl (fun x3 => ?_)
        exact gf_reti dX5_at_65 rfl
      · refine gf_aload_n (i := 0) (q := 43) dX5_at_42 rfl rfl rfl ?_
        refine gf_aload_n (i := 0) (q := 44) dX5_at_43 rfl rfl rfl ?_
        refine gf_getA (C := RX5) (T := TX5) (N := 33) (ci := 5) (k := 35) (j := 1) (t := 37) (q := 47) dX5_at_44 rfl rfl kin5 (by decide) kw605 rfl rfl ?_
        refine gf_bipush (q := 49) dX5_at_47 kb_40 rfl ?_
        refine gf_iload_n (i := 1) (q := 50) dX5_at_49 rfl rfl rfl ?_
        refine gf_imul (q := 51) dX5_at_50 rfl ?_
        refine gf_iload_n (i := 2) (q := 52) dX5_at_51 rfl rfl rfl ?_
        refine gf_iadd (q := 53) dX5_at_52 rfl ?_
        refine gf_iald (q := 54) dX5_at_53 rfl ?_
        refine gf_callV_i (n2 := 1) (As := [.int (mi x2.2 37 (Int32.toNatClampNeg ((40 * v1) + v2)))]) (st := []) (b := 35) (ci := 5) (C := RX5) (q := 57) (hlen := rfl) rfl rfl kw724 kw726 kp13 dX5_at_54 kw727 kw7 (by decide +kernel) (by decide) (Nat.le_of_ble_eq_true rfl) (C_X5_tell (mi x2.2 37 (Int32.toNatClampNeg ((40 * v1) + v2))) x2.2) rfl rfl (fun x4 => ?_)
        refine gf_goto (q := 65) dX5_at_57 (by decide) ?_
        exact gf_reti dX5_at_65 rfl
    · refine gf_aload_n (i := 0) (q := 19) dX5_at_18 rfl rfl rfl ?_
      refine gf_iconst (q := 20) dX5_at_19 ki_1 rfl ?_
      refine gf_callV_i (n2 := 1) (As := [.int 1]) (st := []) (b := 35) (ci := 5) (C := RX5) (q := 23) (hlen := rfl) rfl rfl kw716 kw718 kp12 dX5_at_20 kw719 kw7 (by decide +kernel) (by decide) (Nat.le_of_ble_eq_true rfl) (C_X5_found 1 x1.2) rfl rfl (fun x5 => ?_)
      exact gf_reti dX5_at_23 rfl
theorem C_X5_at (v1 : Int32) (v2 : Int32) (u : XM) : CF YY 3 yX5_at cX5_at 3 (some .int) [.ref 35, .int v1, .int v2] u emI (F_X5_at v1 v2 u) := cf_of (by decide +kernel) (Nat.le_of_ble_eq_true rfl) rfl (T_X5_at v1 v2 u)
def F_X5_tear (v1 : Int32) (u : XM) : Option (Int32 × XM) := (Option.bind (F_X5_isRow v1 u) (fun x1 => (if x1.1 = 0 then some ((-1), x1.2) else (if ain YY 0 36 v1 = true then (if 0 ≤ (mi x1.2 36 (Int32.toNatClampNeg v1)) then (if ain YY 0 36 v1 = true then some (1, (wi x1.2 36 (Int32.toNatClampNeg v1) (-1))) else none) else (Option.bind (F_X5_found 1 x1.2) (fun x2 => some (x2.1, x2.2)))) else none))))
set_option maxRecDepth 20000 in
set_option maxHeartbeats 4000000 in
theorem T_X5_tear (v1 : Int32) (u : XM) : GF E0 YY 3 yX5_tear cX5_tear 2 (some .int) 0 [some (.ref 35), some (.int v1)] [] u emI (F_X5_tear v1 u) := by
  unfold F_X5_tear
  refine gf_iload_n (i := 1) (q := 1) dX5_tear_0 rfl rfl rfl ?_
  refine gf_callS_i (n2 := 1) (As := [.int v1]) (st := []) (q := 4) (hlen := rfl) kw709 kw710 dX5_tear_1 kw711 kw7 (by decide +kernel) (by decide) (Nat.le_of_ble_eq_true rfl) (C_X5_isRow v1 u) rfl rfl (fun x1 => ?_)
  refine gf_if_ne (t := 9) (q := 7) dX5_tear_4 (by decide) rfl ?_ ?_
  · refine gf_iconst (q := 8) dX5_tear_7 ki_m1 rfl ?_
    exact gf_reti dX5_tear_8 rfl
  · refine gf_aload_n (i := 0) (q := 10) dX5_tear_9 rfl rfl rfl ?_
    refine gf_getA (C := RX5) (T := TX5) (N := 33) (ci := 5) (k := 35) (j := 0) (t := 36) (q := 13) dX5_tear_10 rfl rfl kin5 (by decide) kw604 rfl rfl ?_
    refine gf_iload_n (i := 1) (q := 14) dX5_tear_13 rfl rfl rfl ?_
    refine gf_iald (q := 15) dX5_tear_14 rfl ?_
    refine gf_if_ge (t := 24) (q := 18) dX5_tear_15 (by decide) rfl ?_ ?_
    · refine gf_aload_n (i := 0) (q := 25) dX5_tear_24 rfl rfl rfl ?_
      refine gf_getA (C := RX5) (T := TX5) (N := 33) (ci := 5) (k := 35) (j := 0) (t := 36) (q := 28) dX5_tear_25 rfl rfl kin5 (by decide) kw604 rfl rfl ?_
      refine gf_iload_n (i := 1) (q := 29) dX5_tear_28 rfl rfl rfl ?_
      refine gf_iconst (q := 30) dX5_tear_29 ki_m1 rfl ?_
      refine gf_iast (q := 31) dX5_tear_30 rfl ?_
      refine gf_iconst (q := 32) dX5_tear_31 ki_1 rfl ?_
      exact gf_reti dX5_tear_32 rfl
    · refine gf_aload_n (i := 0) (q := 19) dX5_tear_18 rfl rfl rfl ?_
      refine gf_iconst (q := 20) dX5_tear_19 ki_1 rfl ?_
      refine gf_callV_i (n2 := 1) (As := [.int 1]) (st := []) (b := 35) (ci := 5) (C := RX5) (q := 23) (hlen := rfl) rfl rfl kw716 kw718 kp12 dX5_tear_20 kw719 kw7 (by decide +kernel) (by decide) (Nat.le_of_ble_eq_true rfl) (C_X5_found 1 x1.2) rfl rfl (fun x2 => ?_)
      exact gf_reti dX5_tear_23 rfl
theorem C_X5_tear (v1 : Int32) (u : XM) : CF YY 3 yX5_tear cX5_tear 2 (some .int) [.ref 35, .int v1] u emI (F_X5_tear v1 u) := cf_of (by decide +kernel) (Nat.le_of_ble_eq_true rfl) rfl (T_X5_tear v1 u)
def F_X5_copy_129 (k104 : Int32 → Int32 → Int32 → Int32 → Int32 → Int32 → XM → Option (Int32 × XM)) (v1 : Int32) (v2 : Int32) (v3 : Int32) (v4 : Int32) (v5 : Int32) (v6 : Int32) (s0 : Int32) (u : XM) : Option (Int32 × XM) := (if ain YY 0 37 (((40 * v1) + v2) + s0) = true then (if ain YY 0 37 (((40 * v3) + v4) + s0) = true then k104 v1 v2 v3 v4 v5 (v6 + 1) (wi u 37 (Int32.toNatClampNeg (((40 * v3) + v4) + s0)) (mi u 37 (Int32.toNatClampNeg (((40 * v1) + v2) + s0)))) else none) else none)
set_option maxRecDepth 20000 in
set_option maxHeartbeats 4000000 in
theorem T_X5_copy_129 (k104 : Int32 → Int32 → Int32 → Int32 → Int32 → Int32 → XM → Option (Int32 × XM)) (hk104 : ∀ (v1 : Int32) (v2 : Int32) (v3 : Int32) (v4 : Int32) (v5 : Int32) (v6 : Int32) (u : XM), GF E0 YY 3 yX5_copy cX5_copy 8 (some .int) 104 [some (.ref 35), some (.int v1), some (.int v2), some (.int v3), some (.int v4), some (.int v5), some (.int v6), none] [] u emI (k104 v1 v2 v3 v4 v5 v6 u)) (v1 : Int32) (v2 : Int32) (v3 : Int32) (v4 : Int32) (v5 : Int32) (v6 : Int32) (s0 : Int32) (u : XM) : GF E0 YY 3 yX5_copy cX5_copy 8 (some .int) 129 [some (.ref 35), some (.int v1), some (.int v2), some (.int v3), some (.int v4), some (.int v5), some (.int v6), none] [.int s0] u emI (F_X5_copy_129 k104 v1 v2 v3 v4 v5 v6 s0 u) := by
  unfold F_X5_copy_129
  refine gf_istore (lv2 := [some (.ref 35), some (.int v1), some (.int v2), some (.int v3), some (.int v4), some (.int v5), some (.int v6), some (.int s0)]) (q := 131) dX5_copy_129 (by decide) rfl rfl ?_
  refine gf_aload_n (i := 0) (q := 132) dX5_copy_131 rfl rfl rfl ?_
  refine gf_getA (C := RX5) (T := TX5) (N := 33) (ci := 5) (k := 35) (j := 1) (t := 37) (q := 135) dX5_copy_132 rfl rfl kin5 (by decide) kw605 rfl rfl ?_
  refine gf_bipush (q := 137) dX5_copy_135 kb_40 rfl ?_
  refine gf_iload_n (i := 3) (q := 138) dX5_copy_137 rfl rfl rfl ?_
  refine gf_imul (q := 139) dX5_copy_138 rfl ?_
  refine gf_iload (q := 141) dX5_copy_139 rfl rfl ?_
  refine gf_iadd (q := 142) dX5_copy_141 rfl ?_
  refine gf_iload (q := 144) dX5_copy_142 rfl rfl ?_
  refine gf_iadd (q := 145) dX5_copy_144 rfl ?_
  refine gf_aload_n (i := 0) (q := 146) dX5_copy_145 rfl rfl rfl ?_
  refine gf_getA (C := RX5) (T := TX5) (N := 33) (ci := 5) (k := 35) (j := 1) (t := 37) (q := 149) dX5_copy_146 rfl rfl kin5 (by decide) kw605 rfl rfl ?_
  refine gf_bipush (q := 151) dX5_copy_149 kb_40 rfl ?_
  refine gf_iload_n (i := 1) (q := 152) dX5_copy_151 rfl rfl rfl ?_
  refine gf_imul (q := 153) dX5_copy_152 rfl ?_
  refine gf_iload_n (i := 2) (q := 154) dX5_copy_153 rfl rfl rfl ?_
  refine gf_iadd (q := 155) dX5_copy_154 rfl ?_
  refine gf_iload (q := 157) dX5_copy_155 rfl rfl ?_
  refine gf_iadd (q := 158) dX5_copy_157 rfl ?_
  refine gf_iald (q := 159) dX5_copy_158 rfl ?_
  refine gf_iast (q := 160) dX5_copy_159 rfl ?_
  refine gf_iinc (v := (v6 + 1)) (lv2 := [some (.ref 35), some (.int v1), some (.int v2), some (.int v3), some (.int v4), some (.int v5), some (.int (v6 + 1)), some (.int s0)]) (q := 163) dX5_copy_160 rfl (congrArg _ ki_1) (by decide) rfl rfl ?_
  refine gf_goto (q := 104) dX5_copy_163 (by decide) ?_
  exact gf_mask (b := [true, true, true, true, true, true, true, false]) rfl (hk104 v1 v2 v3 v4 v5 (v6 + 1) (wi u 37 (Int32.toNatClampNeg (((40 * v3) + v4) + s0)) (mi u 37 (Int32.toNatClampNeg (((40 * v1) + v2) + s0)))))
def F_X5_copy_104 : Nat → Int32 → Int32 → Int32 → Int32 → Int32 → Int32 → XM → Option (Int32 × XM)
  | 0, _, _, _, _, _, _, _ => none
  | n + 1, v1, v2, v3, v4, v5, v6, u => (if v5 ≤ v6 then some (1, u) else (if v4 ≤ v2 then F_X5_copy_129 (F_X5_copy_104 n) v1 v2 v3 v4 v5 v6 v6 u else F_X5_copy_129 (F_X5_copy_104 n) v1 v2 v3 v4 v5 v6 ((v5 - 1) - v6) u))
set_option maxRecDepth 20000 in
set_option maxHeartbeats 4000000 in
theorem T_X5_copy_104 : ∀ (n : Nat) (v1 : Int32) (v2 : Int32) (v3 : Int32) (v4 : Int32) (v5 : Int32) (v6 : Int32) (u : XM), GF E0 YY 3 yX5_copy cX5_copy 8 (some .int) 104 [some (.ref 35), some (.int v1), some (.int v2), some (.int v3), some (.int v4), some (.int v5), some (.int v6), none] [] u emI (F_X5_copy_104 n v1 v2 v3 v4 v5 v6 u) := by
  intro n
  induction n with
  | zero => intro v1 v2 v3 v4 v5 v6 u; exact gf_none
  | succ n ih =>
    intro v1 v2 v3 v4 v5 v6 u
    unfold F_X5_copy_104
    refine gf_iload (q := 106) dX5_copy_104 rfl rfl ?_
    refine gf_iload (q := 108) dX5_copy_106 rfl rfl ?_
    refine gf_icmp_ge (t := 166) (q := 111) dX5_copy_108 (by decide) rfl ?_ ?_
    · refine gf_iconst (q := 167) dX5_copy_166 ki_1 rfl ?_
      exact gf_reti dX5_copy_167 rfl
    · refine gf_iload (q := 113) dX5_copy_111 rfl rfl ?_
      refine gf_iload_n (i := 2) (q := 114) dX5_copy_113 rfl rfl rfl ?_
      refine gf_icmp_le (t := 127) (q := 117) dX5_copy_114 (by decide) rfl ?_ ?_
      · refine gf_iload (q := 129) dX5_copy_127 rfl rfl ?_
        exact (T_X5_copy_129 (F_X5_copy_104 n) ih v1 v2 v3 v4 v5 v6 v6 u)
      · refine gf_iload (q := 119) dX5_copy_117 rfl rfl ?_
        refine gf_iconst (q := 120) dX5_copy_119 ki_1 rfl ?_
        refine gf_isub (q := 121) dX5_copy_120 rfl ?_
        refine gf_iload (q := 123) dX5_copy_121 rfl rfl ?_
        refine gf_isub (q := 124) dX5_copy_123 rfl ?_
        refine gf_goto (q := 129) dX5_copy_124 (by decide) ?_
        exact (T_X5_copy_129 (F_X5_copy_104 n) ih v1 v2 v3 v4 v5 v6 ((v5 - 1) - v6) u)
def F_X5_copy_95  (u : XM) : Option (Int32 × XM) := (Option.bind (F_X5_found 2 u) (fun x1 => some (x1.1, x1.2)))
set_option maxRecDepth 20000 in
set_option maxHeartbeats 4000000 in
theorem T_X5_copy_95  (u : XM) : GF E0 YY 3 yX5_copy cX5_copy 8 (some .int) 95 [some (.ref 35), none, none, none, none, none, none, none] [] u emI (F_X5_copy_95 u) := by
  unfold F_X5_copy_95
  refine gf_aload_n (i := 0) (q := 96) dX5_copy_95 rfl rfl rfl ?_
  refine gf_iconst (q := 97) dX5_copy_96 ki_2 rfl ?_
  refine gf_callV_i (n2 := 1) (As := [.int 2]) (st := []) (b := 35) (ci := 5) (C := RX5) (q := 100) (hlen := rfl) rfl rfl kw716 kw718 kp12 dX5_copy_97 kw719 kw7 (by decide +kernel) (by decide) (Nat.le_of_ble_eq_true rfl) (C_X5_found 2 u) rfl rfl (fun x1 => ?_)
  exact gf_reti dX5_copy_100 rfl
def F_X5_copy_45  (u : XM) : Option (Int32 × XM) := (Option.bind (F_X5_found 1 u) (fun x2 => some (x2.1, x2.2)))
set_option maxRecDepth 20000 in
set_option maxHeartbeats 4000000 in
theorem T_X5_copy_45  (u : XM) : GF E0 YY 3 yX5_copy cX5_copy 8 (some .int) 45 [some (.ref 35), none, none, none, none, none, none, none] [] u emI (F_X5_copy_45 u) := by
  unfold F_X5_copy_45
  refine gf_aload_n (i := 0) (q := 46) dX5_copy_45 rfl rfl rfl ?_
  refine gf_iconst (q := 47) dX5_copy_46 ki_1 rfl ?_
  refine gf_callV_i (n2 := 1) (As := [.int 1]) (st := []) (b := 35) (ci := 5) (C := RX5) (q := 50) (hlen := rfl) rfl rfl kw716 kw718 kp12 dX5_copy_47 kw719 kw7 (by decide +kernel) (by decide) (Nat.le_of_ble_eq_true rfl) (C_X5_found 1 u) rfl rfl (fun x2 => ?_)
  exact gf_reti dX5_copy_50 rfl
def F_X5_copy (v1 : Int32) (v2 : Int32) (v3 : Int32) (v4 : Int32) (v5 : Int32) (u : XM) : Option (Int32 × XM) := (Option.bind (F_X5_isRow v1 u) (fun x3 => (if x3.1 = 0 then some ((-1), x3.2) else (Option.bind (F_X5_isRow v3 x3.2) (fun x4 => (if x4.1 = 0 then some ((-1), x4.2) else (if 0 ≤ v5 then (if ain YY 0 36 v1 = true then (if (mi x4.2 36 (Int32.toNatClampNeg v1)) < 0 then F_X5_copy_45 x4.2 else (if ain YY 0 36 v3 = true then (if 0 ≤ (mi x4.2 36 (Int32.toNatClampNeg v3)) then (if v2 < 0 then F_X5_copy_95 x4.2 else (if v4 < 0 then F_X5_copy_95 x4.2 else (if ain YY 0 36 v1 = true then (if 0 < (lg_cmp ((Int32.toInt64 v2) + (Int32.toInt64 v5)) (Int32.toInt64 (mi x4.2 36 (Int32.toNatClampNeg v1)))) then F_X5_copy_95 x4.2 else (if ain YY 0 36 v3 = true then (if (lg_cmp ((Int32.toInt64 v4) + (Int32.toInt64 v5)) (Int32.toInt64 (mi x4.2 36 (Int32.toNatClampNeg v3)))) ≤ 0 then F_X5_copy_104 FU v1 v2 v3 v4 v5 0 x4.2 else F_X5_copy_95 x4.2) else none)) else none))) else F_X5_copy_45 x4.2) else none)) else none) else (Option.bind (F_X5_found 5 x4.2) (fun x5 => some (x5.1, x5.2))))))))))
set_option maxRecDepth 20000 in
set_option maxHeartbeats 4000000 in
theorem T_X5_copy (v1 : Int32) (v2 : Int32) (v3 : Int32) (v4 : Int32) (v5 : Int32) (u : XM) : GF E0 YY 3 yX5_copy cX5_copy 8 (some .int) 0 [some (.ref 35), some (.int v1), some (.int v2), some (.int v3), some (.int v4), some (.int v5), none, none] [] u emI (F_X5_copy v1 v2 v3 v4 v5 u) := by
  unfold F_X5_copy
  refine gf_iload_n (i := 1) (q := 1) dX5_copy_0 rfl rfl rfl ?_
  refine gf_callS_i (n2 := 1) (As := [.int v1]) (st := []) (q := 4) (hlen := rfl) kw709 kw710 dX5_copy_1 kw711 kw7 (by decide +kernel) (by decide) (Nat.le_of_ble_eq_true rfl) (C_X5_isRow v1 u) rfl rfl (fun x3 => ?_)
  refine gf_if_eq (t := 14) (q := 7) dX5_copy_4 (by decide) rfl ?_ ?_
  · refine gf_iconst (q := 15) dX5_copy_14 ki_m1 rfl ?_
    exact gf_reti dX5_copy_15 rfl
  · refine gf_iload_n (i := 3) (q := 8) dX5_copy_7 rfl rfl rfl ?_
    refine gf_callS_i (n2 := 1) (As := [.int v3]) (st := []) (q := 11) (hlen := rfl) kw709 kw710 dX5_copy_8 kw711 kw7 (by decide +kernel) (by decide) (Nat.le_of_ble_eq_true rfl) (C_X5_isRow v3 x3.2) rfl rfl (fun x4 => ?_)
    refine gf_if_ne (t := 16) (q := 14) dX5_copy_11 (by decide) rfl ?_ ?_
    · refine gf_iconst (q := 15) dX5_copy_14 ki_m1 rfl ?_
      exact gf_reti dX5_copy_15 rfl
    · refine gf_iload (q := 18) dX5_copy_16 rfl rfl ?_
      refine gf_if_ge (t := 27) (q := 21) dX5_copy_18 (by decide) rfl ?_ ?_
      · refine gf_aload_n (i := 0) (q := 28) dX5_copy_27 rfl rfl rfl ?_
        refine gf_getA (C := RX5) (T := TX5) (N := 33) (ci := 5) (k := 35) (j := 0) (t := 36) (q := 31) dX5_copy_28 rfl rfl kin5 (by decide) kw604 rfl rfl ?_
        refine gf_iload_n (i := 1) (q := 32) dX5_copy_31 rfl rfl rfl ?_
        refine gf_iald (q := 33) dX5_copy_32 rfl ?_
        refine gf_if_lt (t := 45) (q := 36) dX5_copy_33 (by decide) rfl ?_ ?_
        · exact gf_mask (b := [true, false, false, false, false, false, false, false]) rfl (T_X5_copy_45 x4.2)
        · refine gf_aload_n (i := 0) (q := 37) dX5_copy_36 rfl rfl rfl ?_
          refine gf_getA (C := RX5) (T := TX5) (N := 33) (ci := 5) (k := 35) (j := 0) (t := 36) (q := 40) dX5_copy_37 rfl rfl kin5 (by decide) kw604 rfl rfl ?_
          refine gf_iload_n (i := 3) (q := 41) dX5_copy_40 rfl rfl rfl ?_
          refine gf_iald (q := 42) dX5_copy_41 rfl ?_
          refine gf_if_ge (t := 51) (q := 45) dX5_copy_42 (by decide) rfl ?_ ?_
          · refine gf_iload_n (i := 2) (q := 52) dX5_copy_51 rfl rfl rfl ?_
            refine gf_if_lt (t := 95) (q := 55) dX5_copy_52 (by decide) rfl ?_ ?_
            · exact gf_mask (b := [true, false, false, false, false, false, false, false]) rfl (T_X5_copy_95 x4.2)
            · refine gf_iload (q := 57) dX5_copy_55 rfl rfl ?_
              refine gf_if_lt (t := 95) (q := 60) dX5_copy_57 (by decide) rfl ?_ ?_
              · exact gf_mask (b := [true, false, false, false, false, false, false, false]) rfl (T_X5_copy_95 x4.2)
              · refine gf_iload_n (i := 2) (q := 61) dX5_copy_60 rfl rfl rfl ?_
                refine gf_i2l (q := 62) dX5_copy_61 rfl ?_
                refine gf_iload (q := 64) dX5_copy_62 rfl rfl ?_
                refine gf_i2l (q := 65) dX5_copy_64 rfl ?_
                refine gf_ladd (q := 66) dX5_copy_65 rfl ?_
                refine gf_aload_n (i := 0) (q := 67) dX5_copy_66 rfl rfl rfl ?_
                refine gf_getA (C := RX5) (T := TX5) (N := 33) (ci := 5) (k := 35) (j := 0) (t := 36) (q := 70) dX5_copy_67 rfl rfl kin5 (by decide) kw604 rfl rfl ?_
                refine gf_iload_n (i := 1) (q := 71) dX5_copy_70 rfl rfl rfl ?_
                refine gf_iald (q := 72) dX5_copy_71 rfl ?_
                refine gf_i2l (q := 73) dX5_copy_72 rfl ?_
                refine gf_lcmp (q := 74) dX5_copy_73 rfl ?_
                refine gf_if_gt (t := 95) (q := 77) dX5_copy_74 (by decide) rfl ?_ ?_
                · exact gf_mask (b := [true, false, false, false, false, false, false, false]) rfl (T_X5_copy_95 x4.2)
                · refine gf_iload (q := 79) dX5_copy_77 rfl rfl ?_
                  refine gf_i2l (q := 80) dX5_copy_79 rfl ?_
                  refine gf_iload (q := 82) dX5_copy_80 rfl rfl ?_
                  refine gf_i2l (q := 83) dX5_copy_82 rfl ?_
                  refine gf_ladd (q := 84) dX5_copy_83 rfl ?_
                  refine gf_aload_n (i := 0) (q := 85) dX5_copy_84 rfl rfl rfl ?_
                  refine gf_getA (C := RX5) (T := TX5) (N := 33) (ci := 5) (k := 35) (j := 0) (t := 36) (q := 88) dX5_copy_85 rfl rfl kin5 (by decide) kw604 rfl rfl ?_
                  refine gf_iload_n (i := 3) (q := 89) dX5_copy_88 rfl rfl rfl ?_
                  refine gf_iald (q := 90) dX5_copy_89 rfl ?_
                  refine gf_i2l (q := 91) dX5_copy_90 rfl ?_
                  refine gf_lcmp (q := 92) dX5_copy_91 rfl ?_
                  refine gf_if_le (t := 101) (q := 95) dX5_copy_92 (by decide) rfl ?_ ?_
                  · refine gf_iconst (q := 102) dX5_copy_101 ki_0 rfl ?_
                    refine gf_istore (lv2 := [some (.ref 35), some (.int v1), some (.int v2), some (.int v3), some (.int v4), some (.int v5), some (.int 0), none]) (q := 104) dX5_copy_102 (by decide) rfl rfl ?_
                    exact (T_X5_copy_104 FU v1 v2 v3 v4 v5 0 x4.2)
                  · exact gf_mask (b := [true, false, false, false, false, false, false, false]) rfl (T_X5_copy_95 x4.2)
          · exact gf_mask (b := [true, false, false, false, false, false, false, false]) rfl (T_X5_copy_45 x4.2)
      · refine gf_aload_n (i := 0) (q := 22) dX5_copy_21 rfl rfl rfl ?_
        refine gf_iconst (q := 23) dX5_copy_22 ki_5 rfl ?_
        refine gf_callV_i (n2 := 1) (As := [.int 5]) (st := []) (b := 35) (ci := 5) (C := RX5) (q := 26) (hlen := rfl) rfl rfl kw716 kw718 kp12 dX5_copy_23 kw719 kw7 (by decide +kernel) (by decide) (Nat.le_of_ble_eq_true rfl) (C_X5_found 5 x4.2) rfl rfl (fun x5 => ?_)
        exact gf_reti dX5_copy_26 rfl
theorem C_X5_copy (v1 : Int32) (v2 : Int32) (v3 : Int32) (v4 : Int32) (v5 : Int32) (u : XM) : CF YY 3 yX5_copy cX5_copy 8 (some .int) [.ref 35, .int v1, .int v2, .int v3, .int v4, .int v5] u emI (F_X5_copy v1 v2 v3 v4 v5 u) := cf_of (by decide +kernel) (Nat.le_of_ble_eq_true rfl) rfl (T_X5_copy v1 v2 v3 v4 v5 u)
def F_X5_mean_44 : Nat → Int32 → Int64 → Int32 → XM → Option (Int32 × XM)
  | 0, _, _, _, _ => none
  | n + 1, v1, v2, v4, u => (if ain YY 0 36 v1 = true then (if (mi u 36 (Int32.toNatClampNeg v1)) ≤ v4 then (if ain YY 0 36 v1 = true then (if (Int32.toInt64 (mi u 36 (Int32.toNatClampNeg v1))) = 0 then none else (Option.bind (F_X5_tell (Int64.toInt32 (v2 / (Int32.toInt64 (mi u 36 (Int32.toNatClampNeg v1))))) u) (fun x1 => some (x1.1, x1.2)))) else none) else (if ain YY 0 37 ((40 * v1) + v4) = true then F_X5_mean_44 n v1 (v2 + (Int32.toInt64 (mi u 37 (Int32.toNatClampNeg ((40 * v1) + v4))))) (v4 + 1) u else none)) else none)
set_option maxRecDepth 20000 in
set_option maxHeartbeats 4000000 in
theorem T_X5_mean_44 : ∀ (n : Nat) (v1 : Int32) (v2 : Int64) (v4 : Int32) (u : XM), GF E0 YY 3 yX5_mean cX5_mean 5 (some .int) 44 [some (.ref 35), some (.int v1), some (.long v2), none, some (.int v4)] [] u emI (F_X5_mean_44 n v1 v2 v4 u) := by
  intro n
  induction n with
  | zero => intro v1 v2 v4 u; exact gf_none
  | succ n ih =>
    intro v1 v2 v4 u
    unfold F_X5_mean_44
    refine gf_iload (q := 46) dX5_mean_44 rfl rfl ?_
    refine gf_aload_n (i := 0) (q := 47) dX5_mean_46 rfl rfl rfl ?_
    refine gf_getA (C := RX5) (T := TX5) (N := 33) (ci := 5) (k := 35) (j := 0) (t := 36) (q := 50) dX5_mean_47 rfl rfl kin5 (by decide) kw604 rfl rfl ?_
    refine gf_iload_n (i := 1) (q := 51) dX5_mean_50 rfl rfl rfl ?_
    refine gf_iald (q := 52) dX5_mean_51 rfl ?_
    refine gf_icmp_ge (t := 77) (q := 55) dX5_mean_52 (by decide) rfl ?_ ?_
    · refine gf_aload_n (i := 0) (q := 78) dX5_mean_77 rfl rfl rfl ?_
      refine gf_lload_n (i := 2) (q := 79) dX5_mean_78 rfl rfl rfl ?_
      refine gf_aload_n (i := 0) (q := 80) dX5_mean_79 rfl rfl rfl ?_
      refine gf_getA (C := RX5) (T := TX5) (N := 33) (ci := 5) (k := 35) (j := 0) (t := 36) (q := 83) dX5_mean_80 rfl rfl kin5 (by decide) kw604 rfl rfl ?_
      refine gf_iload_n (i := 1) (q := 84) dX5_mean_83 rfl rfl rfl ?_
      refine gf_iald (q := 85) dX5_mean_84 rfl ?_
      refine gf_i2l (q := 86) dX5_mean_85 rfl ?_
      refine gf_ldiv (q := 87) dX5_mean_86 rfl ?_
      refine gf_l2i (q := 88) dX5_mean_87 rfl ?_
      refine gf_callV_i (n2 := 1) (As := [.int (Int64.toInt32 (v2 / (Int32.toInt64 (mi u 36 (Int32.toNatClampNeg v1)))))]) (st := []) (b := 35) (ci := 5) (C := RX5) (q := 91) (hlen := rfl) rfl rfl kw724 kw726 kp13 dX5_mean_88 kw727 kw7 (by decide +kernel) (by decide) (Nat.le_of_ble_eq_true rfl) (C_X5_tell (Int64.toInt32 (v2 / (Int32.toInt64 (mi u 36 (Int32.toNatClampNeg v1))))) u) rfl rfl (fun x1 => ?_)
      exact gf_reti dX5_mean_91 rfl
    · refine gf_lload_n (i := 2) (q := 56) dX5_mean_55 rfl rfl rfl ?_
      refine gf_aload_n (i := 0) (q := 57) dX5_mean_56 rfl rfl rfl ?_
      refine gf_getA (C := RX5) (T := TX5) (N := 33) (ci := 5) (k := 35) (j := 1) (t := 37) (q := 60) dX5_mean_57 rfl rfl kin5 (by decide) kw605 rfl rfl ?_
      refine gf_bipush (q := 62) dX5_mean_60 kb_40 rfl ?_
      refine gf_iload_n (i := 1) (q := 63) dX5_mean_62 rfl rfl rfl ?_
      refine gf_imul (q := 64) dX5_mean_63 rfl ?_
      refine gf_iload (q := 66) dX5_mean_64 rfl rfl ?_
      refine gf_iadd (q := 67) dX5_mean_66 rfl ?_
      refine gf_iald (q := 68) dX5_mean_67 rfl ?_
      refine gf_i2l (q := 69) dX5_mean_68 rfl ?_
      refine gf_ladd (q := 70) dX5_mean_69 rfl ?_
      refine gf_lstore_n (i := 2) (lv2 := [some (.ref 35), some (.int v1), some (.long (v2 + (Int32.toInt64 (mi u 37 (Int32.toNatClampNeg ((40 * v1) + v4)))))), none, some (.int v4)]) (q := 71) dX5_mean_70 rfl (by decide) rfl rfl ?_
      refine gf_iinc (v := (v4 + 1)) (lv2 := [some (.ref 35), some (.int v1), some (.long (v2 + (Int32.toInt64 (mi u 37 (Int32.toNatClampNeg ((40 * v1) + v4)))))), none, some (.int (v4 + 1))]) (q := 74) dX5_mean_71 rfl (congrArg _ ki_1) (by decide) rfl rfl ?_
      refine gf_goto (q := 44) dX5_mean_74 (by decide) ?_
      exact (ih v1 (v2 + (Int32.toInt64 (mi u 37 (Int32.toNatClampNeg ((40 * v1) + v4))))) (v4 + 1) u)
def F_X5_mean (v1 : Int32) (u : XM) : Option (Int32 × XM) := (Option.bind (F_X5_isRow v1 u) (fun x2 => (if x2.1 = 0 then some ((-1), x2.2) else (if ain YY 0 36 v1 = true then (if 0 ≤ (mi x2.2 36 (Int32.toNatClampNeg v1)) then (if ain YY 0 36 v1 = true then (if (mi x2.2 36 (Int32.toNatClampNeg v1)) = 0 then (Option.bind (F_X5_found 4 x2.2) (fun x3 => some (x3.1, x3.2))) else F_X5_mean_44 FU v1 0 0 x2.2) else none) else (Option.bind (F_X5_found 1 x2.2) (fun x4 => some (x4.1, x4.2)))) else none))))
set_option maxRecDepth 20000 in
set_option maxHeartbeats 4000000 in
theorem T_X5_mean (v1 : Int32) (u : XM) : GF E0 YY 3 yX5_mean cX5_mean 5 (some .int) 0 [some (.ref 35), some (.int v1), none, none, none] [] u emI (F_X5_mean v1 u) := by
  unfold F_X5_mean
  refine gf_iload_n (i := 1) (q := 1) dX5_mean_0 rfl rfl rfl ?_
  refine gf_callS_i (n2 := 1) (As := [.int v1]) (st := []) (q := 4) (hlen := rfl) kw709 kw710 dX5_mean_1 kw711 kw7 (by decide +kernel) (by decide) (Nat.le_of_ble_eq_true rfl) (C_X5_isRow v1 u) rfl rfl (fun x2 => ?_)
  refine gf_if_ne (t := 9) (q := 7) dX5_mean_4 (by decide) rfl ?_ ?_
  · refine gf_iconst (q := 8) dX5_mean_7 ki_m1 rfl ?_
    exact gf_reti dX5_mean_8 rfl
  · refine gf_aload_n (i := 0) (q := 10) dX5_mean_9 rfl rfl rfl ?_
    refine gf_getA (C := RX5) (T := TX5) (N := 33) (ci := 5) (k := 35) (j := 0) (t := 36) (q := 13) dX5_mean_10 rfl rfl kin5 (by decide) kw604 rfl rfl ?_
    refine gf_iload_n (i := 1) (q := 14) dX5_mean_13 rfl rfl rfl ?_
    refine gf_iald (q := 15) dX5_mean_14 rfl ?_
    refine gf_if_ge (t := 24) (q := 18) dX5_mean_15 (by decide) rfl ?_ ?_
    · refine gf_aload_n (i := 0) (q := 25) dX5_mean_24 rfl rfl rfl ?_
      refine gf_getA (C := RX5) (T := TX5) (N := 33) (ci := 5) (k := 35) (j := 0) (t := 36) (q := 28) dX5_mean_25 rfl rfl kin5 (by decide) kw604 rfl rfl ?_
      refine gf_iload_n (i := 1) (q := 29) dX5_mean_28 rfl rfl rfl ?_
      refine gf_iald (q := 30) dX5_mean_29 rfl ?_
      refine gf_if_ne (t := 39) (q := 33) dX5_mean_30 (by decide) rfl ?_ ?_
      · refine gf_aload_n (i := 0) (q := 34) dX5_mean_33 rfl rfl rfl ?_
        refine gf_iconst (q := 35) dX5_mean_34 ki_4 rfl ?_
        refine gf_callV_i (n2 := 1) (As := [.int 4]) (st := []) (b := 35) (ci := 5) (C := RX5) (q := 38) (hlen := rfl) rfl rfl kw716 kw718 kp12 dX5_mean_35 kw719 kw7 (by decide +kernel) (by decide) (Nat.le_of_ble_eq_true rfl) (C_X5_found 4 x2.2) rfl rfl (fun x3 => ?_)
        exact gf_reti dX5_mean_38 rfl
      · refine gf_lconst (v := 0) (q := 40) dX5_mean_39 rfl rfl ?_
        refine gf_lstore_n (i := 2) (lv2 := [some (.ref 35), some (.int v1), some (.long 0), none, none]) (q := 41) dX5_mean_40 rfl (by decide) rfl rfl ?_
        refine gf_iconst (q := 42) dX5_mean_41 ki_0 rfl ?_
        refine gf_istore (lv2 := [some (.ref 35), some (.int v1), some (.long 0), none, some (.int 0)]) (q := 44) dX5_mean_42 (by decide) rfl rfl ?_
        exact (T_X5_mean_44 FU v1 0 0 x2.2)
    · refine gf_aload_n (i := 0) (q := 19) dX5_mean_18 rfl rfl rfl ?_
      refine gf_iconst (q := 20) dX5_mean_19 ki_1 rfl ?_
      refine gf_callV_i (n2 := 1) (As := [.int 1]) (st := []) (b := 35) (ci := 5) (C := RX5) (q := 23) (hlen := rfl) rfl rfl kw716 kw718 kp12 dX5_mean_20 kw719 kw7 (by decide +kernel) (by decide) (Nat.le_of_ble_eq_true rfl) (C_X5_found 1 x2.2) rfl rfl (fun x4 => ?_)
      exact gf_reti dX5_mean_23 rfl
theorem C_X5_mean (v1 : Int32) (u : XM) : CF YY 3 yX5_mean cX5_mean 5 (some .int) [.ref 35, .int v1] u emI (F_X5_mean v1 u) := cf_of (by decide +kernel) (Nat.le_of_ble_eq_true rfl) rfl (T_X5_mean v1 u)
def F_X5_text_34 : Nat → Int32 → Int32 → Int32 → XM → Option (Int32 × XM)
  | 0, _, _, _, _ => none
  | n + 1, v1, v2, v3, u => (if 60 ≤ v3 then some (v2, u) else (if ain YY 0 39 ((60 * v1) + v3) = true then F_X5_text_34 n v1 v2 (v3 + 1) (wi u 39 (Int32.toNatClampNeg ((60 * v1) + v3)) 32) else none))
set_option maxRecDepth 20000 in
set_option maxHeartbeats 4000000 in
theorem T_X5_text_34 : ∀ (n : Nat) (v1 : Int32) (v2 : Int32) (v3 : Int32) (u : XM), GF E0 YY 3 yX5_text cX5_text 4 (some .int) 34 [some (.ref 35), some (.int v1), some (.int v2), some (.int v3)] [] u emI (F_X5_text_34 n v1 v2 v3 u) := by
  intro n
  induction n with
  | zero => intro v1 v2 v3 u; exact gf_none
  | succ n ih =>
    intro v1 v2 v3 u
    unfold F_X5_text_34
    refine gf_iload_n (i := 3) (q := 35) dX5_text_34 rfl rfl rfl ?_
    refine gf_bipush (q := 37) dX5_text_35 kb_60 rfl ?_
    refine gf_icmp_ge (t := 59) (q := 40) dX5_text_37 (by decide) rfl ?_ ?_
    · refine gf_iload_n (i := 2) (q := 60) dX5_text_59 rfl rfl rfl ?_
      exact gf_reti dX5_text_60 rfl
    · refine gf_aload_n (i := 0) (q := 41) dX5_text_40 rfl rfl rfl ?_
      refine gf_getA (C := RX5) (T := TX5) (N := 33) (ci := 5) (k := 35) (j := 3) (t := 39) (q := 44) dX5_text_41 rfl rfl kin5 (by decide) kw607 rfl rfl ?_
      refine gf_bipush (q := 46) dX5_text_44 kb_60 rfl ?_
      refine gf_iload_n (i := 1) (q := 47) dX5_text_46 rfl rfl rfl ?_
      refine gf_imul (q := 48) dX5_text_47 rfl ?_
      refine gf_iload_n (i := 3) (q := 49) dX5_text_48 rfl rfl rfl ?_
      refine gf_iadd (q := 50) dX5_text_49 rfl ?_
      refine gf_bipush (q := 52) dX5_text_50 kb_32 rfl ?_
      refine gf_iast (q := 53) dX5_text_52 rfl ?_
      refine gf_iinc (v := (v3 + 1)) (lv2 := [some (.ref 35), some (.int v1), some (.int v2), some (.int (v3 + 1))]) (q := 56) dX5_text_53 rfl (congrArg _ ki_1) (by decide) rfl rfl ?_
      refine gf_goto (q := 34) dX5_text_56 (by decide) ?_
      exact (ih v1 v2 (v3 + 1) (wi u 39 (Int32.toNatClampNeg ((60 * v1) + v3)) 32))
def F_X5_text (v1 : Int32) (v2 : Int32) (u : XM) : Option (Int32 × XM) := (Option.bind (F_X5_isText v1 u) (fun x1 => (if x1.1 = 0 then some ((-1), x1.2) else (if v2 ≤ 60 then (if 0 ≤ v2 then (if ain YY 0 38 v1 = true then F_X5_text_34 FU v1 v2 0 (wi x1.2 38 (Int32.toNatClampNeg v1) v2) else none) else (Option.bind (F_X5_found 5 x1.2) (fun x2 => some (x2.1, x2.2)))) else some ((-1), x1.2)))))
set_option maxRecDepth 20000 in
set_option maxHeartbeats 4000000 in
theorem T_X5_text (v1 : Int32) (v2 : Int32) (u : XM) : GF E0 YY 3 yX5_text cX5_text 4 (some .int) 0 [some (.ref 35), some (.int v1), some (.int v2), none] [] u emI (F_X5_text v1 v2 u) := by
  unfold F_X5_text
  refine gf_iload_n (i := 1) (q := 1) dX5_text_0 rfl rfl rfl ?_
  refine gf_callS_i (n2 := 1) (As := [.int v1]) (st := []) (q := 4) (hlen := rfl) kw748 kw749 dX5_text_1 kw750 kw7 (by decide +kernel) (by decide) (Nat.le_of_ble_eq_true rfl) (C_X5_isText v1 u) rfl rfl (fun x1 => ?_)
  refine gf_if_eq (t := 13) (q := 7) dX5_text_4 (by decide) rfl ?_ ?_
  · refine gf_iconst (q := 14) dX5_text_13 ki_m1 rfl ?_
    exact gf_reti dX5_text_14 rfl
  · refine gf_iload_n (i := 2) (q := 8) dX5_text_7 rfl rfl rfl ?_
    refine gf_bipush (q := 10) dX5_text_8 kb_60 rfl ?_
    refine gf_icmp_le (t := 15) (q := 13) dX5_text_10 (by decide) rfl ?_ ?_
    · refine gf_iload_n (i := 2) (q := 16) dX5_text_15 rfl rfl rfl ?_
      refine gf_if_ge (t := 25) (q := 19) dX5_text_16 (by decide) rfl ?_ ?_
      · refine gf_aload_n (i := 0) (q := 26) dX5_text_25 rfl rfl rfl ?_
        refine gf_getA (C := RX5) (T := TX5) (N := 33) (ci := 5) (k := 35) (j := 2) (t := 38) (q := 29) dX5_text_26 rfl rfl kin5 (by decide) kw606 rfl rfl ?_
        refine gf_iload_n (i := 1) (q := 30) dX5_text_29 rfl rfl rfl ?_
        refine gf_iload_n (i := 2) (q := 31) dX5_text_30 rfl rfl rfl ?_
        refine gf_iast (q := 32) dX5_text_31 rfl ?_
        refine gf_iconst (q := 33) dX5_text_32 ki_0 rfl ?_
        refine gf_istore_n (i := 3) (lv2 := [some (.ref 35), some (.int v1), some (.int v2), some (.int 0)]) (q := 34) dX5_text_33 rfl (by decide) rfl rfl ?_
        exact (T_X5_text_34 FU v1 v2 0 (wi x1.2 38 (Int32.toNatClampNeg v1) v2))
      · refine gf_aload_n (i := 0) (q := 20) dX5_text_19 rfl rfl rfl ?_
        refine gf_iconst (q := 21) dX5_text_20 ki_5 rfl ?_
        refine gf_callV_i (n2 := 1) (As := [.int 5]) (st := []) (b := 35) (ci := 5) (C := RX5) (q := 24) (hlen := rfl) rfl rfl kw716 kw718 kp12 dX5_text_21 kw719 kw7 (by decide +kernel) (by decide) (Nat.le_of_ble_eq_true rfl) (C_X5_found 5 x1.2) rfl rfl (fun x2 => ?_)
        exact gf_reti dX5_text_24 rfl
    · refine gf_iconst (q := 14) dX5_text_13 ki_m1 rfl ?_
      exact gf_reti dX5_text_14 rfl
theorem C_X5_text (v1 : Int32) (v2 : Int32) (u : XM) : CF YY 3 yX5_text cX5_text 4 (some .int) [.ref 35, .int v1, .int v2] u emI (F_X5_text v1 v2 u) := cf_of (by decide +kernel) (Nat.le_of_ble_eq_true rfl) rfl (T_X5_text v1 v2 u)
def F_X5_put (v1 : Int32) (v2 : Int32) (v3 : Int32) (u : XM) : Option (Int32 × XM) := (Option.bind (F_X5_isText v1 u) (fun x1 => (if x1.1 = 0 then some ((-1), x1.2) else (if ain YY 0 38 v1 = true then (if 0 ≤ (mi x1.2 38 (Int32.toNatClampNeg v1)) then (if ain YY 0 38 v1 = true then (Option.bind (F_X5_in (Int32.toInt64 v2) 0 (Int32.toInt64 ((mi x1.2 38 (Int32.toNatClampNeg v1)) - 1)) x1.2) (fun x2 => (if x2.1 = 0 then (Option.bind (F_X5_found 2 x2.2) (fun x3 => some (x3.1, x3.2))) else (if ain YY 0 39 ((60 * v1) + v2) = true then (if ain YY 0 39 ((60 * v1) + v2) = true then some (((mi x2.2 39 (Int32.toNatClampNeg ((60 * v1) + v2))) + 1000), (wi x2.2 39 (Int32.toNatClampNeg ((60 * v1) + v2)) (Int8.toInt32 (Int32.toInt8 v3)))) else none) else none)))) else none) else (Option.bind (F_X5_found 1 x1.2) (fun x4 => some (x4.1, x4.2)))) else none))))
set_option maxRecDepth 20000 in
set_option maxHeartbeats 4000000 in
theorem T_X5_put (v1 : Int32) (v2 : Int32) (v3 : Int32) (u : XM) : GF E0 YY 3 yX5_put cX5_put 5 (some .int) 0 [some (.ref 35), some (.int v1), some (.int v2), some (.int v3), none] [] u emI (F_X5_put v1 v2 v3 u) := by
  unfold F_X5_put
  refine gf_iload_n (i := 1) (q := 1) dX5_put_0 rfl rfl rfl ?_
  refine gf_callS_i (n2 := 1) (As := [.int v1]) (st := []) (q := 4) (hlen := rfl) kw748 kw749 dX5_put_1 kw750 kw7 (by decide +kernel) (by decide) (Nat.le_of_ble_eq_true rfl) (C_X5_isText v1 u) rfl rfl (fun x1 => ?_)
  refine gf_if_ne (t := 9) (q := 7) dX5_put_4 (by decide) rfl ?_ ?_
  · refine gf_iconst (q := 8) dX5_put_7 ki_m1 rfl ?_
    exact gf_reti dX5_put_8 rfl
  · refine gf_aload_n (i := 0) (q := 10) dX5_put_9 rfl rfl rfl ?_
    refine gf_getA (C := RX5) (T := TX5) (N := 33) (ci := 5) (k := 35) (j := 2) (t := 38) (q := 13) dX5_put_10 rfl rfl kin5 (by decide) kw606 rfl rfl ?_
    refine gf_iload_n (i := 1) (q := 14) dX5_put_13 rfl rfl rfl ?_
    refine gf_iald (q := 15) dX5_put_14 rfl ?_
    refine gf_if_ge (t := 24) (q := 18) dX5_put_15 (by decide) rfl ?_ ?_
    · refine gf_iload_n (i := 2) (q := 25) dX5_put_24 rfl rfl rfl ?_
      refine gf_i2l (q := 26) dX5_put_25 rfl ?_
      refine gf_lconst (v := 0) (q := 27) dX5_put_26 rfl rfl ?_
      refine gf_aload_n (i := 0) (q := 28) dX5_put_27 rfl rfl rfl ?_
      refine gf_getA (C := RX5) (T := TX5) (N := 33) (ci := 5) (k := 35) (j := 2) (t := 38) (q := 31) dX5_put_28 rfl rfl kin5 (by decide) kw606 rfl rfl ?_
      refine gf_iload_n (i := 1) (q := 32) dX5_put_31 rfl rfl rfl ?_
      refine gf_iald (q := 33) dX5_put_32 rfl ?_
      refine gf_iconst (q := 34) dX5_put_33 ki_1 rfl ?_
      refine gf_isub (q := 35) dX5_put_34 rfl ?_
      refine gf_i2l (q := 36) dX5_put_35 rfl ?_
      refine gf_callS_i (n2 := 3) (As := [.long (Int32.toInt64 v2), .long 0, .long (Int32.toInt64 ((mi x1.2 38 (Int32.toNatClampNeg v1)) - 1))]) (st := []) (q := 39) (hlen := rfl) kw713 kw714 dX5_put_36 kw715 kw7 (by decide +kernel) (by decide) (Nat.le_of_ble_eq_true rfl) (C_X5_in (Int32.toInt64 v2) 0 (Int32.toInt64 ((mi x1.2 38 (Int32.toNatClampNeg v1)) - 1)) x1.2) rfl rfl (fun x2 => ?_)
      refine gf_if_ne (t := 48) (q := 42) dX5_put_39 (by decide) rfl ?_ ?_
      · refine gf_aload_n (i := 0) (q := 43) dX5_put_42 rfl rfl rfl ?_
        refine gf_iconst (q := 44) dX5_put_43 ki_2 rfl ?_
        refine gf_callV_i (n2 := 1) (As := [.int 2]) (st := []) (b := 35) (ci := 5) (C := RX5) (q := 47) (hlen := rfl) rfl rfl kw716 kw718 kp12 dX5_put_44 kw719 kw7 (by decide +kernel) (by decide) (Nat.le_of_ble_eq_true rfl) (C_X5_found 2 x2.2) rfl rfl (fun x3 => ?_)
        exact gf_reti dX5_put_47 rfl
      · refine gf_aload_n (i := 0) (q := 49) dX5_put_48 rfl rfl rfl ?_
        refine gf_getA (C := RX5) (T := TX5) (N := 33) (ci := 5) (k := 35) (j := 3) (t := 39) (q := 52) dX5_put_49 rfl rfl kin5 (by decide) kw607 rfl rfl ?_
        refine gf_bipush (q := 54) dX5_put_52 kb_60 rfl ?_
        refine gf_iload_n (i := 1) (q := 55) dX5_put_54 rfl rfl rfl ?_
        refine gf_imul (q := 56) dX5_put_55 rfl ?_
        refine gf_iload_n (i := 2) (q := 57) dX5_put_56 rfl rfl rfl ?_
        refine gf_iadd (q := 58) dX5_put_57 rfl ?_
        refine gf_iald (q := 59) dX5_put_58 rfl ?_
        refine gf_istore (lv2 := [some (.ref 35), some (.int v1), some (.int v2), some (.int v3), some (.int (mi x2.2 39 (Int32.toNatClampNeg ((60 * v1) + v2))))]) (q := 61) dX5_put_59 (by decide) rfl rfl ?_
        refine gf_aload_n (i := 0) (q := 62) dX5_put_61 rfl rfl rfl ?_
        refine gf_getA (C := RX5) (T := TX5) (N := 33) (ci := 5) (k := 35) (j := 3) (t := 39) (q := 65) dX5_put_62 rfl rfl kin5 (by decide) kw607 rfl rfl ?_
        refine gf_bipush (q := 67) dX5_put_65 kb_60 rfl ?_
        refine gf_iload_n (i := 1) (q := 68) dX5_put_67 rfl rfl rfl ?_
        refine gf_imul (q := 69) dX5_put_68 rfl ?_
        refine gf_iload_n (i := 2) (q := 70) dX5_put_69 rfl rfl rfl ?_
        refine gf_iadd (q := 71) dX5_put_70 rfl ?_
        refine gf_iload_n (i := 3) (q := 72) dX5_put_71 rfl rfl rfl ?_
        refine gf_i2b (q := 73) dX5_put_72 rfl ?_
        refine gf_iast (q := 74) dX5_put_73 rfl ?_
        refine gf_iload (q := 76) dX5_put_74 rfl rfl ?_
        refine gf_sipush (q := 79) dX5_put_76 ks_1000 rfl ?_
        refine gf_iadd (q := 80) dX5_put_79 rfl ?_
        exact gf_reti dX5_put_80 rfl
    · refine gf_aload_n (i := 0) (q := 19) dX5_put_18 rfl rfl rfl ?_
      refine gf_iconst (q := 20) dX5_put_19 ki_1 rfl ?_
      refine gf_callV_i (n2 := 1) (As := [.int 1]) (st := []) (b := 35) (ci := 5) (C := RX5) (q := 23) (hlen := rfl) rfl rfl kw716 kw718 kp12 dX5_put_20 kw719 kw7 (by decide +kernel) (by decide) (Nat.le_of_ble_eq_true rfl) (C_X5_found 1 x1.2) rfl rfl (fun x4 => ?_)
      exact gf_reti dX5_put_23 rfl
theorem C_X5_put (v1 : Int32) (v2 : Int32) (v3 : Int32) (u : XM) : CF YY 3 yX5_put cX5_put 5 (some .int) [.ref 35, .int v1, .int v2, .int v3] u emI (F_X5_put v1 v2 v3 u) := cf_of (by decide +kernel) (Nat.le_of_ble_eq_true rfl) rfl (T_X5_put v1 v2 v3 u)
def F_X5_byteAt (v1 : Int32) (u : XM) : Option (Int32 × XM) := (if ain YY 0 38 v1 = true then (if (mi u 38 (Int32.toNatClampNeg v1)) ≤ (mi u 35 19) then some ((-1000), u) else (if ain YY 0 39 ((60 * v1) + (mi u 35 19)) = true then some ((mi u 39 (Int32.toNatClampNeg ((60 * v1) + (mi u 35 19)))), u) else none)) else none)
set_option maxRecDepth 20000 in
set_option maxHeartbeats 4000000 in
theorem T_X5_byteAt (v1 : Int32) (u : XM) : GF E0 YY 1 yX5_byteAt cX5_byteAt 2 (some .int) 0 [some (.ref 35), some (.int v1)] [] u emI (F_X5_byteAt v1 u) := by
  unfold F_X5_byteAt
  refine gf_aload_n (i := 0) (q := 1) dX5_byteAt_0 rfl rfl rfl ?_
  refine gf_getI (C := RX5) (T := TX5) (N := 33) (ci := 5) (k := 35) (j := 19) (q := 4) dX5_byteAt_1 rfl rfl kin5 (by decide) kw623 rfl rfl ?_
  refine gf_aload_n (i := 0) (q := 5) dX5_byteAt_4 rfl rfl rfl ?_
  refine gf_getA (C := RX5) (T := TX5) (N := 33) (ci := 5) (k := 35) (j := 2) (t := 38) (q := 8) dX5_byteAt_5 rfl rfl kin5 (by decide) kw606 rfl rfl ?_
  refine gf_iload_n (i := 1) (q := 9) dX5_byteAt_8 rfl rfl rfl ?_
  refine gf_iald (q := 10) dX5_byteAt_9 rfl ?_
  refine gf_icmp_ge (t := 30) (q := 13) dX5_byteAt_10 (by decide) rfl ?_ ?_
  · refine gf_sipush (q := 33) dX5_byteAt_30 ks_m1000 rfl ?_
    exact gf_reti dX5_byteAt_33 rfl
  · refine gf_aload_n (i := 0) (q := 14) dX5_byteAt_13 rfl rfl rfl ?_
    refine gf_getA (C := RX5) (T := TX5) (N := 33) (ci := 5) (k := 35) (j := 3) (t := 39) (q := 17) dX5_byteAt_14 rfl rfl kin5 (by decide) kw607 rfl rfl ?_
    refine gf_bipush (q := 19) dX5_byteAt_17 kb_60 rfl ?_
    refine gf_iload_n (i := 1) (q := 20) dX5_byteAt_19 rfl rfl rfl ?_
    refine gf_imul (q := 21) dX5_byteAt_20 rfl ?_
    refine gf_aload_n (i := 0) (q := 22) dX5_byteAt_21 rfl rfl rfl ?_
    refine gf_getI (C := RX5) (T := TX5) (N := 33) (ci := 5) (k := 35) (j := 19) (q := 25) dX5_byteAt_22 rfl rfl kin5 (by decide) kw623 rfl rfl ?_
    refine gf_iadd (q := 26) dX5_byteAt_25 rfl ?_
    refine gf_iald (q := 27) dX5_byteAt_26 rfl ?_
    refine gf_goto (q := 33) dX5_byteAt_27 (by decide) ?_
    exact gf_reti dX5_byteAt_33 rfl
theorem C_X5_byteAt (v1 : Int32) (u : XM) : CF YY 1 yX5_byteAt cX5_byteAt 2 (some .int) [.ref 35, .int v1] u emI (F_X5_byteAt v1 u) := cf_of (by decide +kernel) (Nat.le_of_ble_eq_true rfl) rfl (T_X5_byteAt v1 u)
def F_X5_blanks_0 : Nat → Int32 → XM → Option (Unit × XM)
  | 0, _, _ => none
  | n + 1, v1, u => (Option.bind (F_X5_byteAt v1 u) (fun x1 => (if x1.1 = 32 then F_X5_blanks_0 n v1 (wi x1.2 35 19 ((mi x1.2 35 19) + 1)) else some ((), x1.2))))
set_option maxRecDepth 20000 in
set_option maxHeartbeats 4000000 in
theorem T_X5_blanks_0 : ∀ (n : Nat) (v1 : Int32) (u : XM), GF E0 YY 2 yX5_blanks cX5_blanks 2 none 0 [some (.ref 35), some (.int v1)] [] u emV (F_X5_blanks_0 n v1 u) := by
  intro n
  induction n with
  | zero => intro v1 u; exact gf_none
  | succ n ih =>
    intro v1 u
    unfold F_X5_blanks_0
    refine gf_aload_n (i := 0) (q := 1) dX5_blanks_0 rfl rfl rfl ?_
    refine gf_iload_n (i := 1) (q := 2) dX5_blanks_1 rfl rfl rfl ?_
    refine gf_callV_i (n2 := 1) (As := [.int v1]) (st := []) (b := 35) (ci := 5) (C := RX5) (q := 5) (hlen := rfl) rfl rfl kw768 kw770 kp16 dX5_blanks_2 kw771 kw7 (by decide +kernel) (by decide) (Nat.le_of_ble_eq_true rfl) (C_X5_byteAt v1 u) rfl rfl (fun x1 => ?_)
    refine gf_bipush (q := 7) dX5_blanks_5 kb_32 rfl ?_
    refine gf_icmp_ne (t := 23) (q := 10) dX5_blanks_7 (by decide) rfl ?_ ?_
    · refine gf_aload_n (i := 0) (q := 11) dX5_blanks_10 rfl rfl rfl ?_
      refine gf_dup (q := 12) dX5_blanks_11 rfl rfl ?_
      refine gf_getI (C := RX5) (T := TX5) (N := 33) (ci := 5) (k := 35) (j := 19) (q := 15) dX5_blanks_12 rfl rfl kin5 (by decide) kw623 rfl rfl ?_
      refine gf_iconst (q := 16) dX5_blanks_15 ki_1 rfl ?_
      refine gf_iadd (q := 17) dX5_blanks_16 rfl ?_
      refine gf_putI (C := RX5) (T := TX5) (N := 33) (ci := 5) (k := 35) (j := 19) (q := 20) dX5_blanks_17 rfl rfl kin5 tyX5 tyX5_ok nmX5 (by decide) kw623 rfl rfl rfl rfl ?_
      refine gf_goto (q := 0) dX5_blanks_20 (by decide) ?_
      exact (ih v1 (wi x1.2 35 19 ((mi x1.2 35 19) + 1)))
    · exact gf_retv dX5_blanks_23 rfl
def F_X5_blanks (v1 : Int32) (u : XM) : Option (Unit × XM) := F_X5_blanks_0 FU v1 u
set_option maxRecDepth 20000 in
set_option maxHeartbeats 4000000 in
theorem T_X5_blanks (v1 : Int32) (u : XM) : GF E0 YY 2 yX5_blanks cX5_blanks 2 none 0 [some (.ref 35), some (.int v1)] [] u emV (F_X5_blanks v1 u) := by
  unfold F_X5_blanks
  exact (T_X5_blanks_0 FU v1 u)
theorem C_X5_blanks (v1 : Int32) (u : XM) : CF YY 2 yX5_blanks cX5_blanks 2 none [.ref 35, .int v1] u emV (F_X5_blanks v1 u) := cf_of (by decide +kernel) (Nat.le_of_ble_eq_true rfl) rfl (T_X5_blanks v1 u)
def F_X5_kindOf (v0 : Int32) (u : XM) : Option (Int32 × XM) := (if v0 = 116 then some (0, u) else (if v0 = 114 then some (1, u) else (if v0 = 115 then some (2, u) else (if v0 = 98 then some (3, u) else (if v0 = 100 then some (4, u) else (if v0 = 99 then some (5, u) else some ((-1), u)))))))
set_option maxRecDepth 20000 in
set_option maxHeartbeats 4000000 in
theorem T_X5_kindOf (v0 : Int32) (u : XM) : GF E0 YY 1 yX5_kindOf cX5_kindOf 1 (some .int) 0 [some (.int v0)] [] u emI (F_X5_kindOf v0 u) := by
  unfold F_X5_kindOf
  refine gf_iload_n (i := 0) (q := 1) dX5_kindOf_0 rfl rfl rfl ?_
  refine gf_bipush (q := 3) dX5_kindOf_1 kb_116 rfl ?_
  refine gf_icmp_ne (t := 10) (q := 6) dX5_kindOf_3 (by decide) rfl ?_ ?_
  · refine gf_iconst (q := 7) dX5_kindOf_6 ki_0 rfl ?_
    refine gf_goto (q := 61) dX5_kindOf_7 (by decide) ?_
    exact gf_reti dX5_kindOf_61 rfl
  · refine gf_iload_n (i := 0) (q := 11) dX5_kindOf_10 rfl rfl rfl ?_
    refine gf_bipush (q := 13) dX5_kindOf_11 kb_114 rfl ?_
    refine gf_icmp_ne (t := 20) (q := 16) dX5_kindOf_13 (by decide) rfl ?_ ?_
    · refine gf_iconst (q := 17) dX5_kindOf_16 ki_1 rfl ?_
      refine gf_goto (q := 61) dX5_kindOf_17 (by decide) ?_
      exact gf_reti dX5_kindOf_61 rfl
    · refine gf_iload_n (i := 0) (q := 21) dX5_kindOf_20 rfl rfl rfl ?_
      refine gf_bipush (q := 23) dX5_kindOf_21 kb_115 rfl ?_
      refine gf_icmp_ne (t := 30) (q := 26) dX5_kindOf_23 (by decide) rfl ?_ ?_
      · refine gf_iconst (q := 27) dX5_kindOf_26 ki_2 rfl ?_
        refine gf_goto (q := 61) dX5_kindOf_27 (by decide) ?_
        exact gf_reti dX5_kindOf_61 rfl
      · refine gf_iload_n (i := 0) (q := 31) dX5_kindOf_30 rfl rfl rfl ?_
        refine gf_bipush (q := 33) dX5_kindOf_31 kb_98 rfl ?_
        refine gf_icmp_ne (t := 40) (q := 36) dX5_kindOf_33 (by decide) rfl ?_ ?_
        · refine gf_iconst (q := 37) dX5_kindOf_36 ki_3 rfl ?_
          refine gf_goto (q := 61) dX5_kindOf_37 (by decide) ?_
          exact gf_reti dX5_kindOf_61 rfl
        · refine gf_iload_n (i := 0) (q := 41) dX5_kindOf_40 rfl rfl rfl ?_
          refine gf_bipush (q := 43) dX5_kindOf_41 kb_100 rfl ?_
          refine gf_icmp_ne (t := 50) (q := 46) dX5_kindOf_43 (by decide) rfl ?_ ?_
          · refine gf_iconst (q := 47) dX5_kindOf_46 ki_4 rfl ?_
            refine gf_goto (q := 61) dX5_kindOf_47 (by decide) ?_
            exact gf_reti dX5_kindOf_61 rfl
          · refine gf_iload_n (i := 0) (q := 51) dX5_kindOf_50 rfl rfl rfl ?_
            refine gf_bipush (q := 53) dX5_kindOf_51 kb_99 rfl ?_
            refine gf_icmp_ne (t := 60) (q := 56) dX5_kindOf_53 (by decide) rfl ?_ ?_
            · refine gf_iconst (q := 57) dX5_kindOf_56 ki_5 rfl ?_
              refine gf_goto (q := 61) dX5_kindOf_57 (by decide) ?_
              exact gf_reti dX5_kindOf_61 rfl
            · refine gf_iconst (q := 61) dX5_kindOf_60 ki_m1 rfl ?_
              exact gf_reti dX5_kindOf_61 rfl
theorem C_X5_kindOf (v0 : Int32) (u : XM) : CF YY 1 yX5_kindOf cX5_kindOf 1 (some .int) [.int v0] u emI (F_X5_kindOf v0 u) := cf_of (by decide +kernel) (Nat.le_of_ble_eq_true rfl) rfl (T_X5_kindOf v0 u)
def F_X5_takes (v1 : Int32) (v2 : Int32) (u : XM) : Option (Int32 × XM) := (Option.bind (F_X5_byteAt v1 u) (fun x1 => (Option.bind (F_X5_in (Int32.toInt64 (mi (wi x1.2 35 24 (x1.1 - 48)) 35 24)) 0 (Int32.toInt64 v2) (wi x1.2 35 24 (x1.1 - 48))) (fun x2 => (if x2.1 = 0 then some (0, x2.2) else some (1, (wi x2.2 35 19 ((mi x2.2 35 19) + 1))))))))
set_option maxRecDepth 20000 in
set_option maxHeartbeats 4000000 in
theorem T_X5_takes (v1 : Int32) (v2 : Int32) (u : XM) : GF E0 YY 2 yX5_takes cX5_takes 3 (some .boolean) 0 [some (.ref 35), some (.int v1), some (.int v2)] [] u emI (F_X5_takes v1 v2 u) := by
  unfold F_X5_takes
  refine gf_aload_n (i := 0) (q := 1) dX5_takes_0 rfl rfl rfl ?_
  refine gf_aload_n (i := 0) (q := 2) dX5_takes_1 rfl rfl rfl ?_
  refine gf_iload_n (i := 1) (q := 3) dX5_takes_2 rfl rfl rfl ?_
  refine gf_callV_i (n2 := 1) (As := [.int v1]) (st := [.ref 35]) (b := 35) (ci := 5) (C := RX5) (q := 6) (hlen := rfl) rfl rfl kw768 kw770 kp16 dX5_takes_3 kw771 kw7 (by decide +kernel) (by decide) (Nat.le_of_ble_eq_true rfl) (C_X5_byteAt v1 u) rfl rfl (fun x1 => ?_)
  refine gf_bipush (q := 8) dX5_takes_6 kb_48 rfl ?_
  refine gf_isub (q := 9) dX5_takes_8 rfl ?_
  refine gf_putI (C := RX5) (T := TX5) (N := 33) (ci := 5) (k := 35) (j := 24) (q := 12) dX5_takes_9 rfl rfl kin5 tyX5 tyX5_ok nmX5 (by decide) kw628 rfl rfl rfl rfl ?_
  refine gf_aload_n (i := 0) (q := 13) dX5_takes_12 rfl rfl rfl ?_
  refine gf_getI (C := RX5) (T := TX5) (N := 33) (ci := 5) (k := 35) (j := 24) (q := 16) dX5_takes_13 rfl rfl kin5 (by decide) kw628 rfl rfl ?_
  refine gf_i2l (q := 17) dX5_takes_16 rfl ?_
  refine gf_lconst (v := 0) (q := 18) dX5_takes_17 rfl rfl ?_
  refine gf_iload_n (i := 2) (q := 19) dX5_takes_18 rfl rfl rfl ?_
  refine gf_i2l (q := 20) dX5_takes_19 rfl ?_
  refine gf_callS_i (n2 := 3) (As := [.long (Int32.toInt64 (mi (wi x1.2 35 24 (x1.1 - 48)) 35 24)), .long 0, .long (Int32.toInt64 v2)]) (st := []) (q := 23) (hlen := rfl) kw713 kw714 dX5_takes_20 kw715 kw7 (by decide +kernel) (by decide) (Nat.le_of_ble_eq_true rfl) (C_X5_in (Int32.toInt64 (mi (wi x1.2 35 24 (x1.1 - 48)) 35 24)) 0 (Int32.toInt64 v2) (wi x1.2 35 24 (x1.1 - 48))) rfl rfl (fun x2 => ?_)
  refine gf_if_ne (t := 28) (q := 26) dX5_takes_23 (by decide) rfl ?_ ?_
  · refine gf_iconst (q := 27) dX5_takes_26 ki_0 rfl ?_
    exact gf_retz dX5_takes_27 rfl rfl
  · refine gf_aload_n (i := 0) (q := 29) dX5_takes_28 rfl rfl rfl ?_
    refine gf_dup (q := 30) dX5_takes_29 rfl rfl ?_
    refine gf_getI (C := RX5) (T := TX5) (N := 33) (ci := 5) (k := 35) (j := 19) (q := 33) dX5_takes_30 rfl rfl kin5 (by decide) kw623 rfl rfl ?_
    refine gf_iconst (q := 34) dX5_takes_33 ki_1 rfl ?_
    refine gf_iadd (q := 35) dX5_takes_34 rfl ?_
    refine gf_putI (C := RX5) (T := TX5) (N := 33) (ci := 5) (k := 35) (j := 19) (q := 38) dX5_takes_35 rfl rfl kin5 tyX5 tyX5_ok nmX5 (by decide) kw623 rfl rfl rfl rfl ?_
    refine gf_iconst (q := 39) dX5_takes_38 ki_1 rfl ?_
    exact gf_retz dX5_takes_39 rfl rfl
theorem C_X5_takes (v1 : Int32) (v2 : Int32) (u : XM) : CF YY 2 yX5_takes cX5_takes 3 (some .boolean) [.ref 35, .int v1, .int v2] u emI (F_X5_takes v1 v2 u) := cf_of (by decide +kernel) (Nat.le_of_ble_eq_true rfl) rfl (T_X5_takes v1 v2 u)
def F_X5_readsFirst (v1 : Int32) (u : XM) : Option (Int32 × XM) := (Option.bind (F_X5_byteAt v1 u) (fun x1 => (if x1.1 = 102 then (Option.bind (F_X5_takes v1 9 (wi x1.2 35 19 ((mi x1.2 35 19) + 1))) (fun x2 => (if x2.1 = 0 then some (0, x2.2) else (Option.bind (F_X5_takes v1 9 (wi x2.2 35 20 (mi x2.2 35 24))) (fun x3 => (if x3.1 = 0 then some (0, x3.2) else some (1, (wi x3.2 35 21 (mi x3.2 35 24))))))))) else some (0, x1.2))))
set_option maxRecDepth 20000 in
set_option maxHeartbeats 4000000 in
theorem T_X5_readsFirst (v1 : Int32) (u : XM) : GF E0 YY 3 yX5_readsFirst cX5_readsFirst 2 (some .boolean) 0 [some (.ref 35), some (.int v1)] [] u emI (F_X5_readsFirst v1 u) := by
  unfold F_X5_readsFirst
  refine gf_aload_n (i := 0) (q := 1) dX5_readsFirst_0 rfl rfl rfl ?_
  refine gf_iload_n (i := 1) (q := 2) dX5_readsFirst_1 rfl rfl rfl ?_
  refine gf_callV_i (n2 := 1) (As := [.int v1]) (st := []) (b := 35) (ci := 5) (C := RX5) (q := 5) (hlen := rfl) rfl rfl kw768 kw770 kp16 dX5_readsFirst_2 kw771 kw7 (by decide +kernel) (by decide) (Nat.le_of_ble_eq_true rfl) (C_X5_byteAt v1 u) rfl rfl (fun x1 => ?_)
  refine gf_bipush (q := 7) dX5_readsFirst_5 kb_102 rfl ?_
  refine gf_icmp_eq (t := 12) (q := 10) dX5_readsFirst_7 (by decide) rfl ?_ ?_
  · refine gf_aload_n (i := 0) (q := 13) dX5_readsFirst_12 rfl rfl rfl ?_
    refine gf_dup (q := 14) dX5_readsFirst_13 rfl rfl ?_
    refine gf_getI (C := RX5) (T := TX5) (N := 33) (ci := 5) (k := 35) (j := 19) (q := 17) dX5_readsFirst_14 rfl rfl kin5 (by decide) kw623 rfl rfl ?_
    refine gf_iconst (q := 18) dX5_readsFirst_17 ki_1 rfl ?_
    refine gf_iadd (q := 19) dX5_readsFirst_18 rfl ?_
    refine gf_putI (C := RX5) (T := TX5) (N := 33) (ci := 5) (k := 35) (j := 19) (q := 22) dX5_readsFirst_19 rfl rfl kin5 tyX5 tyX5_ok nmX5 (by decide) kw623 rfl rfl rfl rfl ?_
    refine gf_aload_n (i := 0) (q := 23) dX5_readsFirst_22 rfl rfl rfl ?_
    refine gf_iload_n (i := 1) (q := 24) dX5_readsFirst_23 rfl rfl rfl ?_
    refine gf_bipush (q := 26) dX5_readsFirst_24 kb_9 rfl ?_
    refine gf_callV_i (n2 := 2) (As := [.int v1, .int 9]) (st := []) (b := 35) (ci := 5) (C := RX5) (q := 29) (hlen := rfl) rfl rfl kw776 kw778 kp18 dX5_readsFirst_26 kw779 kw7 (by decide +kernel) (by decide) (Nat.le_of_ble_eq_true rfl) (C_X5_takes v1 9 (wi x1.2 35 19 ((mi x1.2 35 19) + 1))) rfl rfl (fun x2 => ?_)
    refine gf_if_ne (t := 34) (q := 32) dX5_readsFirst_29 (by decide) rfl ?_ ?_
    · refine gf_iconst (q := 33) dX5_readsFirst_32 ki_0 rfl ?_
      exact gf_retz dX5_readsFirst_33 rfl rfl
    · refine gf_aload_n (i := 0) (q := 35) dX5_readsFirst_34 rfl rfl rfl ?_
      refine gf_aload_n (i := 0) (q := 36) dX5_readsFirst_35 rfl rfl rfl ?_
      refine gf_getI (C := RX5) (T := TX5) (N := 33) (ci := 5) (k := 35) (j := 24) (q := 39) dX5_readsFirst_36 rfl rfl kin5 (by decide) kw628 rfl rfl ?_
      refine gf_putI (C := RX5) (T := TX5) (N := 33) (ci := 5) (k := 35) (j := 20) (q := 42) dX5_readsFirst_39 rfl rfl kin5 tyX5 tyX5_ok nmX5 (by decide) kw624 rfl rfl rfl rfl ?_
      refine gf_aload_n (i := 0) (q := 43) dX5_readsFirst_42 rfl rfl rfl ?_
      refine gf_iload_n (i := 1) (q := 44) dX5_readsFirst_43 rfl rfl rfl ?_
      refine gf_bipush (q := 46) dX5_readsFirst_44 kb_9 rfl ?_
      refine gf_callV_i (n2 := 2) (As := [.int v1, .int 9]) (st := []) (b := 35) (ci := 5) (C := RX5) (q := 49) (hlen := rfl) rfl rfl kw776 kw778 kp18 dX5_readsFirst_46 kw779 kw7 (by decide +kernel) (by decide) (Nat.le_of_ble_eq_true rfl) (C_X5_takes v1 9 (wi x2.2 35 20 (mi x2.2 35 24))) rfl rfl (fun x3 => ?_)
      refine gf_if_ne (t := 54) (q := 52) dX5_readsFirst_49 (by decide) rfl ?_ ?_
      · refine gf_iconst (q := 53) dX5_readsFirst_52 ki_0 rfl ?_
        exact gf_retz dX5_readsFirst_53 rfl rfl
      · refine gf_aload_n (i := 0) (q := 55) dX5_readsFirst_54 rfl rfl rfl ?_
        refine gf_aload_n (i := 0) (q := 56) dX5_readsFirst_55 rfl rfl rfl ?_
        refine gf_getI (C := RX5) (T := TX5) (N := 33) (ci := 5) (k := 35) (j := 24) (q := 59) dX5_readsFirst_56 rfl rfl kin5 (by decide) kw628 rfl rfl ?_
        refine gf_putI (C := RX5) (T := TX5) (N := 33) (ci := 5) (k := 35) (j := 21) (q := 62) dX5_readsFirst_59 rfl rfl kin5 tyX5 tyX5_ok nmX5 (by decide) kw625 rfl rfl rfl rfl ?_
        refine gf_iconst (q := 63) dX5_readsFirst_62 ki_1 rfl ?_
        exact gf_retz dX5_readsFirst_63 rfl rfl
  · refine gf_iconst (q := 11) dX5_readsFirst_10 ki_0 rfl ?_
    exact gf_retz dX5_readsFirst_11 rfl rfl
theorem C_X5_readsFirst (v1 : Int32) (u : XM) : CF YY 3 yX5_readsFirst cX5_readsFirst 2 (some .boolean) [.ref 35, .int v1] u emI (F_X5_readsFirst v1 u) := cf_of (by decide +kernel) (Nat.le_of_ble_eq_true rfl) rfl (T_X5_readsFirst v1 u)
def F_X5_readsThing_72 (k51 : Int32 → Int32 → Int32 → XM → Option (Int32 × XM)) (v1 : Int32) (v3 : Int32) (v4 : Int32) (s0 : Int32) (s1 : Int32) (u : XM) : Option (Int32 × XM) := (Option.bind (F_X5_takes s1 s0 u) (fun x1 => (if x1.1 = 0 then some (0, x1.2) else (if ain YY 0 48 (v3 + v4) = true then k51 v1 v3 (v4 + 1) (wi x1.2 48 (Int32.toNatClampNeg (v3 + v4)) (mi x1.2 35 24)) else none))))
set_option maxRecDepth 20000 in
set_option maxHeartbeats 4000000 in
theorem T_X5_readsThing_72 (k51 : Int32 → Int32 → Int32 → XM → Option (Int32 × XM)) (hk51 : ∀ (v1 : Int32) (v3 : Int32) (v4 : Int32) (u : XM), GF E0 YY 3 yX5_readsThing cX5_readsThing 5 (some .boolean) 51 [some (.ref 35), some (.int v1), none, some (.int v3), some (.int v4)] [] u emI (k51 v1 v3 v4 u)) (v1 : Int32) (v3 : Int32) (v4 : Int32) (s0 : Int32) (s1 : Int32) (u : XM) : GF E0 YY 3 yX5_readsThing cX5_readsThing 5 (some .boolean) 72 [some (.ref 35), some (.int v1), none, some (.int v3), some (.int v4)] [.int s0, .int s1, .ref 35] u emI (F_X5_readsThing_72 k51 v1 v3 v4 s0 s1 u) := by
  unfold F_X5_readsThing_72
  refine gf_callV_i (n2 := 2) (As := [.int s1, .int s0]) (st := []) (b := 35) (ci := 5) (C := RX5) (q := 75) (hlen := rfl) rfl rfl kw776 kw778 kp18 dX5_readsThing_72 kw779 kw7 (by decide +kernel) (by decide) (Nat.le_of_ble_eq_true rfl) (C_X5_takes s1 s0 u) rfl rfl (fun x1 => ?_)
  refine gf_if_ne (t := 80) (q := 78) dX5_readsThing_75 (by decide) rfl ?_ ?_
  · refine gf_iconst (q := 79) dX5_readsThing_78 ki_0 rfl ?_
    exact gf_retz dX5_readsThing_79 rfl rfl
  · refine gf_aload_n (i := 0) (q := 81) dX5_readsThing_80 rfl rfl rfl ?_
    refine gf_getA (C := RX5) (T := TX5) (N := 33) (ci := 5) (k := 35) (j := 23) (t := 48) (q := 84) dX5_readsThing_81 rfl rfl kin5 (by decide) kw627 rfl rfl ?_
    refine gf_iload_n (i := 3) (q := 85) dX5_readsThing_84 rfl rfl rfl ?_
    refine gf_iload (q := 87) dX5_readsThing_85 rfl rfl ?_
    refine gf_iadd (q := 88) dX5_readsThing_87 rfl ?_
    refine gf_aload_n (i := 0) (q := 89) dX5_readsThing_88 rfl rfl rfl ?_
    refine gf_getI (C := RX5) (T := TX5) (N := 33) (ci := 5) (k := 35) (j := 24) (q := 92) dX5_readsThing_89 rfl rfl kin5 (by decide) kw628 rfl rfl ?_
    refine gf_iast (q := 93) dX5_readsThing_92 rfl ?_
    refine gf_iinc (v := (v4 + 1)) (lv2 := [some (.ref 35), some (.int v1), none, some (.int v3), some (.int (v4 + 1))]) (q := 96) dX5_readsThing_93 rfl (congrArg _ ki_1) (by decide) rfl rfl ?_
    refine gf_goto (q := 51) dX5_readsThing_96 (by decide) ?_
    exact (hk51 v1 v3 (v4 + 1) (wi x1.2 48 (Int32.toNatClampNeg (v3 + v4)) (mi x1.2 35 24)))
def F_X5_readsThing_51 : Nat → Int32 → Int32 → Int32 → XM → Option (Int32 × XM)
  | 0, _, _, _, _ => none
  | n + 1, v1, v3, v4, u => (if 4 ≤ v4 then some (1, (wi u 35 22 ((mi u 35 22) + 1))) else (if v4 = 2 then F_X5_readsThing_72 (F_X5_readsThing_51 n) v1 v3 v4 9 v1 u else F_X5_readsThing_72 (F_X5_readsThing_51 n) v1 v3 v4 7 v1 u))
set_option maxRecDepth 20000 in
set_option maxHeartbeats 4000000 in
theorem T_X5_readsThing_51 : ∀ (n : Nat) (v1 : Int32) (v3 : Int32) (v4 : Int32) (u : XM), GF E0 YY 3 yX5_readsThing cX5_readsThing 5 (some .boolean) 51 [some (.ref 35), some (.int v1), none, some (.int v3), some (.int v4)] [] u emI (F_X5_readsThing_51 n v1 v3 v4 u) := by
  intro n
  induction n with
  | zero => intro v1 v3 v4 u; exact gf_none
  | succ n ih =>
    intro v1 v3 v4 u
    unfold F_X5_readsThing_51
    refine gf_iload (q := 53) dX5_readsThing_51 rfl rfl ?_
    refine gf_iconst (q := 54) dX5_readsThing_53 ki_4 rfl ?_
    refine gf_icmp_ge (t := 99) (q := 57) dX5_readsThing_54 (by decide) rfl ?_ ?_
    · refine gf_aload_n (i := 0) (q := 100) dX5_readsThing_99 rfl rfl rfl ?_
      refine gf_dup (q := 101) dX5_readsThing_100 rfl rfl ?_
      refine gf_getI (C := RX5) (T := TX5) (N := 33) (ci := 5) (k := 35) (j := 22) (q := 104) dX5_readsThing_101 rfl rfl kin5 (by decide) kw626 rfl rfl ?_
      refine gf_iconst (q := 105) dX5_readsThing_104 ki_1 rfl ?_
      refine gf_iadd (q := 106) dX5_readsThing_105 rfl ?_
      refine gf_putI (C := RX5) (T := TX5) (N := 33) (ci := 5) (k := 35) (j := 22) (q := 109) dX5_readsThing_106 rfl rfl kin5 tyX5 tyX5_ok nmX5 (by decide) kw626 rfl rfl rfl rfl ?_
      refine gf_iconst (q := 110) dX5_readsThing_109 ki_1 rfl ?_
      exact gf_retz dX5_readsThing_110 rfl rfl
    · refine gf_aload_n (i := 0) (q := 58) dX5_readsThing_57 rfl rfl rfl ?_
      refine gf_iload_n (i := 1) (q := 59) dX5_readsThing_58 rfl rfl rfl ?_
      refine gf_iload (q := 61) dX5_readsThing_59 rfl rfl ?_
      refine gf_iconst (q := 62) dX5_readsThing_61 ki_2 rfl ?_
      refine gf_icmp_ne (t := 70) (q := 65) dX5_readsThing_62 (by decide) rfl ?_ ?_
      · refine gf_bipush (q := 67) dX5_readsThing_65 kb_9 rfl ?_
        refine gf_goto (q := 72) dX5_readsThing_67 (by decide) ?_
        exact (T_X5_readsThing_72 (F_X5_readsThing_51 n) ih v1 v3 v4 9 v1 u)
      · refine gf_bipush (q := 72) dX5_readsThing_70 kb_7 rfl ?_
        exact (T_X5_readsThing_72 (F_X5_readsThing_51 n) ih v1 v3 v4 7 v1 u)
def F_X5_readsThing (v1 : Int32) (u : XM) : Option (Int32 × XM) := (Option.bind (F_X5_byteAt v1 u) (fun x2 => (Option.bind (F_X5_kindOf x2.1 x2.2) (fun x3 => (if x3.1 < 0 then some (0, x3.2) else (if (mi x3.2 35 22) = 6 then some (0, x3.2) else (if ain YY 0 48 (4 * (mi (wi x3.2 35 19 ((mi x3.2 35 19) + 1)) 35 22)) = true then F_X5_readsThing_51 FU v1 (4 * (mi (wi x3.2 35 19 ((mi x3.2 35 19) + 1)) 35 22)) 1 (wi (wi x3.2 35 19 ((mi x3.2 35 19) + 1)) 48 (Int32.toNatClampNeg (4 * (mi (wi x3.2 35 19 ((mi x3.2 35 19) + 1)) 35 22))) x3.1) else none)))))))
set_option maxRecDepth 20000 in
set_option maxHeartbeats 4000000 in
theorem T_X5_readsThing (v1 : Int32) (u : XM) : GF E0 YY 3 yX5_readsThing cX5_readsThing 5 (some .boolean) 0 [some (.ref 35), some (.int v1), none, none, none] [] u emI (F_X5_readsThing v1 u) := by
  unfold F_X5_readsThing
  refine gf_aload_n (i := 0) (q := 1) dX5_readsThing_0 rfl rfl rfl ?_
  refine gf_iload_n (i := 1) (q := 2) dX5_readsThing_1 rfl rfl rfl ?_
  refine gf_callV_i (n2 := 1) (As := [.int v1]) (st := []) (b := 35) (ci := 5) (C := RX5) (q := 5) (hlen := rfl) rfl rfl kw768 kw770 kp16 dX5_readsThing_2 kw771 kw7 (by decide +kernel) (by decide) (Nat.le_of_ble_eq_true rfl) (C_X5_byteAt v1 u) rfl rfl (fun x2 => ?_)
  refine gf_callS_i (n2 := 1) (As := [.int x2.1]) (st := []) (q := 8) (hlen := rfl) kw784 kw785 dX5_readsThing_5 kw786 kw7 (by decide +kernel) (by decide) (Nat.le_of_ble_eq_true rfl) (C_X5_kindOf x2.1 x2.2) rfl rfl (fun x3 => ?_)
  refine gf_istore_n (i := 2) (lv2 := [some (.ref 35), some (.int v1), some (.int x3.1), none, none]) (q := 9) dX5_readsThing_8 rfl (by decide) rfl rfl ?_
  refine gf_iload_n (i := 2) (q := 10) dX5_readsThing_9 rfl rfl rfl ?_
  refine gf_if_lt (t := 22) (q := 13) dX5_readsThing_10 (by decide) rfl ?_ ?_
  · refine gf_iconst (q := 23) dX5_readsThing_22 ki_0 rfl ?_
    exact gf_retz dX5_readsThing_23 rfl rfl
  · refine gf_aload_n (i := 0) (q := 14) dX5_readsThing_13 rfl rfl rfl ?_
    refine gf_getI (C := RX5) (T := TX5) (N := 33) (ci := 5) (k := 35) (j := 22) (q := 17) dX5_readsThing_14 rfl rfl kin5 (by decide) kw626 rfl rfl ?_
    refine gf_bipush (q := 19) dX5_readsThing_17 kb_6 rfl ?_
    refine gf_icmp_ne (t := 24) (q := 22) dX5_readsThing_19 (by decide) rfl ?_ ?_
    · refine gf_iconst (q := 23) dX5_readsThing_22 ki_0 rfl ?_
      exact gf_retz dX5_readsThing_23 rfl rfl
    · refine gf_aload_n (i := 0) (q := 25) dX5_readsThing_24 rfl rfl rfl ?_
      refine gf_dup (q := 26) dX5_readsThing_25 rfl rfl ?_
      refine gf_getI (C := RX5) (T := TX5) (N := 33) (ci := 5) (k := 35) (j := 19) (q := 29) dX5_readsThing_26 rfl rfl kin5 (by decide) kw623 rfl rfl ?_
      refine gf_iconst (q := 30) dX5_readsThing_29 ki_1 rfl ?_
      refine gf_iadd (q := 31) dX5_readsThing_30 rfl ?_
      refine gf_putI (C := RX5) (T := TX5) (N := 33) (ci := 5) (k := 35) (j := 19) (q := 34) dX5_readsThing_31 rfl rfl kin5 tyX5 tyX5_ok nmX5 (by decide) kw623 rfl rfl rfl rfl ?_
      refine gf_iconst (q := 35) dX5_readsThing_34 ki_4 rfl ?_
      refine gf_aload_n (i := 0) (q := 36) dX5_readsThing_35 rfl rfl rfl ?_
      refine gf_getI (C := RX5) (T := TX5) (N := 33) (ci := 5) (k := 35) (j := 22) (q := 39) dX5_readsThing_36 rfl rfl kin5 (by decide) kw626 rfl rfl ?_
      refine gf_imul (q := 40) dX5_readsThing_39 rfl ?_
      refine gf_istore_n (i := 3) (lv2 := [some (.ref 35), some (.int v1), some (.int x3.1), some (.int (4 * (mi (wi x3.2 35 19 ((mi x3.2 35 19) + 1)) 35 22))), none]) (q := 41) dX5_readsThing_40 rfl (by decide) rfl rfl ?_
      refine gf_aload_n (i := 0) (q := 42) dX5_readsThing_41 rfl rfl rfl ?_
      refine gf_getA (C := RX5) (T := TX5) (N := 33) (ci := 5) (k := 35) (j := 23) (t := 48) (q := 45) dX5_readsThing_42 rfl rfl kin5 (by decide) kw627 rfl rfl ?_
      refine gf_iload_n (i := 3) (q := 46) dX5_readsThing_45 rfl rfl rfl ?_
      refine gf_iload_n (i := 2) (q := 47) dX5_readsThing_46 rfl rfl rfl ?_
      refine gf_iast (q := 48) dX5_readsThing_47 rfl ?_
      refine gf_iconst (q := 49) dX5_readsThing_48 ki_1 rfl ?_
      refine gf_istore (lv2 := [some (.ref 35), some (.int v1), some (.int x3.1), some (.int (4 * (mi (wi x3.2 35 19 ((mi x3.2 35 19) + 1)) 35 22))), some (.int 1)]) (q := 51) dX5_readsThing_49 (by decide) rfl rfl ?_
      exact gf_mask (b := [true, true, false, true, true]) rfl (T_X5_readsThing_51 FU v1 (4 * (mi (wi x3.2 35 19 ((mi x3.2 35 19) + 1)) 35 22)) 1 (wi (wi x3.2 35 19 ((mi x3.2 35 19) + 1)) 48 (Int32.toNatClampNeg (4 * (mi (wi x3.2 35 19 ((mi x3.2 35 19) + 1)) 35 22))) x3.1))
theorem C_X5_readsThing (v1 : Int32) (u : XM) : CF YY 3 yX5_readsThing cX5_readsThing 5 (some .boolean) [.ref 35, .int v1] u emI (F_X5_readsThing v1 u) := cf_of (by decide +kernel) (Nat.le_of_ble_eq_true rfl) rfl (T_X5_readsThing v1 u)
def F_X5_faultOf_53 (k21 : Int32 → Int32 → XM → Option (Int32 × XM)) (v1 : Int32) (u : XM) : Option (Int32 × XM) := (Option.bind (F_X5_readsThing v1 u) (fun x1 => k21 v1 x1.1 x1.2))
set_option maxRecDepth 20000 in
set_option maxHeartbeats 4000000 in
theorem T_X5_faultOf_53 (k21 : Int32 → Int32 → XM → Option (Int32 × XM)) (hk21 : ∀ (v1 : Int32) (v2 : Int32) (u : XM), GF E0 YY 4 yX5_faultOf cX5_faultOf 3 (some .int) 21 [some (.ref 35), some (.int v1), some (.int v2)] [] u emI (k21 v1 v2 u)) (v1 : Int32) (u : XM) : GF E0 YY 4 yX5_faultOf cX5_faultOf 3 (some .int) 53 [some (.ref 35), some (.int v1), none] [] u emI (F_X5_faultOf_53 k21 v1 u) := by
  unfold F_X5_faultOf_53
  refine gf_aload_n (i := 0) (q := 54) dX5_faultOf_53 rfl rfl rfl ?_
  refine gf_iload_n (i := 1) (q := 55) dX5_faultOf_54 rfl rfl rfl ?_
  refine gf_callV_i (n2 := 1) (As := [.int v1]) (st := []) (b := 35) (ci := 5) (C := RX5) (q := 58) (hlen := rfl) rfl rfl kw780 kw782 kp19 dX5_faultOf_55 kw783 kw7 (by decide +kernel) (by decide) (Nat.le_of_ble_eq_true rfl) (C_X5_readsThing v1 u) rfl rfl (fun x1 => ?_)
  refine gf_istore_n (i := 2) (lv2 := [some (.ref 35), some (.int v1), some (.int x1.1)]) (q := 59) dX5_faultOf_58 rfl (by decide) rfl rfl ?_
  refine gf_goto (q := 21) dX5_faultOf_59 (by decide) ?_
  exact (hk21 v1 x1.1 x1.2)
def F_X5_faultOf_21 : Nat → Int32 → Int32 → XM → Option (Int32 × XM)
  | 0, _, _, _ => none
  | n + 1, v1, v2, u => (if v2 = 0 then some ((mi u 35 19), u) else (Option.bind (F_X5_blanks v1 u) (fun x2 => (if ain YY 0 38 v1 = true then (if (mi x2.2 35 19) = (mi x2.2 38 (Int32.toNatClampNeg v1)) then (if (mi x2.2 35 22) ≤ 0 then F_X5_faultOf_53 (F_X5_faultOf_21 n) v1 x2.2 else some ((-9), x2.2)) else F_X5_faultOf_53 (F_X5_faultOf_21 n) v1 x2.2) else none))))
set_option maxRecDepth 20000 in
set_option maxHeartbeats 4000000 in
theorem T_X5_faultOf_21 : ∀ (n : Nat) (v1 : Int32) (v2 : Int32) (u : XM), GF E0 YY 4 yX5_faultOf cX5_faultOf 3 (some .int) 21 [some (.ref 35), some (.int v1), some (.int v2)] [] u emI (F_X5_faultOf_21 n v1 v2 u) := by
  intro n
  induction n with
  | zero => intro v1 v2 u; exact gf_none
  | succ n ih =>
    intro v1 v2 u
    unfold F_X5_faultOf_21
    refine gf_iload_n (i := 2) (q := 22) dX5_faultOf_21 rfl rfl rfl ?_
    refine gf_if_eq (t := 62) (q := 25) dX5_faultOf_22 (by decide) rfl ?_ ?_
    · refine gf_aload_n (i := 0) (q := 63) dX5_faultOf_62 rfl rfl rfl ?_
      refine gf_getI (C := RX5) (T := TX5) (N := 33) (ci := 5) (k := 35) (j := 19) (q := 66) dX5_faultOf_63 rfl rfl kin5 (by decide) kw623 rfl rfl ?_
      exact gf_reti dX5_faultOf_66 rfl
    · refine gf_aload_n (i := 0) (q := 26) dX5_faultOf_25 rfl rfl rfl ?_
      refine gf_iload_n (i := 1) (q := 27) dX5_faultOf_26 rfl rfl rfl ?_
      refine gf_callV_v (n2 := 1) (As := [.int v1]) (st := []) (b := 35) (ci := 5) (C := RX5) (q := 30) (hlen := rfl) rfl rfl kw764 kw766 kp15 dX5_faultOf_27 kw767 kw7 (by decide +kernel) (by decide) (Nat.le_of_ble_eq_true rfl) (C_X5_blanks v1 u) rfl rfl (fun x2 => ?_)
      refine gf_aload_n (i := 0) (q := 31) dX5_faultOf_30 rfl rfl rfl ?_
      refine gf_getI (C := RX5) (T := TX5) (N := 33) (ci := 5) (k := 35) (j := 19) (q := 34) dX5_faultOf_31 rfl rfl kin5 (by decide) kw623 rfl rfl ?_
      refine gf_aload_n (i := 0) (q := 35) dX5_faultOf_34 rfl rfl rfl ?_
      refine gf_getA (C := RX5) (T := TX5) (N := 33) (ci := 5) (k := 35) (j := 2) (t := 38) (q := 38) dX5_faultOf_35 rfl rfl kin5 (by decide) kw606 rfl rfl ?_
      refine gf_iload_n (i := 1) (q := 39) dX5_faultOf_38 rfl rfl rfl ?_
      refine gf_iald (q := 40) dX5_faultOf_39 rfl ?_
      refine gf_icmp_ne (t := 53) (q := 43) dX5_faultOf_40 (by decide) rfl ?_ ?_
      · refine gf_aload_n (i := 0) (q := 44) dX5_faultOf_43 rfl rfl rfl ?_
        refine gf_getI (C := RX5) (T := TX5) (N := 33) (ci := 5) (k := 35) (j := 22) (q := 47) dX5_faultOf_44 rfl rfl kin5 (by decide) kw626 rfl rfl ?_
        refine gf_if_le (t := 53) (q := 50) dX5_faultOf_47 (by decide) rfl ?_ ?_
        · exact gf_mask (b := [true, true, false]) rfl (T_X5_faultOf_53 (F_X5_faultOf_21 n) ih v1 x2.2)
        · refine gf_bipush (q := 52) dX5_faultOf_50 kb_m9 rfl ?_
          exact gf_reti dX5_faultOf_52 rfl
      · exact gf_mask (b := [true, true, false]) rfl (T_X5_faultOf_53 (F_X5_faultOf_21 n) ih v1 x2.2)
def F_X5_faultOf (v1 : Int32) (u : XM) : Option (Int32 × XM) := (Option.bind (F_X5_blanks v1 (wi (wi u 35 19 0) 35 22 0)) (fun x3 => (Option.bind (F_X5_readsFirst v1 x3.2) (fun x4 => F_X5_faultOf_21 FU v1 x4.1 x4.2))))
set_option maxRecDepth 20000 in
set_option maxHeartbeats 4000000 in
theorem T_X5_faultOf (v1 : Int32) (u : XM) : GF E0 YY 4 yX5_faultOf cX5_faultOf 3 (some .int) 0 [some (.ref 35), some (.int v1), none] [] u emI (F_X5_faultOf v1 u) := by
  unfold F_X5_faultOf
  refine gf_aload_n (i := 0) (q := 1) dX5_faultOf_0 rfl rfl rfl ?_
  refine gf_iconst (q := 2) dX5_faultOf_1 ki_0 rfl ?_
  refine gf_putI (C := RX5) (T := TX5) (N := 33) (ci := 5) (k := 35) (j := 19) (q := 5) dX5_faultOf_2 rfl rfl kin5 tyX5 tyX5_ok nmX5 (by decide) kw623 rfl rfl rfl rfl ?_
  refine gf_aload_n (i := 0) (q := 6) dX5_faultOf_5 rfl rfl rfl ?_
  refine gf_iconst (q := 7) dX5_faultOf_6 ki_0 rfl ?_
  refine gf_putI (C := RX5) (T := TX5) (N := 33) (ci := 5) (k := 35) (j := 22) (q := 10) dX5_faultOf_7 rfl rfl kin5 tyX5 tyX5_ok nmX5 (by decide) kw626 rfl rfl rfl rfl ?_
  refine gf_aload_n (i := 0) (q := 11) dX5_faultOf_10 rfl rfl rfl ?_
  refine gf_iload_n (i := 1) (q := 12) dX5_faultOf_11 rfl rfl rfl ?_
  refine gf_callV_v (n2 := 1) (As := [.int v1]) (st := []) (b := 35) (ci := 5) (C := RX5) (q := 15) (hlen := rfl) rfl rfl kw764 kw766 kp15 dX5_faultOf_12 kw767 kw7 (by decide +kernel) (by decide) (Nat.le_of_ble_eq_true rfl) (C_X5_blanks v1 (wi (wi u 35 19 0) 35 22 0)) rfl rfl (fun x3 => ?_)
  refine gf_aload_n (i := 0) (q := 16) dX5_faultOf_15 rfl rfl rfl ?_
  refine gf_iload_n (i := 1) (q := 17) dX5_faultOf_16 rfl rfl rfl ?_
  refine gf_callV_i (n2 := 1) (As := [.int v1]) (st := []) (b := 35) (ci := 5) (C := RX5) (q := 20) (hlen := rfl) rfl rfl kw772 kw774 kp17 dX5_faultOf_17 kw775 kw7 (by decide +kernel) (by decide) (Nat.le_of_ble_eq_true rfl) (C_X5_readsFirst v1 x3.2) rfl rfl (fun x4 => ?_)
  refine gf_istore_n (i := 2) (lv2 := [some (.ref 35), some (.int v1), some (.int x4.1)]) (q := 21) dX5_faultOf_20 rfl (by decide) rfl rfl ?_
  exact (T_X5_faultOf_21 FU v1 x4.1 x4.2)
theorem C_X5_faultOf (v1 : Int32) (u : XM) : CF YY 4 yX5_faultOf cX5_faultOf 3 (some .int) [.ref 35, .int v1] u emI (F_X5_faultOf v1 u) := cf_of (by decide +kernel) (Nat.le_of_ble_eq_true rfl) rfl (T_X5_faultOf v1 u)
def F_X5_fault (v1 : Int32) (u : XM) : Option (Int32 × XM) := (Option.bind (F_X5_isText v1 u) (fun x1 => (if x1.1 = 0 then some ((-1), x1.2) else (if ain YY 0 38 v1 = true then (if 0 ≤ (mi x1.2 38 (Int32.toNatClampNeg v1)) then (Option.bind (F_X5_faultOf v1 x1.2) (fun x2 => some (x2.1, x2.2))) else (Option.bind (F_X5_found 1 x1.2) (fun x3 => some (x3.1, x3.2)))) else none))))
set_option maxRecDepth 20000 in
set_option maxHeartbeats 4000000 in
theorem T_X5_fault (v1 : Int32) (u : XM) : GF E0 YY 5 yX5_fault cX5_fault 2 (some .int) 0 [some (.ref 35), some (.int v1)] [] u emI (F_X5_fault v1 u) := by
  unfold F_X5_fault
  refine gf_iload_n (i := 1) (q := 1) dX5_fault_0 rfl rfl rfl ?_
  refine gf_callS_i (n2 := 1) (As := [.int v1]) (st := []) (q := 4) (hlen := rfl) kw748 kw749 dX5_fault_1 kw750 kw7 (by decide +kernel) (by decide) (Nat.le_of_ble_eq_true rfl) (C_X5_isText v1 u) rfl rfl (fun x1 => ?_)
  refine gf_if_ne (t := 9) (q := 7) dX5_fault_4 (by decide) rfl ?_ ?_
  · refine gf_iconst (q := 8) dX5_fault_7 ki_m1 rfl ?_
    exact gf_reti dX5_fault_8 rfl
  · refine gf_aload_n (i := 0) (q := 10) dX5_fault_9 rfl rfl rfl ?_
    refine gf_getA (C := RX5) (T := TX5) (N := 33) (ci := 5) (k := 35) (j := 2) (t := 38) (q := 13) dX5_fault_10 rfl rfl kin5 (by decide) kw606 rfl rfl ?_
    refine gf_iload_n (i := 1) (q := 14) dX5_fault_13 rfl rfl rfl ?_
    refine gf_iald (q := 15) dX5_fault_14 rfl ?_
    refine gf_if_ge (t := 26) (q := 18) dX5_fault_15 (by decide) rfl ?_ ?_
    · refine gf_aload_n (i := 0) (q := 27) dX5_fault_26 rfl rfl rfl ?_
      refine gf_iload_n (i := 1) (q := 28) dX5_fault_27 rfl rfl rfl ?_
      refine gf_callV_i (n2 := 1) (As := [.int v1]) (st := []) (b := 35) (ci := 5) (C := RX5) (q := 31) (hlen := rfl) rfl rfl kw760 kw762 kp14 dX5_fault_28 kw763 kw7 (by decide +kernel) (by decide) (Nat.le_of_ble_eq_true rfl) (C_X5_faultOf v1 x1.2) rfl rfl (fun x2 => ?_)
      exact gf_reti dX5_fault_31 rfl
    · refine gf_aload_n (i := 0) (q := 19) dX5_fault_18 rfl rfl rfl ?_
      refine gf_iconst (q := 20) dX5_fault_19 ki_1 rfl ?_
      refine gf_callV_i (n2 := 1) (As := [.int 1]) (st := []) (b := 35) (ci := 5) (C := RX5) (q := 23) (hlen := rfl) rfl rfl kw716 kw718 kp12 dX5_fault_20 kw719 kw7 (by decide +kernel) (by decide) (Nat.le_of_ble_eq_true rfl) (C_X5_found 1 x1.2) rfl rfl (fun x3 => ?_)
      refine gf_goto (q := 31) dX5_fault_23 (by decide) ?_
      exact gf_reti dX5_fault_31 rfl
theorem C_X5_fault (v1 : Int32) (u : XM) : CF YY 5 yX5_fault cX5_fault 2 (some .int) [.ref 35, .int v1] u emI (F_X5_fault v1 u) := cf_of (by decide +kernel) (Nat.le_of_ble_eq_true rfl) rfl (T_X5_fault v1 u)
def F_X5_canal_159 : Nat → Int32 → XM → Option (Int32 × XM)
  | 0, _, _ => none
  | n + 1, v2, u => (if 3 ≤ v2 then some ((mi u 35 4), u) else (if ain YY 2 46 v2 = true then F_X5_canal_159 n (v2 + 1) (wi u 46 (Int32.toNatClampNeg v2) (vp_nar .boolean 0)) else none))
set_option maxRecDepth 20000 in
set_option maxHeartbeats 4000000 in
theorem T_X5_canal_159 : ∀ (n : Nat) (v2 : Int32) (u : XM), GF E0 YY 5 yX5_canal cX5_canal 3 (some .int) 159 [some (.ref 35), none, some (.int v2)] [] u emI (F_X5_canal_159 n v2 u) := by
  intro n
  induction n with
  | zero => intro v2 u; exact gf_none
  | succ n ih =>
    intro v2 u
    unfold F_X5_canal_159
    refine gf_iload_n (i := 2) (q := 160) dX5_canal_159 rfl rfl rfl ?_
    refine gf_iconst (q := 161) dX5_canal_160 ki_3 rfl ?_
    refine gf_icmp_ge (t := 177) (q := 164) dX5_canal_161 (by decide) rfl ?_ ?_
    · refine gf_aload_n (i := 0) (q := 178) dX5_canal_177 rfl rfl rfl ?_
      refine gf_getI (C := RX5) (T := TX5) (N := 33) (ci := 5) (k := 35) (j := 4) (q := 181) dX5_canal_178 rfl rfl kin5 (by decide) kw608 rfl rfl ?_
      exact gf_reti dX5_canal_181 rfl
    · refine gf_aload_n (i := 0) (q := 165) dX5_canal_164 rfl rfl rfl ?_
      refine gf_getA (C := RX5) (T := TX5) (N := 33) (ci := 5) (k := 35) (j := 13) (t := 46) (q := 168) dX5_canal_165 rfl rfl kin5 (by decide) kw617 rfl rfl ?_
      refine gf_iload_n (i := 2) (q := 169) dX5_canal_168 rfl rfl rfl ?_
      refine gf_iconst (q := 170) dX5_canal_169 ki_0 rfl ?_
      refine gf_zast (q := 171) dX5_canal_170 rfl ?_
      refine gf_iinc (v := (v2 + 1)) (lv2 := [some (.ref 35), none, some (.int (v2 + 1))]) (q := 174) dX5_canal_171 rfl (congrArg _ ki_1) (by decide) rfl rfl ?_
      refine gf_goto (q := 159) dX5_canal_174 (by decide) ?_
      exact (ih (v2 + 1) (wi u 46 (Int32.toNatClampNeg v2) (vp_nar .boolean 0)))
def F_X5_canal_55 : Nat → Int32 → XM → Option (Int32 × XM)
  | 0, _, _ => none
  | n + 1, v2, u => (if (mi u 35 4) ≤ v2 then (if ain YY 0 43 6 = true then (if ain YY 0 43 7 = true then F_X5_canal_159 FU 0 (wi (wi (wi u 43 (Int32.toNatClampNeg 6) (mi u 35 21)) 43 (Int32.toNatClampNeg 7) 0) 35 10 0) else none) else none) else (if ain YY 0 48 (4 * v2) = true then (if ain YY 0 40 v2 = true then (if ain YY 0 48 ((4 * v2) + 1) = true then (if ain YY 0 43 (0 + v2) = true then (if ain YY 0 48 ((4 * v2) + 2) = true then (if ain YY 0 41 v2 = true then (if ain YY 0 48 ((4 * v2) + 3) = true then (if ain YY 0 42 v2 = true then F_X5_canal_55 n (v2 + 1) (wi (wi (wi (wi u 40 (Int32.toNatClampNeg v2) (mi u 48 (Int32.toNatClampNeg (4 * v2)))) 43 (Int32.toNatClampNeg (0 + v2)) (mi (wi u 40 (Int32.toNatClampNeg v2) (mi u 48 (Int32.toNatClampNeg (4 * v2)))) 48 (Int32.toNatClampNeg ((4 * v2) + 1)))) 41 (Int32.toNatClampNeg v2) (mi (wi (wi u 40 (Int32.toNatClampNeg v2) (mi u 48 (Int32.toNatClampNeg (4 * v2)))) 43 (Int32.toNatClampNeg (0 + v2)) (mi (wi u 40 (Int32.toNatClampNeg v2) (mi u 48 (Int32.toNatClampNeg (4 * v2)))) 48 (Int32.toNatClampNeg ((4 * v2) + 1)))) 48 (Int32.toNatClampNeg ((4 * v2) + 2)))) 42 (Int32.toNatClampNeg v2) (mi (wi (wi (wi u 40 (Int32.toNatClampNeg v2) (mi u 48 (Int32.toNatClampNeg (4 * v2)))) 43 (Int32.toNatClampNeg (0 + v2)) (mi (wi u 40 (Int32.toNatClampNeg v2) (mi u 48 (Int32.toNatClampNeg (4 * v2)))) 48 (Int32.toNatClampNeg ((4 * v2) + 1)))) 41 (Int32.toNatClampNeg v2) (mi (wi (wi u 40 (Int32.toNatClampNeg v2) (mi u 48 (Int32.toNatClampNeg (4 * v2)))) 43 (Int32.toNatClampNeg (0 + v2)) (mi (wi u 40 (Int32.toNatClampNeg v2) (mi u 48 (Int32.toNatClampNeg (4 * v2)))) 48 (Int32.toNatClampNeg ((4 * v2) + 1)))) 48 (Int32.toNatClampNeg ((4 * v2) + 2)))) 48 (Int32.toNatClampNeg ((4 * v2) + 3)))) else none) else none) else none) else none) else none) else none) else none) else none))
set_option maxRecDepth 20000 in
set_option maxHeartbeats 4000000 in
theorem T_X5_canal_55 : ∀ (n : Nat) (v2 : Int32) (u : XM), GF E0 YY 5 yX5_canal cX5_canal 3 (some .int) 55 [some (.ref 35), none, some (.int v2)] [] u emI (F_X5_canal_55 n v2 u) := by
  intro n
  induction n with
  | zero => intro v2 u; exact gf_none
  | succ n ih =>
    intro v2 u
    unfold F_X5_canal_55
    refine gf_iload_n (i := 2) (q := 56) dX5_canal_55 rfl rfl rfl ?_
    refine gf_aload_n (i := 0) (q := 57) dX5_canal_56 rfl rfl rfl ?_
    refine gf_getI (C := RX5) (T := TX5) (N := 33) (ci := 5) (k := 35) (j := 4) (q := 60) dX5_canal_57 rfl rfl kin5 (by decide) kw608 rfl rfl ?_
    refine gf_icmp_ge (t := 133) (q := 63) dX5_canal_60 (by decide) rfl ?_ ?_
    · refine gf_aload_n (i := 0) (q := 134) dX5_canal_133 rfl rfl rfl ?_
      refine gf_getA (C := RX5) (T := TX5) (N := 33) (ci := 5) (k := 35) (j := 9) (t := 43) (q := 137) dX5_canal_134 rfl rfl kin5 (by decide) kw613 rfl rfl ?_
      refine gf_bipush (q := 139) dX5_canal_137 kb_6 rfl ?_
      refine gf_aload_n (i := 0) (q := 140) dX5_canal_139 rfl rfl rfl ?_
      refine gf_getI (C := RX5) (T := TX5) (N := 33) (ci := 5) (k := 35) (j := 21) (q := 143) dX5_canal_140 rfl rfl kin5 (by decide) kw625 rfl rfl ?_
      refine gf_iast (q := 144) dX5_canal_143 rfl ?_
      refine gf_aload_n (i := 0) (q := 145) dX5_canal_144 rfl rfl rfl ?_
      refine gf_getA (C := RX5) (T := TX5) (N := 33) (ci := 5) (k := 35) (j := 9) (t := 43) (q := 148) dX5_canal_145 rfl rfl kin5 (by decide) kw613 rfl rfl ?_
      refine gf_bipush (q := 150) dX5_canal_148 kb_7 rfl ?_
      refine gf_iconst (q := 151) dX5_canal_150 ki_0 rfl ?_
      refine gf_iast (q := 152) dX5_canal_151 rfl ?_
      refine gf_aload_n (i := 0) (q := 153) dX5_canal_152 rfl rfl rfl ?_
      refine gf_iconst (q := 154) dX5_canal_153 ki_0 rfl ?_
      refine gf_putI (C := RX5) (T := TX5) (N := 33) (ci := 5) (k := 35) (j := 10) (q := 157) dX5_canal_154 rfl rfl kin5 tyX5 tyX5_ok nmX5 (by decide) kw614 rfl rfl rfl rfl ?_
      refine gf_iconst (q := 158) dX5_canal_157 ki_0 rfl ?_
      refine gf_istore_n (i := 2) (lv2 := [some (.ref 35), none, some (.int 0)]) (q := 159) dX5_canal_158 rfl (by decide) rfl rfl ?_
      exact (T_X5_canal_159 FU 0 (wi (wi (wi u 43 (Int32.toNatClampNeg 6) (mi u 35 21)) 43 (Int32.toNatClampNeg 7) 0) 35 10 0))
    · refine gf_aload_n (i := 0) (q := 64) dX5_canal_63 rfl rfl rfl ?_
      refine gf_getA (C := RX5) (T := TX5) (N := 33) (ci := 5) (k := 35) (j := 6) (t := 40) (q := 67) dX5_canal_64 rfl rfl kin5 (by decide) kw610 rfl rfl ?_
      refine gf_iload_n (i := 2) (q := 68) dX5_canal_67 rfl rfl rfl ?_
      refine gf_aload_n (i := 0) (q := 69) dX5_canal_68 rfl rfl rfl ?_
      refine gf_getA (C := RX5) (T := TX5) (N := 33) (ci := 5) (k := 35) (j := 23) (t := 48) (q := 72) dX5_canal_69 rfl rfl kin5 (by decide) kw627 rfl rfl ?_
      refine gf_iconst (q := 73) dX5_canal_72 ki_4 rfl ?_
      refine gf_iload_n (i := 2) (q := 74) dX5_canal_73 rfl rfl rfl ?_
      refine gf_imul (q := 75) dX5_canal_74 rfl ?_
      refine gf_iald (q := 76) dX5_canal_75 rfl ?_
      refine gf_iast (q := 77) dX5_canal_76 rfl ?_
      refine gf_aload_n (i := 0) (q := 78) dX5_canal_77 rfl rfl rfl ?_
      refine gf_getA (C := RX5) (T := TX5) (N := 33) (ci := 5) (k := 35) (j := 9) (t := 43) (q := 81) dX5_canal_78 rfl rfl kin5 (by decide) kw613 rfl rfl ?_
      refine gf_iconst (q := 82) dX5_canal_81 ki_0 rfl ?_
      refine gf_iload_n (i := 2) (q := 83) dX5_canal_82 rfl rfl rfl ?_
      refine gf_iadd (q := 84) dX5_canal_83 rfl ?_
      refine gf_aload_n (i := 0) (q := 85) dX5_canal_84 rfl rfl rfl ?_
      refine gf_getA (C := RX5) (T := TX5) (N := 33) (ci := 5) (k := 35) (j := 23) (t := 48) (q := 88) dX5_canal_85 rfl rfl kin5 (by decide) kw627 rfl rfl ?_
      refine gf_iconst (q := 89) dX5_canal_88 ki_4 rfl ?_
      refine gf_iload_n (i := 2) (q := 90) dX5_canal_89 rfl rfl rfl ?_
      refine gf_imul (q := 91) dX5_canal_90 rfl ?_
      refine gf_iconst (q := 92) dX5_canal_91 ki_1 rfl ?_
      refine gf_iadd (q := 93) dX5_canal_92 rfl ?_
      refine gf_iald (q := 94) dX5_canal_93 rfl ?_
      refine gf_iast (q := 95) dX5_canal_94 rfl ?_
      refine gf_aload_n (i := 0) (q := 96) dX5_canal_95 rfl rfl rfl ?_
      refine gf_getA (C := RX5) (T := TX5) (N := 33) (ci := 5) (k := 35) (j := 7) (t := 41) (q := 99) dX5_canal_96 rfl rfl kin5 (by decide) kw611 rfl rfl ?_
      refine gf_iload_n (i := 2) (q := 100) dX5_canal_99 rfl rfl rfl ?_
      refine gf_aload_n (i := 0) (q := 101) dX5_canal_100 rfl rfl rfl ?_
      refine gf_getA (C := RX5) (T := TX5) (N := 33) (ci := 5) (k := 35) (j := 23) (t := 48) (q := 104) dX5_canal_101 rfl rfl kin5 (by decide) kw627 rfl rfl ?_
      refine gf_iconst (q := 105) dX5_canal_104 ki_4 rfl ?_
      refine gf_iload_n (i := 2) (q := 106) dX5_canal_105 rfl rfl rfl ?_
      refine gf_imul (q := 107) dX5_canal_106 rfl ?_
      refine gf_iconst (q := 108) dX5_canal_107 ki_2 rfl ?_
      refine gf_iadd (q := 109) dX5_canal_108 rfl ?_
      refine gf_iald (q := 110) dX5_canal_109 rfl ?_
      refine gf_iast (q := 111) dX5_canal_110 rfl ?_
      refine gf_aload_n (i := 0) (q := 112) dX5_canal_111 rfl rfl rfl ?_
      refine gf_getA (C := RX5) (T := TX5) (N := 33) (ci := 5) (k := 35) (j := 8) (t := 42) (q := 115) dX5_canal_112 rfl rfl kin5 (by decide) kw612 rfl rfl ?_
      refine gf_iload_n (i := 2) (q := 116) dX5_canal_115 rfl rfl rfl ?_
      refine gf_aload_n (i := 0) (q := 117) dX5_canal_116 rfl rfl rfl ?_
      refine gf_getA (C := RX5) (T := TX5) (N := 33) (ci := 5) (k := 35) (j := 23) (t := 48) (q := 120) dX5_canal_117 rfl rfl kin5 (by decide) kw627 rfl rfl ?_
      refine gf_iconst (q := 121) dX5_canal_120 ki_4 rfl ?_
      refine gf_iload_n (i := 2) (q := 122) dX5_canal_121 rfl rfl rfl ?_
      refine gf_imul (q := 123) dX5_canal_122 rfl ?_
      refine gf_iconst (q := 124) dX5_canal_123 ki_3 rfl ?_
      refine gf_iadd (q := 125) dX5_canal_124 rfl ?_
      refine gf_iald (q := 126) dX5_canal_125 rfl ?_
      refine gf_iast (q := 127) dX5_canal_126 rfl ?_
      refine gf_iinc (v := (v2 + 1)) (lv2 := [some (.ref 35), none, some (.int (v2 + 1))]) (q := 130) dX5_canal_127 rfl (congrArg _ ki_1) (by decide) rfl rfl ?_
      refine gf_goto (q := 55) dX5_canal_130 (by decide) ?_
      exact (ih (v2 + 1) (wi (wi (wi (wi u 40 (Int32.toNatClampNeg v2) (mi u 48 (Int32.toNatClampNeg (4 * v2)))) 43 (Int32.toNatClampNeg (0 + v2)) (mi (wi u 40 (Int32.toNatClampNeg v2) (mi u 48 (Int32.toNatClampNeg (4 * v2)))) 48 (Int32.toNatClampNeg ((4 * v2) + 1)))) 41 (Int32.toNatClampNeg v2) (mi (wi (wi u 40 (Int32.toNatClampNeg v2) (mi u 48 (Int32.toNatClampNeg (4 * v2)))) 43 (Int32.toNatClampNeg (0 + v2)) (mi (wi u 40 (Int32.toNatClampNeg v2) (mi u 48 (Int32.toNatClampNeg (4 * v2)))) 48 (Int32.toNatClampNeg ((4 * v2) + 1)))) 48 (Int32.toNatClampNeg ((4 * v2) + 2)))) 42 (Int32.toNatClampNeg v2) (mi (wi (wi (wi u 40 (Int32.toNatClampNeg v2) (mi u 48 (Int32.toNatClampNeg (4 * v2)))) 43 (Int32.toNatClampNeg (0 + v2)) (mi (wi u 40 (Int32.toNatClampNeg v2) (mi u 48 (Int32.toNatClampNeg (4 * v2)))) 48 (Int32.toNatClampNeg ((4 * v2) + 1)))) 41 (Int32.toNatClampNeg v2) (mi (wi (wi u 40 (Int32.toNatClampNeg v2) (mi u 48 (Int32.toNatClampNeg (4 * v2)))) 43 (Int32.toNatClampNeg (0 + v2)) (mi (wi u 40 (Int32.toNatClampNeg v2) (mi u 48 (Int32.toNatClampNeg (4 * v2)))) 48 (Int32.toNatClampNeg ((4 * v2) + 1)))) 48 (Int32.toNatClampNeg ((4 * v2) + 2)))) 48 (Int32.toNatClampNeg ((4 * v2) + 3)))))
def F_X5_canal (v1 : Int32) (u : XM) : Option (Int32 × XM) := (Option.bind (F_X5_isText v1 u) (fun x1 => (if x1.1 = 0 then some ((-1), x1.2) else (if ain YY 0 38 v1 = true then (if 0 ≤ (mi x1.2 38 (Int32.toNatClampNeg v1)) then (Option.bind (F_X5_faultOf v1 x1.2) (fun x2 => (if x2.1 = (-9) then F_X5_canal_55 FU 0 (wi (wi x2.2 35 4 (mi x2.2 35 22)) 35 5 (mi (wi x2.2 35 4 (mi x2.2 35 22)) 35 20)) else some ((-4), x2.2)))) else (Option.bind (F_X5_found 1 x1.2) (fun x3 => some (x3.1, x3.2)))) else none))))
set_option maxRecDepth 20000 in
set_option maxHeartbeats 4000000 in
theorem T_X5_canal (v1 : Int32) (u : XM) : GF E0 YY 5 yX5_canal cX5_canal 3 (some .int) 0 [some (.ref 35), some (.int v1), none] [] u emI (F_X5_canal v1 u) := by
  unfold F_X5_canal
  refine gf_iload_n (i := 1) (q := 1) dX5_canal_0 rfl rfl rfl ?_
  refine gf_callS_i (n2 := 1) (As := [.int v1]) (st := []) (q := 4) (hlen := rfl) kw748 kw749 dX5_canal_1 kw750 kw7 (by decide +kernel) (by decide) (Nat.le_of_ble_eq_true rfl) (C_X5_isText v1 u) rfl rfl (fun x1 => ?_)
  refine gf_if_ne (t := 9) (q := 7) dX5_canal_4 (by decide) rfl ?_ ?_
  · refine gf_iconst (q := 8) dX5_canal_7 ki_m1 rfl ?_
    exact gf_reti dX5_canal_8 rfl
  · refine gf_aload_n (i := 0) (q := 10) dX5_canal_9 rfl rfl rfl ?_
    refine gf_getA (C := RX5) (T := TX5) (N := 33) (ci := 5) (k := 35) (j := 2) (t := 38) (q := 13) dX5_canal_10 rfl rfl kin5 (by decide) kw606 rfl rfl ?_
    refine gf_iload_n (i := 1) (q := 14) dX5_canal_13 rfl rfl rfl ?_
    refine gf_iald (q := 15) dX5_canal_14 rfl ?_
    refine gf_if_ge (t := 24) (q := 18) dX5_canal_15 (by decide) rfl ?_ ?_
    · refine gf_aload_n (i := 0) (q := 25) dX5_canal_24 rfl rfl rfl ?_
      refine gf_iload_n (i := 1) (q := 26) dX5_canal_25 rfl rfl rfl ?_
      refine gf_callV_i (n2 := 1) (As := [.int v1]) (st := []) (b := 35) (ci := 5) (C := RX5) (q := 29) (hlen := rfl) rfl rfl kw760 kw762 kp14 dX5_canal_26 kw763 kw7 (by decide +kernel) (by decide) (Nat.le_of_ble_eq_true rfl) (C_X5_faultOf v1 x1.2) rfl rfl (fun x2 => ?_)
      refine gf_bipush (q := 31) dX5_canal_29 kb_m9 rfl ?_
      refine gf_icmp_eq (t := 37) (q := 34) dX5_canal_31 (by decide) rfl ?_ ?_
      · refine gf_aload_n (i := 0) (q := 38) dX5_canal_37 rfl rfl rfl ?_
        refine gf_aload_n (i := 0) (q := 39) dX5_canal_38 rfl rfl rfl ?_
        refine gf_getI (C := RX5) (T := TX5) (N := 33) (ci := 5) (k := 35) (j := 22) (q := 42) dX5_canal_39 rfl rfl kin5 (by decide) kw626 rfl rfl ?_
        refine gf_putI (C := RX5) (T := TX5) (N := 33) (ci := 5) (k := 35) (j := 4) (q := 45) dX5_canal_42 rfl rfl kin5 tyX5 tyX5_ok nmX5 (by decide) kw608 rfl rfl rfl rfl ?_
        refine gf_aload_n (i := 0) (q := 46) dX5_canal_45 rfl rfl rfl ?_
        refine gf_aload_n (i := 0) (q := 47) dX5_canal_46 rfl rfl rfl ?_
        refine gf_getI (C := RX5) (T := TX5) (N := 33) (ci := 5) (k := 35) (j := 20) (q := 50) dX5_canal_47 rfl rfl kin5 (by decide) kw624 rfl rfl ?_
        refine gf_putI (C := RX5) (T := TX5) (N := 33) (ci := 5) (k := 35) (j := 5) (q := 53) dX5_canal_50 rfl rfl kin5 tyX5 tyX5_ok nmX5 (by decide) kw609 rfl rfl rfl rfl ?_
        refine gf_iconst (q := 54) dX5_canal_53 ki_0 rfl ?_
        refine gf_istore_n (i := 2) (lv2 := [some (.ref 35), some (.int v1), some (.int 0)]) (q := 55) dX5_canal_54 rfl (by decide) rfl rfl ?_
        exact gf_mask (b := [true, false, true]) rfl (T_X5_canal_55 FU 0 (wi (wi x2.2 35 4 (mi x2.2 35 22)) 35 5 (mi (wi x2.2 35 4 (mi x2.2 35 22)) 35 20)))
      · refine gf_bipush (q := 36) dX5_canal_34 kb_m4 rfl ?_
        exact gf_reti dX5_canal_36 rfl
    · refine gf_aload_n (i := 0) (q := 19) dX5_canal_18 rfl rfl rfl ?_
      refine gf_iconst (q := 20) dX5_canal_19 ki_1 rfl ?_
      refine gf_callV_i (n2 := 1) (As := [.int 1]) (st := []) (b := 35) (ci := 5) (C := RX5) (q := 23) (hlen := rfl) rfl rfl kw716 kw718 kp12 dX5_canal_20 kw719 kw7 (by decide +kernel) (by decide) (Nat.le_of_ble_eq_true rfl) (C_X5_found 1 x1.2) rfl rfl (fun x3 => ?_)
      exact gf_reti dX5_canal_23 rfl
theorem C_X5_canal (v1 : Int32) (u : XM) : CF YY 5 yX5_canal cX5_canal 3 (some .int) [.ref 35, .int v1] u emI (F_X5_canal v1 u) := cf_of (by decide +kernel) (Nat.le_of_ble_eq_true rfl) rfl (T_X5_canal v1 u)
def F_X5_isThing (v1 : Int32) (u : XM) : Option (Int32 × XM) := (Option.bind (F_X5_in (Int32.toInt64 v1) 0 (Int32.toInt64 ((mi u 35 4) - 1)) u) (fun x1 => (if vp_nar .boolean x1.1 = x1.1 then some (x1.1, x1.2) else none)))
set_option maxRecDepth 20000 in
set_option maxHeartbeats 4000000 in
theorem T_X5_isThing (v1 : Int32) (u : XM) : GF E0 YY 2 yX5_isThing cX5_isThing 2 (some .boolean) 0 [some (.ref 35), some (.int v1)] [] u emI (F_X5_isThing v1 u) := by
  unfold F_X5_isThing
  refine gf_iload_n (i := 1) (q := 1) dX5_isThing_0 rfl rfl rfl ?_
  refine gf_i2l (q := 2) dX5_isThing_1 rfl ?_
  refine gf_lconst (v := 0) (q := 3) dX5_isThing_2 rfl rfl ?_
  refine gf_aload_n (i := 0) (q := 4) dX5_isThing_3 rfl rfl rfl ?_
  refine gf_getI (C := RX5) (T := TX5) (N := 33) (ci := 5) (k := 35) (j := 4) (q := 7) dX5_isThing_4 rfl rfl kin5 (by decide) kw608 rfl rfl ?_
  refine gf_iconst (q := 8) dX5_isThing_7 ki_1 rfl ?_
  refine gf_isub (q := 9) dX5_isThing_8 rfl ?_
  refine gf_i2l (q := 10) dX5_isThing_9 rfl ?_
  refine gf_callS_i (n2 := 3) (As := [.long (Int32.toInt64 v1), .long 0, .long (Int32.toInt64 ((mi u 35 4) - 1))]) (st := []) (q := 13) (hlen := rfl) kw713 kw714 dX5_isThing_10 kw715 kw7 (by decide +kernel) (by decide) (Nat.le_of_ble_eq_true rfl) (C_X5_in (Int32.toInt64 v1) 0 (Int32.toInt64 ((mi u 35 4) - 1)) u) rfl rfl (fun x1 => ?_)
  exact gf_retb dX5_isThing_13 rfl
theorem C_X5_isThing (v1 : Int32) (u : XM) : CF YY 2 yX5_isThing cX5_isThing 2 (some .boolean) [.ref 35, .int v1] u emI (F_X5_isThing v1 u) := cf_of (by decide +kernel) (Nat.le_of_ble_eq_true rfl) rfl (T_X5_isThing v1 u)
def F_X5_isCell (v0 : Int32) (u : XM) : Option (Int32 × XM) := (Option.bind (F_X5_in (Int32.toInt64 v0) 0 7 u) (fun x1 => (if vp_nar .boolean x1.1 = x1.1 then some (x1.1, x1.2) else none)))
set_option maxRecDepth 20000 in
set_option maxHeartbeats 4000000 in
theorem T_X5_isCell (v0 : Int32) (u : XM) : GF E0 YY 2 yX5_isCell cX5_isCell 1 (some .boolean) 0 [some (.int v0)] [] u emI (F_X5_isCell v0 u) := by
  unfold F_X5_isCell
  refine gf_iload_n (i := 0) (q := 1) dX5_isCell_0 rfl rfl rfl ?_
  refine gf_i2l (q := 2) dX5_isCell_1 rfl ?_
  refine gf_lconst (v := 0) (q := 3) dX5_isCell_2 rfl rfl ?_
  refine gf_ldc2 (q := 6) dX5_isCell_3 kw837 rfl ?_
  refine gf_callS_i (n2 := 3) (As := [.long (Int32.toInt64 v0), .long 0, .long 7]) (st := []) (q := 9) (hlen := rfl) kw713 kw714 dX5_isCell_6 kw715 kw7 (by decide +kernel) (by decide) (Nat.le_of_ble_eq_true rfl) (C_X5_in (Int32.toInt64 v0) 0 7 u) rfl rfl (fun x1 => ?_)
  exact gf_retb dX5_isCell_9 rfl
theorem C_X5_isCell (v0 : Int32) (u : XM) : CF YY 2 yX5_isCell cX5_isCell 1 (some .boolean) [.int v0] u emI (F_X5_isCell v0 u) := cf_of (by decide +kernel) (Nat.le_of_ble_eq_true rfl) rfl (T_X5_isCell v0 u)
def F_X5_isTaken (v1 : Int32) (u : XM) : Option (Int32 × XM) := (if ain YY 0 43 (0 + v1) = true then (if (mi u 43 (Int32.toNatClampNeg (0 + v1))) = (-9) then some (1, u) else some (0, u)) else none)
set_option maxRecDepth 20000 in
set_option maxHeartbeats 4000000 in
theorem T_X5_isTaken (v1 : Int32) (u : XM) : GF E0 YY 1 yX5_isTaken cX5_isTaken 2 (some .boolean) 0 [some (.ref 35), some (.int v1)] [] u emI (F_X5_isTaken v1 u) := by
  unfold F_X5_isTaken
  refine gf_aload_n (i := 0) (q := 1) dX5_isTaken_0 rfl rfl rfl ?_
  refine gf_getA (C := RX5) (T := TX5) (N := 33) (ci := 5) (k := 35) (j := 9) (t := 43) (q := 4) dX5_isTaken_1 rfl rfl kin5 (by decide) kw613 rfl rfl ?_
  refine gf_iconst (q := 5) dX5_isTaken_4 ki_0 rfl ?_
  refine gf_iload_n (i := 1) (q := 6) dX5_isTaken_5 rfl rfl rfl ?_
  refine gf_iadd (q := 7) dX5_isTaken_6 rfl ?_
  refine gf_iald (q := 8) dX5_isTaken_7 rfl ?_
  refine gf_bipush (q := 10) dX5_isTaken_8 kb_m9 rfl ?_
  refine gf_icmp_ne (t := 17) (q := 13) dX5_isTaken_10 (by decide) rfl ?_ ?_
  · refine gf_iconst (q := 14) dX5_isTaken_13 ki_1 rfl ?_
    refine gf_goto (q := 18) dX5_isTaken_14 (by decide) ?_
    exact gf_retz dX5_isTaken_18 rfl rfl
  · refine gf_iconst (q := 18) dX5_isTaken_17 ki_0 rfl ?_
    exact gf_retz dX5_isTaken_18 rfl rfl
theorem C_X5_isTaken (v1 : Int32) (u : XM) : CF YY 1 yX5_isTaken cX5_isTaken 2 (some .boolean) [.ref 35, .int v1] u emI (F_X5_isTaken v1 u) := cf_of (by decide +kernel) (Nat.le_of_ble_eq_true rfl) rfl (T_X5_isTaken v1 u)
def F_X5_drifts_13 (v1 : Int32) (v3 : Int32) (s0 : Int32) (u : XM) : Option (Int32 × XM) := (tsw v1 1 [some ((s0 + 1), u), some (0, u), (if (v3 - v3 / 2 * 2) = 0 then some (s0, u) else some (0, u)), some (((-s0) - 1), u), some ((v3 - v3 / 2 * 2), u)] (some (s0, u)))
set_option maxRecDepth 20000 in
set_option maxHeartbeats 4000000 in
theorem T_X5_drifts_13 (v1 : Int32) (v3 : Int32) (s0 : Int32) (u : XM) : GF E0 YY 1 yX5_drifts cX5_drifts 5 (some .int) 13 [none, some (.int v1), none, some (.int v3), none] [.int s0] u emI (F_X5_drifts_13 v1 v3 s0 u) := by
  unfold F_X5_drifts_13
  refine gf_istore (lv2 := [none, some (.int v1), none, some (.int v3), some (.int s0)]) (q := 15) dX5_drifts_13 (by decide) rfl rfl ?_
  refine gf_iload_n (i := 1) (q := 16) dX5_drifts_15 rfl rfl rfl ?_
  refine gf_tsw (ts := [52, 57, 59, 72, 78]) (t0 := 82) dX5_drifts_16 (by decide +kernel) (xsw_c ?_ (xsw_c ?_ (xsw_c ?_ (xsw_c ?_ (xsw_c ?_ (xsw_n)))))) ?_
  · refine gf_iload (q := 54) dX5_drifts_52 rfl rfl ?_
    refine gf_iconst (q := 55) dX5_drifts_54 ki_1 rfl ?_
    refine gf_iadd (q := 56) dX5_drifts_55 rfl ?_
    exact gf_reti dX5_drifts_56 rfl
  · refine gf_iconst (q := 58) dX5_drifts_57 ki_0 rfl ?_
    exact gf_reti dX5_drifts_58 rfl
  · refine gf_iload_n (i := 3) (q := 60) dX5_drifts_59 rfl rfl rfl ?_
    refine gf_iconst (q := 61) dX5_drifts_60 ki_2 rfl ?_
    refine gf_irem_c (q := 62) dX5_drifts_61 (by decide) rfl ?_
    refine gf_if_ne (t := 70) (q := 65) dX5_drifts_62 (by decide) rfl ?_ ?_
    · refine gf_iload (q := 67) dX5_drifts_65 rfl rfl ?_
      refine gf_goto (q := 71) dX5_drifts_67 (by decide) ?_
      exact gf_reti dX5_drifts_71 rfl
    · refine gf_iconst (q := 71) dX5_drifts_70 ki_0 rfl ?_
      exact gf_reti dX5_drifts_71 rfl
  · refine gf_iload (q := 74) dX5_drifts_72 rfl rfl ?_
    refine gf_ineg (q := 75) dX5_drifts_74 rfl ?_
    refine gf_iconst (q := 76) dX5_drifts_75 ki_1 rfl ?_
    refine gf_isub (q := 77) dX5_drifts_76 rfl ?_
    exact gf_reti dX5_drifts_77 rfl
  · refine gf_iload_n (i := 3) (q := 79) dX5_drifts_78 rfl rfl rfl ?_
    refine gf_iconst (q := 80) dX5_drifts_79 ki_2 rfl ?_
    refine gf_irem_c (q := 81) dX5_drifts_80 (by decide) rfl ?_
    exact gf_reti dX5_drifts_81 rfl
  · refine gf_iload (q := 84) dX5_drifts_82 rfl rfl ?_
    exact gf_reti dX5_drifts_84 rfl
def F_X5_drifts (v1 : Int32) (v2 : Int32) (v3 : Int32) (u : XM) : Option (Int32 × XM) := (if (mi u 35 5) ≤ v2 then F_X5_drifts_13 v1 v3 0 u else F_X5_drifts_13 v1 v3 1 u)
set_option maxRecDepth 20000 in
set_option maxHeartbeats 4000000 in
theorem T_X5_drifts (v1 : Int32) (v2 : Int32) (v3 : Int32) (u : XM) : GF E0 YY 1 yX5_drifts cX5_drifts 5 (some .int) 0 [some (.ref 35), some (.int v1), some (.int v2), some (.int v3), none] [] u emI (F_X5_drifts v1 v2 v3 u) := by
  unfold F_X5_drifts
  refine gf_aload_n (i := 0) (q := 1) dX5_drifts_0 rfl rfl rfl ?_
  refine gf_getI (C := RX5) (T := TX5) (N := 33) (ci := 5) (k := 35) (j := 5) (q := 4) dX5_drifts_1 rfl rfl kin5 (by decide) kw609 rfl rfl ?_
  refine gf_iload_n (i := 2) (q := 5) dX5_drifts_4 rfl rfl rfl ?_
  refine gf_icmp_le (t := 12) (q := 8) dX5_drifts_5 (by decide) rfl ?_ ?_
  · refine gf_iconst (q := 13) dX5_drifts_12 ki_0 rfl ?_
    exact gf_mask (b := [false, true, false, true, false]) rfl (T_X5_drifts_13 v1 v3 0 u)
  · refine gf_iconst (q := 9) dX5_drifts_8 ki_1 rfl ?_
    refine gf_goto (q := 13) dX5_drifts_9 (by decide) ?_
    exact gf_mask (b := [false, true, false, true, false]) rfl (T_X5_drifts_13 v1 v3 1 u)
theorem C_X5_drifts (v1 : Int32) (v2 : Int32) (v3 : Int32) (u : XM) : CF YY 1 yX5_drifts cX5_drifts 5 (some .int) [.ref 35, .int v1, .int v2, .int v3] u emI (F_X5_drifts v1 v2 v3 u) := cf_of (by decide +kernel) (Nat.le_of_ble_eq_true rfl) rfl (T_X5_drifts v1 v2 v3 u)
def F_X5_bound (v0 : Int32) (u : XM) : Option (Int32 × XM) := (if 0 ≤ v0 then (if v0 ≤ 7 then some (v0, u) else some (7, u)) else some (0, u))
set_option maxRecDepth 20000 in
set_option maxHeartbeats 4000000 in
theorem T_X5_bound (v0 : Int32) (u : XM) : GF E0 YY 1 yX5_bound cX5_bound 1 (some .int) 0 [some (.int v0)] [] u emI (F_X5_bound v0 u) := by
  unfold F_X5_bound
  refine gf_iload_n (i := 0) (q := 1) dX5_bound_0 rfl rfl rfl ?_
  refine gf_if_ge (t := 8) (q := 4) dX5_bound_1 (by decide) rfl ?_ ?_
  · refine gf_iload_n (i := 0) (q := 9) dX5_bound_8 rfl rfl rfl ?_
    refine gf_bipush (q := 11) dX5_bound_9 kb_7 rfl ?_
    refine gf_icmp_le (t := 19) (q := 14) dX5_bound_11 (by decide) rfl ?_ ?_
    · refine gf_iload_n (i := 0) (q := 20) dX5_bound_19 rfl rfl rfl ?_
      exact gf_reti dX5_bound_20 rfl
    · refine gf_bipush (q := 16) dX5_bound_14 kb_7 rfl ?_
      refine gf_goto (q := 20) dX5_bound_16 (by decide) ?_
      exact gf_reti dX5_bound_20 rfl
  · refine gf_iconst (q := 5) dX5_bound_4 ki_0 rfl ?_
    refine gf_goto (q := 20) dX5_bound_5 (by decide) ?_
    exact gf_reti dX5_bound_20 rfl
theorem C_X5_bound (v0 : Int32) (u : XM) : CF YY 1 yX5_bound cX5_bound 1 (some .int) [.int v0] u emI (F_X5_bound v0 u) := cf_of (by decide +kernel) (Nat.le_of_ble_eq_true rfl) rfl (T_X5_bound v0 u)
