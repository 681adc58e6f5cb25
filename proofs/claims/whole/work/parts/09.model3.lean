def F_X5_movesOf_56 (k7 : Int32 → Int32 → Int32 → Int32 → Int32 → XM → Option (Int32 × XM)) (v1 : Int32) (v2 : Int32) (v3 : Int32) (v5 : Int32) (s0 : Int32) (u : XM) : Option (Int32 × XM) := k7 v1 v2 v3 s0 (v5 + 1) u
set_option maxRecDepth 20000 in
set_option maxHeartbeats 4000000 in
theorem T_X5_movesOf_56 (k7 : Int32 → Int32 → Int32 → Int32 → Int32 → XM → Option (Int32 × XM)) (hk7 : ∀ (v1 : Int32) (v2 : Int32) (v3 : Int32) (v4 : Int32) (v5 : Int32) (u : XM), GF E0 YY 5 yX5_movesOf cX5_movesOf 7 (some .int) 7 [some (.ref 35), some (.int v1), some (.int v2), some (.int v3), some (.int v4), some (.int v5), none] [] u emI (k7 v1 v2 v3 v4 v5 u)) (v1 : Int32) (v2 : Int32) (v3 : Int32) (v5 : Int32) (s0 : Int32) (u : XM) : GF E0 YY 5 yX5_movesOf cX5_movesOf 7 (some .int) 56 [some (.ref 35), some (.int v1), some (.int v2), some (.int v3), none, some (.int v5), none] [.int s0] u emI (F_X5_movesOf_56 k7 v1 v2 v3 v5 s0 u) := by
  unfold F_X5_movesOf_56
  refine gf_istore (lv2 := [some (.ref 35), some (.int v1), some (.int v2), some (.int v3), some (.int s0), some (.int v5), none]) (q := 58) dX5_movesOf_56 (by decide) rfl rfl ?_
  refine gf_iinc (v := (v5 + 1)) (lv2 := [some (.ref 35), some (.int v1), some (.int v2), some (.int v3), some (.int s0), some (.int (v5 + 1)), none]) (q := 61) dX5_movesOf_58 rfl (congrArg _ ki_1) (by decide) rfl rfl ?_
  refine gf_goto (q := 7) dX5_movesOf_61 (by decide) ?_
  exact (hk7 v1 v2 v3 s0 (v5 + 1) u)
def F_X5_movesOf_54 (k7 : Int32 → Int32 → Int32 → Int32 → Int32 → XM → Option (Int32 × XM)) (v1 : Int32) (v2 : Int32) (v3 : Int32) (v4 : Int32) (v5 : Int32) (u : XM) : Option (Int32 × XM) := F_X5_movesOf_56 (k7) v1 v2 v3 v5 v4 u
set_option maxRecDepth 20000 in
set_option maxHeartbeats 4000000 in
theorem T_X5_movesOf_54 (k7 : Int32 → Int32 → Int32 → Int32 → Int32 → XM → Option (Int32 × XM)) (hk7 : ∀ (v1 : Int32) (v2 : Int32) (v3 : Int32) (v4 : Int32) (v5 : Int32) (u : XM), GF E0 YY 5 yX5_movesOf cX5_movesOf 7 (some .int) 7 [some (.ref 35), some (.int v1), some (.int v2), some (.int v3), some (.int v4), some (.int v5), none] [] u emI (k7 v1 v2 v3 v4 v5 u)) (v1 : Int32) (v2 : Int32) (v3 : Int32) (v4 : Int32) (v5 : Int32) (u : XM) : GF E0 YY 5 yX5_movesOf cX5_movesOf 7 (some .int) 54 [some (.ref 35), some (.int v1), some (.int v2), some (.int v3), some (.int v4), some (.int v5), none] [] u emI (F_X5_movesOf_54 k7 v1 v2 v3 v4 v5 u) := by
  unfold F_X5_movesOf_54
  refine gf_iload (q := 56) dX5_movesOf_54 rfl rfl ?_
  exact gf_mask (b := [true, true, true, true, false, true, false]) rfl (T_X5_movesOf_56 (k7) hk7 v1 v2 v3 v5 v4 u)
def F_X5_movesOf_7 : Nat → Int32 → Int32 → Int32 → Int32 → Int32 → XM → Option (Int32 × XM)
  | 0, _, _, _, _, _, _ => none
  | n + 1, v1, v2, v3, v4, v5, u => (if 8 ≤ v5 then some (v4, u) else (if ain YY 0 43 (0 + v1) = true then (Option.bind (F_X5_abs (v5 - (mi u 43 (Int32.toNatClampNeg (0 + v1)))) u) (fun x1 => (if v4 ≤ x1.1 then F_X5_movesOf_54 (F_X5_movesOf_7 n) v1 v2 v3 v4 v5 x1.2 else (Option.bind (F_X5_afterOf v1 v5 v3 x1.2) (fun x2 => (if x2.1 = v2 then F_X5_movesOf_56 (F_X5_movesOf_7 n) v1 v2 v3 v5 x1.1 x2.2 else F_X5_movesOf_54 (F_X5_movesOf_7 n) v1 v2 v3 v4 v5 x2.2)))))) else none))
set_option maxRecDepth 20000 in
set_option maxHeartbeats 4000000 in
theorem T_X5_movesOf_7 : ∀ (n : Nat) (v1 : Int32) (v2 : Int32) (v3 : Int32) (v4 : Int32) (v5 : Int32) (u : XM), GF E0 YY 5 yX5_movesOf cX5_movesOf 7 (some .int) 7 [some (.ref 35), some (.int v1), some (.int v2), some (.int v3), some (.int v4), some (.int v5), none] [] u emI (F_X5_movesOf_7 n v1 v2 v3 v4 v5 u) := by
  intro n
  induction n with
  | zero => intro v1 v2 v3 v4 v5 u; exact gf_none
  | succ n ih =>
    intro v1 v2 v3 v4 v5 u
    unfold F_X5_movesOf_7
    refine gf_iload (q := 9) dX5_movesOf_7 rfl rfl ?_
    refine gf_bipush (q := 11) dX5_movesOf_9 kb_8 rfl ?_
    refine gf_icmp_ge (t := 64) (q := 14) dX5_movesOf_11 (by decide) rfl ?_ ?_
    · refine gf_iload (q := 66) dX5_movesOf_64 rfl rfl ?_
      exact gf_reti dX5_movesOf_66 rfl
    · refine gf_iload (q := 16) dX5_movesOf_14 rfl rfl ?_
      refine gf_aload_n (i := 0) (q := 17) dX5_movesOf_16 rfl rfl rfl ?_
      refine gf_getA (C := RX5) (T := TX5) (N := 33) (ci := 5) (k := 35) (j := 9) (t := 43) (q := 20) dX5_movesOf_17 rfl rfl kin5 (by decide) kw613 rfl rfl ?_
      refine gf_iconst (q := 21) dX5_movesOf_20 ki_0 rfl ?_
      refine gf_iload_n (i := 1) (q := 22) dX5_movesOf_21 rfl rfl rfl ?_
      refine gf_iadd (q := 23) dX5_movesOf_22 rfl ?_
      refine gf_iald (q := 24) dX5_movesOf_23 rfl ?_
      refine gf_isub (q := 25) dX5_movesOf_24 rfl ?_
      refine gf_callS_i (n2 := 1) (As := [.int (v5 - (mi u 43 (Int32.toNatClampNeg (0 + v1))))]) (st := []) (q := 28) (hlen := rfl) kw903 kw904 dX5_movesOf_25 kw905 kw7 (by decide +kernel) (by decide) (Nat.le_of_ble_eq_true rfl) (C_X5_abs (v5 - (mi u 43 (Int32.toNatClampNeg (0 + v1)))) u) rfl rfl (fun x1 => ?_)
      refine gf_istore (lv2 := [some (.ref 35), some (.int v1), some (.int v2), some (.int v3), some (.int v4), some (.int v5), some (.int x1.1)]) (q := 30) dX5_movesOf_28 (by decide) rfl rfl ?_
      refine gf_iload (q := 32) dX5_movesOf_30 rfl rfl ?_
      refine gf_iload (q := 34) dX5_movesOf_32 rfl rfl ?_
      refine gf_icmp_ge (t := 54) (q := 37) dX5_movesOf_34 (by decide) rfl ?_ ?_
      · exact gf_mask (b := [true, true, true, true, true, true, false]) rfl (T_X5_movesOf_54 (F_X5_movesOf_7 n) ih v1 v2 v3 v4 v5 x1.2)
      · refine gf_aload_n (i := 0) (q := 38) dX5_movesOf_37 rfl rfl rfl ?_
        refine gf_iload_n (i := 1) (q := 39) dX5_movesOf_38 rfl rfl rfl ?_
        refine gf_iload (q := 41) dX5_movesOf_39 rfl rfl ?_
        refine gf_iload_n (i := 3) (q := 42) dX5_movesOf_41 rfl rfl rfl ?_
        refine gf_callV_i (n2 := 3) (As := [.int v1, .int v5, .int v3]) (st := []) (b := 35) (ci := 5) (C := RX5) (q := 45) (hlen := rfl) rfl rfl kw857 kw859 kp29 dX5_movesOf_42 kw860 kw7 (by decide +kernel) (by decide) (Nat.le_of_ble_eq_true rfl) (C_X5_afterOf v1 v5 v3 x1.2) rfl rfl (fun x2 => ?_)
        refine gf_iload_n (i := 2) (q := 46) dX5_movesOf_45 rfl rfl rfl ?_
        refine gf_icmp_ne (t := 54) (q := 49) dX5_movesOf_46 (by decide) rfl ?_ ?_
        · refine gf_iload (q := 51) dX5_movesOf_49 rfl rfl ?_
          refine gf_goto (q := 56) dX5_movesOf_51 (by decide) ?_
          exact gf_mask (b := [true, true, true, true, false, true, false]) rfl (T_X5_movesOf_56 (F_X5_movesOf_7 n) ih v1 v2 v3 v5 x1.1 x2.2)
        · exact gf_mask (b := [true, true, true, true, true, true, false]) rfl (T_X5_movesOf_54 (F_X5_movesOf_7 n) ih v1 v2 v3 v4 v5 x2.2)
def F_X5_movesOf (v1 : Int32) (v2 : Int32) (v3 : Int32) (u : XM) : Option (Int32 × XM) := F_X5_movesOf_7 FU v1 v2 v3 1000000 0 u
set_option maxRecDepth 20000 in
set_option maxHeartbeats 4000000 in
theorem T_X5_movesOf (v1 : Int32) (v2 : Int32) (v3 : Int32) (u : XM) : GF E0 YY 5 yX5_movesOf cX5_movesOf 7 (some .int) 0 [some (.ref 35), some (.int v1), some (.int v2), some (.int v3), none, none, none] [] u emI (F_X5_movesOf v1 v2 v3 u) := by
  unfold F_X5_movesOf
  refine gf_ldc (q := 2) dX5_movesOf_0 kw945 rfl ?_
  refine gf_istore (lv2 := [some (.ref 35), some (.int v1), some (.int v2), some (.int v3), some (.int 1000000), none, none]) (q := 4) dX5_movesOf_2 (by decide) rfl rfl ?_
  refine gf_iconst (q := 5) dX5_movesOf_4 ki_0 rfl ?_
  refine gf_istore (lv2 := [some (.ref 35), some (.int v1), some (.int v2), some (.int v3), some (.int 1000000), some (.int 0), none]) (q := 7) dX5_movesOf_5 (by decide) rfl rfl ?_
  exact (T_X5_movesOf_7 FU v1 v2 v3 1000000 0 u)
theorem C_X5_movesOf (v1 : Int32) (v2 : Int32) (v3 : Int32) (u : XM) : CF YY 5 yX5_movesOf cX5_movesOf 7 (some .int) [.ref 35, .int v1, .int v2, .int v3] u emI (F_X5_movesOf v1 v2 v3 u) := cf_of (by decide +kernel) (Nat.le_of_ble_eq_true rfl) rfl (T_X5_movesOf v1 v2 v3 u)
def F_X5_moves (v1 : Int32) (v2 : Int32) (v3 : Int32) (u : XM) : Option (Int32 × XM) := (Option.bind (F_X5_isThing v1 u) (fun x1 => (if x1.1 = 0 then some ((-1), x1.2) else (Option.bind (F_X5_isCell v2 x1.2) (fun x2 => (if x2.1 = 0 then some ((-1), x2.2) else (Option.bind (F_X5_in (Int32.toInt64 v3) 0 20 x2.2) (fun x3 => (if x3.1 = 0 then some ((-1), x3.2) else (Option.bind (F_X5_isTaken v1 x3.2) (fun x4 => (if x4.1 = 0 then (Option.bind (F_X5_movesOf v1 v2 v3 x4.2) (fun x5 => (if x5.1 = 1000000 then some ((-9), x5.2) else some (x5.1, x5.2)))) else some ((-4), x4.2)))))))))))))
set_option maxRecDepth 20000 in
set_option maxHeartbeats 4000000 in
theorem T_X5_moves (v1 : Int32) (v2 : Int32) (v3 : Int32) (u : XM) : GF E0 YY 6 yX5_moves cX5_moves 5 (some .int) 0 [some (.ref 35), some (.int v1), some (.int v2), some (.int v3), none] [] u emI (F_X5_moves v1 v2 v3 u) := by
  unfold F_X5_moves
  refine gf_aload_n (i := 0) (q := 1) dX5_moves_0 rfl rfl rfl ?_
  refine gf_iload_n (i := 1) (q := 2) dX5_moves_1 rfl rfl rfl ?_
  refine gf_callV_i (n2 := 1) (As := [.int v1]) (st := []) (b := 35) (ci := 5) (C := RX5) (q := 5) (hlen := rfl) rfl rfl kw795 kw797 kp20 dX5_moves_2 kw798 kw7 (by decide +kernel) (by decide) (Nat.le_of_ble_eq_true rfl) (C_X5_isThing v1 u) rfl rfl (fun x1 => ?_)
  refine gf_if_eq (t := 27) (q := 8) dX5_moves_5 (by decide) rfl ?_ ?_
  · refine gf_iconst (q := 28) dX5_moves_27 ki_m1 rfl ?_
    exact gf_reti dX5_moves_28 rfl
  · refine gf_iload_n (i := 2) (q := 9) dX5_moves_8 rfl rfl rfl ?_
    refine gf_callS_i (n2 := 1) (As := [.int v2]) (st := []) (q := 12) (hlen := rfl) kw834 kw835 dX5_moves_9 kw836 kw7 (by decide +kernel) (by decide) (Nat.le_of_ble_eq_true rfl) (C_X5_isCell v2 x1.2) rfl rfl (fun x2 => ?_)
    refine gf_if_eq (t := 27) (q := 15) dX5_moves_12 (by decide) rfl ?_ ?_
    · refine gf_iconst (q := 28) dX5_moves_27 ki_m1 rfl ?_
      exact gf_reti dX5_moves_28 rfl
    · refine gf_iload_n (i := 3) (q := 16) dX5_moves_15 rfl rfl rfl ?_
      refine gf_i2l (q := 17) dX5_moves_16 rfl ?_
      refine gf_lconst (v := 0) (q := 18) dX5_moves_17 rfl rfl ?_
      refine gf_ldc2 (q := 21) dX5_moves_18 kw940 rfl ?_
      refine gf_callS_i (n2 := 3) (As := [.long (Int32.toInt64 v3), .long 0, .long 20]) (st := []) (q := 24) (hlen := rfl) kw713 kw714 dX5_moves_21 kw715 kw7 (by decide +kernel) (by decide) (Nat.le_of_ble_eq_true rfl) (C_X5_in (Int32.toInt64 v3) 0 20 x2.2) rfl rfl (fun x3 => ?_)
      refine gf_if_ne (t := 29) (q := 27) dX5_moves_24 (by decide) rfl ?_ ?_
      · refine gf_iconst (q := 28) dX5_moves_27 ki_m1 rfl ?_
        exact gf_reti dX5_moves_28 rfl
      · refine gf_aload_n (i := 0) (q := 30) dX5_moves_29 rfl rfl rfl ?_
        refine gf_iload_n (i := 1) (q := 31) dX5_moves_30 rfl rfl rfl ?_
        refine gf_callV_i (n2 := 1) (As := [.int v1]) (st := []) (b := 35) (ci := 5) (C := RX5) (q := 34) (hlen := rfl) rfl rfl kw815 kw817 kp23 dX5_moves_31 kw818 kw7 (by decide +kernel) (by decide) (Nat.le_of_ble_eq_true rfl) (C_X5_isTaken v1 x3.2) rfl rfl (fun x4 => ?_)
        refine gf_if_eq (t := 40) (q := 37) dX5_moves_34 (by decide) rfl ?_ ?_
        · refine gf_aload_n (i := 0) (q := 41) dX5_moves_40 rfl rfl rfl ?_
          refine gf_iload_n (i := 1) (q := 42) dX5_moves_41 rfl rfl rfl ?_
          refine gf_iload_n (i := 2) (q := 43) dX5_moves_42 rfl rfl rfl ?_
          refine gf_iload_n (i := 3) (q := 44) dX5_moves_43 rfl rfl rfl ?_
          refine gf_callV_i (n2 := 3) (As := [.int v1, .int v2, .int v3]) (st := []) (b := 35) (ci := 5) (C := RX5) (q := 47) (hlen := rfl) rfl rfl kw941 kw943 kp38 dX5_moves_44 kw944 kw7 (by decide +kernel) (by decide) (Nat.le_of_ble_eq_true rfl) (C_X5_movesOf v1 v2 v3 x4.2) rfl rfl (fun x5 => ?_)
          refine gf_istore (lv2 := [some (.ref 35), some (.int v1), some (.int v2), some (.int v3), some (.int x5.1)]) (q := 49) dX5_moves_47 (by decide) rfl rfl ?_
          refine gf_iload (q := 51) dX5_moves_49 rfl rfl ?_
          refine gf_ldc (q := 53) dX5_moves_51 kw945 rfl ?_
          refine gf_icmp_ne (t := 61) (q := 56) dX5_moves_53 (by decide) rfl ?_ ?_
          · refine gf_bipush (q := 58) dX5_moves_56 kb_m9 rfl ?_
            refine gf_goto (q := 63) dX5_moves_58 (by decide) ?_
            exact gf_reti dX5_moves_63 rfl
          · refine gf_iload (q := 63) dX5_moves_61 rfl rfl ?_
            exact gf_reti dX5_moves_63 rfl
        · refine gf_bipush (q := 39) dX5_moves_37 kb_m4 rfl ?_
          exact gf_reti dX5_moves_39 rfl
theorem C_X5_moves (v1 : Int32) (v2 : Int32) (v3 : Int32) (u : XM) : CF YY 6 yX5_moves cX5_moves 5 (some .int) [.ref 35, .int v1, .int v2, .int v3] u emI (F_X5_moves v1 v2 v3 u) := cf_of (by decide +kernel) (Nat.le_of_ble_eq_true rfl) rfl (T_X5_moves v1 v2 v3 u)
def F_X5_owned_61 (k28 : Int32 → Int32 → Int32 → XM → Option (Int32 × XM)) (v1 : Int32) (v3 : Int32) (s0 : Int32) (s1 : Int32) (u : XM) : Option (Int32 × XM) := k28 v1 (s1 + s0) (v3 + 1) u
set_option maxRecDepth 20000 in
set_option maxHeartbeats 4000000 in
theorem T_X5_owned_61 (k28 : Int32 → Int32 → Int32 → XM → Option (Int32 × XM)) (hk28 : ∀ (v1 : Int32) (v2 : Int32) (v3 : Int32) (u : XM), GF E0 YY 6 yX5_owned cX5_owned 4 (some .int) 28 [some (.ref 35), some (.int v1), some (.int v2), some (.int v3)] [] u emI (k28 v1 v2 v3 u)) (v1 : Int32) (v3 : Int32) (s0 : Int32) (s1 : Int32) (u : XM) : GF E0 YY 6 yX5_owned cX5_owned 4 (some .int) 61 [some (.ref 35), some (.int v1), none, some (.int v3)] [.int s0, .int s1] u emI (F_X5_owned_61 k28 v1 v3 s0 s1 u) := by
  unfold F_X5_owned_61
  refine gf_iadd (q := 62) dX5_owned_61 rfl ?_
  refine gf_istore_n (i := 2) (lv2 := [some (.ref 35), some (.int v1), some (.int (s1 + s0)), some (.int v3)]) (q := 63) dX5_owned_62 rfl (by decide) rfl rfl ?_
  refine gf_iinc (v := (v3 + 1)) (lv2 := [some (.ref 35), some (.int v1), some (.int (s1 + s0)), some (.int (v3 + 1))]) (q := 66) dX5_owned_63 rfl (congrArg _ ki_1) (by decide) rfl rfl ?_
  refine gf_goto (q := 28) dX5_owned_66 (by decide) ?_
  exact (hk28 v1 (s1 + s0) (v3 + 1) u)
def F_X5_owned_28 : Nat → Int32 → Int32 → Int32 → XM → Option (Int32 × XM)
  | 0, _, _, _, _ => none
  | n + 1, v1, v2, v3, u => (if (mi u 35 4) ≤ v3 then (if v2 < 1000000 then some (v2, u) else some ((-9), u)) else (Option.bind (F_X5_isTaken v3 u) (fun x1 => (if x1.1 = 0 then (if ain YY 0 42 v3 = true then (Option.bind (F_X5_movesOf v3 (mi x1.2 42 (Int32.toNatClampNeg v3)) v1 x1.2) (fun x2 => F_X5_owned_61 (F_X5_owned_28 n) v1 v3 x2.1 v2 x2.2)) else none) else F_X5_owned_61 (F_X5_owned_28 n) v1 v3 0 v2 x1.2))))
set_option maxRecDepth 20000 in
set_option maxHeartbeats 4000000 in
theorem T_X5_owned_28 : ∀ (n : Nat) (v1 : Int32) (v2 : Int32) (v3 : Int32) (u : XM), GF E0 YY 6 yX5_owned cX5_owned 4 (some .int) 28 [some (.ref 35), some (.int v1), some (.int v2), some (.int v3)] [] u emI (F_X5_owned_28 n v1 v2 v3 u) := by
  intro n
  induction n with
  | zero => intro v1 v2 v3 u; exact gf_none
  | succ n ih =>
    intro v1 v2 v3 u
    unfold F_X5_owned_28
    refine gf_iload_n (i := 3) (q := 29) dX5_owned_28 rfl rfl rfl ?_
    refine gf_aload_n (i := 0) (q := 30) dX5_owned_29 rfl rfl rfl ?_
    refine gf_getI (C := RX5) (T := TX5) (N := 33) (ci := 5) (k := 35) (j := 4) (q := 33) dX5_owned_30 rfl rfl kin5 (by decide) kw608 rfl rfl ?_
    refine gf_icmp_ge (t := 69) (q := 36) dX5_owned_33 (by decide) rfl ?_ ?_
    · refine gf_iload_n (i := 2) (q := 70) dX5_owned_69 rfl rfl rfl ?_
      refine gf_ldc (q := 72) dX5_owned_70 kw945 rfl ?_
      refine gf_icmp_lt (t := 80) (q := 75) dX5_owned_72 (by decide) rfl ?_ ?_
      · refine gf_iload_n (i := 2) (q := 81) dX5_owned_80 rfl rfl rfl ?_
        exact gf_reti dX5_owned_81 rfl
      · refine gf_bipush (q := 77) dX5_owned_75 kb_m9 rfl ?_
        refine gf_goto (q := 81) dX5_owned_77 (by decide) ?_
        exact gf_reti dX5_owned_81 rfl
    · refine gf_iload_n (i := 2) (q := 37) dX5_owned_36 rfl rfl rfl ?_
      refine gf_aload_n (i := 0) (q := 38) dX5_owned_37 rfl rfl rfl ?_
      refine gf_iload_n (i := 3) (q := 39) dX5_owned_38 rfl rfl rfl ?_
      refine gf_callV_i (n2 := 1) (As := [.int v3]) (st := [.int v2]) (b := 35) (ci := 5) (C := RX5) (q := 42) (hlen := rfl) rfl rfl kw815 kw817 kp23 dX5_owned_39 kw818 kw7 (by decide +kernel) (by decide) (Nat.le_of_ble_eq_true rfl) (C_X5_isTaken v3 u) rfl rfl (fun x1 => ?_)
      refine gf_if_eq (t := 49) (q := 45) dX5_owned_42 (by decide) rfl ?_ ?_
      · refine gf_aload_n (i := 0) (q := 50) dX5_owned_49 rfl rfl rfl ?_
        refine gf_iload_n (i := 3) (q := 51) dX5_owned_50 rfl rfl rfl ?_
        refine gf_aload_n (i := 0) (q := 52) dX5_owned_51 rfl rfl rfl ?_
        refine gf_getA (C := RX5) (T := TX5) (N := 33) (ci := 5) (k := 35) (j := 8) (t := 42) (q := 55) dX5_owned_52 rfl rfl kin5 (by decide) kw612 rfl rfl ?_
        refine gf_iload_n (i := 3) (q := 56) dX5_owned_55 rfl rfl rfl ?_
        refine gf_iald (q := 57) dX5_owned_56 rfl ?_
        refine gf_iload_n (i := 1) (q := 58) dX5_owned_57 rfl rfl rfl ?_
        refine gf_callV_i (n2 := 3) (As := [.int v3, .int (mi x1.2 42 (Int32.toNatClampNeg v3)), .int v1]) (st := [.int v2]) (b := 35) (ci := 5) (C := RX5) (q := 61) (hlen := rfl) rfl rfl kw941 kw943 kp38 dX5_owned_58 kw944 kw7 (by decide +kernel) (by decide) (Nat.le_of_ble_eq_true rfl) (C_X5_movesOf v3 (mi x1.2 42 (Int32.toNatClampNeg v3)) v1 x1.2) rfl rfl (fun x2 => ?_)
        exact gf_mask (b := [true, true, false, true]) rfl (T_X5_owned_61 (F_X5_owned_28 n) ih v1 v3 x2.1 v2 x2.2)
      · refine gf_iconst (q := 46) dX5_owned_45 ki_0 rfl ?_
        refine gf_goto (q := 61) dX5_owned_46 (by decide) ?_
        exact gf_mask (b := [true, true, false, true]) rfl (T_X5_owned_61 (F_X5_owned_28 n) ih v1 v3 0 v2 x1.2)
def F_X5_owned (v1 : Int32) (u : XM) : Option (Int32 × XM) := (Option.bind (F_X5_in (Int32.toInt64 v1) 0 20 u) (fun x3 => (if x3.1 = 0 then some ((-1), x3.2) else (if (mi x3.2 35 4) = 0 then some ((-4), x3.2) else F_X5_owned_28 FU v1 0 0 x3.2))))
set_option maxRecDepth 20000 in
set_option maxHeartbeats 4000000 in
theorem T_X5_owned (v1 : Int32) (u : XM) : GF E0 YY 6 yX5_owned cX5_owned 4 (some .int) 0 [some (.ref 35), some (.int v1), none, none] [] u emI (F_X5_owned v1 u) := by
  unfold F_X5_owned
  refine gf_iload_n (i := 1) (q := 1) dX5_owned_0 rfl rfl rfl ?_
  refine gf_i2l (q := 2) dX5_owned_1 rfl ?_
  refine gf_lconst (v := 0) (q := 3) dX5_owned_2 rfl rfl ?_
  refine gf_ldc2 (q := 6) dX5_owned_3 kw940 rfl ?_
  refine gf_callS_i (n2 := 3) (As := [.long (Int32.toInt64 v1), .long 0, .long 20]) (st := []) (q := 9) (hlen := rfl) kw713 kw714 dX5_owned_6 kw715 kw7 (by decide +kernel) (by decide) (Nat.le_of_ble_eq_true rfl) (C_X5_in (Int32.toInt64 v1) 0 20 u) rfl rfl (fun x3 => ?_)
  refine gf_if_ne (t := 14) (q := 12) dX5_owned_9 (by decide) rfl ?_ ?_
  · refine gf_iconst (q := 13) dX5_owned_12 ki_m1 rfl ?_
    exact gf_reti dX5_owned_13 rfl
  · refine gf_aload_n (i := 0) (q := 15) dX5_owned_14 rfl rfl rfl ?_
    refine gf_getI (C := RX5) (T := TX5) (N := 33) (ci := 5) (k := 35) (j := 4) (q := 18) dX5_owned_15 rfl rfl kin5 (by decide) kw608 rfl rfl ?_
    refine gf_if_ne (t := 24) (q := 21) dX5_owned_18 (by decide) rfl ?_ ?_
    · refine gf_bipush (q := 23) dX5_owned_21 kb_m4 rfl ?_
      exact gf_reti dX5_owned_23 rfl
    · refine gf_iconst (q := 25) dX5_owned_24 ki_0 rfl ?_
      refine gf_istore_n (i := 2) (lv2 := [some (.ref 35), some (.int v1), some (.int 0), none]) (q := 26) dX5_owned_25 rfl (by decide) rfl rfl ?_
      refine gf_iconst (q := 27) dX5_owned_26 ki_0 rfl ?_
      refine gf_istore_n (i := 3) (lv2 := [some (.ref 35), some (.int v1), some (.int 0), some (.int 0)]) (q := 28) dX5_owned_27 rfl (by decide) rfl rfl ?_
      exact (T_X5_owned_28 FU v1 0 0 x3.2)
theorem C_X5_owned (v1 : Int32) (u : XM) : CF YY 6 yX5_owned cX5_owned 4 (some .int) [.ref 35, .int v1] u emI (F_X5_owned v1 u) := cf_of (by decide +kernel) (Nat.le_of_ble_eq_true rfl) rfl (T_X5_owned v1 u)
def F_X5_thrown_64 (k35 : Int32 → Int32 → Int32 → Int32 → Int32 → XM → Option (Int32 × XM)) (v1 : Int32) (v2 : Int32) (v3 : Int32) (v5 : Int32) (s0 : Int32) (s1 : Int32) (u : XM) : Option (Int32 × XM) := k35 v1 v2 v3 (s1 ||| s0) (v5 + 1) u
set_option maxRecDepth 20000 in
set_option maxHeartbeats 4000000 in
theorem T_X5_thrown_64 (k35 : Int32 → Int32 → Int32 → Int32 → Int32 → XM → Option (Int32 × XM)) (hk35 : ∀ (v1 : Int32) (v2 : Int32) (v3 : Int32) (v4 : Int32) (v5 : Int32) (u : XM), GF E0 YY 5 yX5_thrown cX5_thrown 6 (some .int) 35 [some (.ref 35), some (.int v1), some (.int v2), some (.int v3), some (.int v4), some (.int v5)] [] u emI (k35 v1 v2 v3 v4 v5 u)) (v1 : Int32) (v2 : Int32) (v3 : Int32) (v5 : Int32) (s0 : Int32) (s1 : Int32) (u : XM) : GF E0 YY 5 yX5_thrown cX5_thrown 6 (some .int) 64 [some (.ref 35), some (.int v1), some (.int v2), some (.int v3), none, some (.int v5)] [.int s0, .int s1] u emI (F_X5_thrown_64 k35 v1 v2 v3 v5 s0 s1 u) := by
  unfold F_X5_thrown_64
  refine gf_ior (q := 65) dX5_thrown_64 rfl ?_
  refine gf_istore (lv2 := [some (.ref 35), some (.int v1), some (.int v2), some (.int v3), some (.int (s1 ||| s0)), some (.int v5)]) (q := 67) dX5_thrown_65 (by decide) rfl rfl ?_
  refine gf_iinc (v := (v5 + 1)) (lv2 := [some (.ref 35), some (.int v1), some (.int v2), some (.int v3), some (.int (s1 ||| s0)), some (.int (v5 + 1))]) (q := 70) dX5_thrown_67 rfl (congrArg _ ki_1) (by decide) rfl rfl ?_
  refine gf_goto (q := 35) dX5_thrown_70 (by decide) ?_
  exact (hk35 v1 v2 v3 (s1 ||| s0) (v5 + 1) u)
def F_X5_thrown_35 : Nat → Int32 → Int32 → Int32 → Int32 → Int32 → XM → Option (Int32 × XM)
  | 0, _, _, _, _, _, _ => none
  | n + 1, v1, v2, v3, v4, v5, u => (if 8 ≤ v5 then some (v4, u) else (Option.bind (F_X5_afterOf v1 v5 v3 u) (fun x1 => (if x1.1 = v2 then F_X5_thrown_64 (F_X5_thrown_35 n) v1 v2 v3 v5 (1 <<< (v5 &&& 31)) v4 x1.2 else F_X5_thrown_64 (F_X5_thrown_35 n) v1 v2 v3 v5 0 v4 x1.2))))
set_option maxRecDepth 20000 in
set_option maxHeartbeats 4000000 in
theorem T_X5_thrown_35 : ∀ (n : Nat) (v1 : Int32) (v2 : Int32) (v3 : Int32) (v4 : Int32) (v5 : Int32) (u : XM), GF E0 YY 5 yX5_thrown cX5_thrown 6 (some .int) 35 [some (.ref 35), some (.int v1), some (.int v2), some (.int v3), some (.int v4), some (.int v5)] [] u emI (F_X5_thrown_35 n v1 v2 v3 v4 v5 u) := by
  intro n
  induction n with
  | zero => intro v1 v2 v3 v4 v5 u; exact gf_none
  | succ n ih =>
    intro v1 v2 v3 v4 v5 u
    unfold F_X5_thrown_35
    refine gf_iload (q := 37) dX5_thrown_35 rfl rfl ?_
    refine gf_bipush (q := 39) dX5_thrown_37 kb_8 rfl ?_
    refine gf_icmp_ge (t := 73) (q := 42) dX5_thrown_39 (by decide) rfl ?_ ?_
    · refine gf_iload (q := 75) dX5_thrown_73 rfl rfl ?_
      exact gf_reti dX5_thrown_75 rfl
    · refine gf_iload (q := 44) dX5_thrown_42 rfl rfl ?_
      refine gf_aload_n (i := 0) (q := 45) dX5_thrown_44 rfl rfl rfl ?_
      refine gf_iload_n (i := 1) (q := 46) dX5_thrown_45 rfl rfl rfl ?_
      refine gf_iload (q := 48) dX5_thrown_46 rfl rfl ?_
      refine gf_iload_n (i := 3) (q := 49) dX5_thrown_48 rfl rfl rfl ?_
      refine gf_callV_i (n2 := 3) (As := [.int v1, .int v5, .int v3]) (st := [.int v4]) (b := 35) (ci := 5) (C := RX5) (q := 52) (hlen := rfl) rfl rfl kw857 kw859 kp29 dX5_thrown_49 kw860 kw7 (by decide +kernel) (by decide) (Nat.le_of_ble_eq_true rfl) (C_X5_afterOf v1 v5 v3 u) rfl rfl (fun x1 => ?_)
      refine gf_iload_n (i := 2) (q := 53) dX5_thrown_52 rfl rfl rfl ?_
      refine gf_icmp_ne (t := 63) (q := 56) dX5_thrown_53 (by decide) rfl ?_ ?_
      · refine gf_iconst (q := 57) dX5_thrown_56 ki_1 rfl ?_
        refine gf_iload (q := 59) dX5_thrown_57 rfl rfl ?_
        refine gf_ishl (q := 60) dX5_thrown_59 rfl ?_
        refine gf_goto (q := 64) dX5_thrown_60 (by decide) ?_
        exact gf_mask (b := [true, true, true, true, false, true]) rfl (T_X5_thrown_64 (F_X5_thrown_35 n) ih v1 v2 v3 v5 (1 <<< (v5 &&& 31)) v4 x1.2)
      · refine gf_iconst (q := 64) dX5_thrown_63 ki_0 rfl ?_
        exact gf_mask (b := [true, true, true, true, false, true]) rfl (T_X5_thrown_64 (F_X5_thrown_35 n) ih v1 v2 v3 v5 0 v4 x1.2)
def F_X5_thrown (v1 : Int32) (v2 : Int32) (v3 : Int32) (u : XM) : Option (Int32 × XM) := (Option.bind (F_X5_isThing v1 u) (fun x2 => (if x2.1 = 0 then some ((-1), x2.2) else (Option.bind (F_X5_isCell v2 x2.2) (fun x3 => (if x3.1 = 0 then some ((-1), x3.2) else (Option.bind (F_X5_in (Int32.toInt64 v3) 0 20 x3.2) (fun x4 => (if x4.1 = 0 then some ((-1), x4.2) else F_X5_thrown_35 FU v1 v2 v3 0 0 x4.2)))))))))
set_option maxRecDepth 20000 in
set_option maxHeartbeats 4000000 in
theorem T_X5_thrown (v1 : Int32) (v2 : Int32) (v3 : Int32) (u : XM) : GF E0 YY 5 yX5_thrown cX5_thrown 6 (some .int) 0 [some (.ref 35), some (.int v1), some (.int v2), some (.int v3), none, none] [] u emI (F_X5_thrown v1 v2 v3 u) := by
  unfold F_X5_thrown
  refine gf_aload_n (i := 0) (q := 1) dX5_thrown_0 rfl rfl rfl ?_
  refine gf_iload_n (i := 1) (q := 2) dX5_thrown_1 rfl rfl rfl ?_
  refine gf_callV_i (n2 := 1) (As := [.int v1]) (st := []) (b := 35) (ci := 5) (C := RX5) (q := 5) (hlen := rfl) rfl rfl kw795 kw797 kp20 dX5_thrown_2 kw798 kw7 (by decide +kernel) (by decide) (Nat.le_of_ble_eq_true rfl) (C_X5_isThing v1 u) rfl rfl (fun x2 => ?_)
  refine gf_if_eq (t := 27) (q := 8) dX5_thrown_5 (by decide) rfl ?_ ?_
  · refine gf_iconst (q := 28) dX5_thrown_27 ki_m1 rfl ?_
    exact gf_reti dX5_thrown_28 rfl
  · refine gf_iload_n (i := 2) (q := 9) dX5_thrown_8 rfl rfl rfl ?_
    refine gf_callS_i (n2 := 1) (As := [.int v2]) (st := []) (q := 12) (hlen := rfl) kw834 kw835 dX5_thrown_9 kw836 kw7 (by decide +kernel) (by decide) (Nat.le_of_ble_eq_true rfl) (C_X5_isCell v2 x2.2) rfl rfl (fun x3 => ?_)
    refine gf_if_eq (t := 27) (q := 15) dX5_thrown_12 (by decide) rfl ?_ ?_
    · refine gf_iconst (q := 28) dX5_thrown_27 ki_m1 rfl ?_
      exact gf_reti dX5_thrown_28 rfl
    · refine gf_iload_n (i := 3) (q := 16) dX5_thrown_15 rfl rfl rfl ?_
      refine gf_i2l (q := 17) dX5_thrown_16 rfl ?_
      refine gf_lconst (v := 0) (q := 18) dX5_thrown_17 rfl rfl ?_
      refine gf_ldc2 (q := 21) dX5_thrown_18 kw940 rfl ?_
      refine gf_callS_i (n2 := 3) (As := [.long (Int32.toInt64 v3), .long 0, .long 20]) (st := []) (q := 24) (hlen := rfl) kw713 kw714 dX5_thrown_21 kw715 kw7 (by decide +kernel) (by decide) (Nat.le_of_ble_eq_true rfl) (C_X5_in (Int32.toInt64 v3) 0 20 x3.2) rfl rfl (fun x4 => ?_)
      refine gf_if_ne (t := 29) (q := 27) dX5_thrown_24 (by decide) rfl ?_ ?_
      · refine gf_iconst (q := 28) dX5_thrown_27 ki_m1 rfl ?_
        exact gf_reti dX5_thrown_28 rfl
      · refine gf_iconst (q := 30) dX5_thrown_29 ki_0 rfl ?_
        refine gf_istore (lv2 := [some (.ref 35), some (.int v1), some (.int v2), some (.int v3), some (.int 0), none]) (q := 32) dX5_thrown_30 (by decide) rfl rfl ?_
        refine gf_iconst (q := 33) dX5_thrown_32 ki_0 rfl ?_
        refine gf_istore (lv2 := [some (.ref 35), some (.int v1), some (.int v2), some (.int v3), some (.int 0), some (.int 0)]) (q := 35) dX5_thrown_33 (by decide) rfl rfl ?_
        exact (T_X5_thrown_35 FU v1 v2 v3 0 0 x4.2)
theorem C_X5_thrown (v1 : Int32) (v2 : Int32) (v3 : Int32) (u : XM) : CF YY 5 yX5_thrown cX5_thrown 6 (some .int) [.ref 35, .int v1, .int v2, .int v3] u emI (F_X5_thrown v1 v2 v3 u) := cf_of (by decide +kernel) (Nat.le_of_ble_eq_true rfl) rfl (T_X5_thrown v1 v2 v3 u)
def F_X5_firstOrder_53 (k7 : Int32 → XM → Option (Unit × XM)) (v1 : Int32) (u : XM) : Option (Unit × XM) := k7 (v1 + 1) u
set_option maxRecDepth 20000 in
set_option maxHeartbeats 4000000 in
theorem T_X5_firstOrder_53 (k7 : Int32 → XM → Option (Unit × XM)) (hk7 : ∀ (v1 : Int32) (u : XM), GF E0 YY 2 yX5_firstOrder cX5_firstOrder 2 none 7 [some (.ref 35), some (.int v1)] [] u emV (k7 v1 u)) (v1 : Int32) (u : XM) : GF E0 YY 2 yX5_firstOrder cX5_firstOrder 2 none 53 [some (.ref 35), some (.int v1)] [] u emV (F_X5_firstOrder_53 k7 v1 u) := by
  unfold F_X5_firstOrder_53
  refine gf_iinc (v := (v1 + 1)) (lv2 := [some (.ref 35), some (.int (v1 + 1))]) (q := 56) dX5_firstOrder_53 rfl (congrArg _ ki_1) (by decide) rfl rfl ?_
  refine gf_goto (q := 7) dX5_firstOrder_56 (by decide) ?_
  exact (hk7 (v1 + 1) u)
def F_X5_firstOrder_7 : Nat → Int32 → XM → Option (Unit × XM)
  | 0, _, _ => none
  | n + 1, v1, u => (if (mi u 35 4) ≤ v1 then some ((), u) else (Option.bind (F_X5_isTaken v1 u) (fun x1 => (if x1.1 = 0 then (if ain YY 0 49 (mi x1.2 35 28) = true then (if ain YY 0 50 (mi (wi x1.2 49 (Int32.toNatClampNeg (mi x1.2 35 28)) v1) 35 28) = true then F_X5_firstOrder_53 (F_X5_firstOrder_7 n) v1 (wi (wi (wi x1.2 49 (Int32.toNatClampNeg (mi x1.2 35 28)) v1) 50 (Int32.toNatClampNeg (mi (wi x1.2 49 (Int32.toNatClampNeg (mi x1.2 35 28)) v1) 35 28)) v1) 35 28 ((mi (wi (wi x1.2 49 (Int32.toNatClampNeg (mi x1.2 35 28)) v1) 50 (Int32.toNatClampNeg (mi (wi x1.2 49 (Int32.toNatClampNeg (mi x1.2 35 28)) v1) 35 28)) v1) 35 28) + 1)) else none) else none) else F_X5_firstOrder_53 (F_X5_firstOrder_7 n) v1 x1.2))))
set_option maxRecDepth 20000 in
set_option maxHeartbeats 4000000 in
theorem T_X5_firstOrder_7 : ∀ (n : Nat) (v1 : Int32) (u : XM), GF E0 YY 2 yX5_firstOrder cX5_firstOrder 2 none 7 [some (.ref 35), some (.int v1)] [] u emV (F_X5_firstOrder_7 n v1 u) := by
  intro n
  induction n with
  | zero => intro v1 u; exact gf_none
  | succ n ih =>
    intro v1 u
    unfold F_X5_firstOrder_7
    refine gf_iload_n (i := 1) (q := 8) dX5_firstOrder_7 rfl rfl rfl ?_
    refine gf_aload_n (i := 0) (q := 9) dX5_firstOrder_8 rfl rfl rfl ?_
    refine gf_getI (C := RX5) (T := TX5) (N := 33) (ci := 5) (k := 35) (j := 4) (q := 12) dX5_firstOrder_9 rfl rfl kin5 (by decide) kw608 rfl rfl ?_
    refine gf_icmp_ge (t := 59) (q := 15) dX5_firstOrder_12 (by decide) rfl ?_ ?_
    · exact gf_retv dX5_firstOrder_59 rfl
    · refine gf_aload_n (i := 0) (q := 16) dX5_firstOrder_15 rfl rfl rfl ?_
      refine gf_iload_n (i := 1) (q := 17) dX5_firstOrder_16 rfl rfl rfl ?_
      refine gf_callV_i (n2 := 1) (As := [.int v1]) (st := []) (b := 35) (ci := 5) (C := RX5) (q := 20) (hlen := rfl) rfl rfl kw815 kw817 kp23 dX5_firstOrder_17 kw818 kw7 (by decide +kernel) (by decide) (Nat.le_of_ble_eq_true rfl) (C_X5_isTaken v1 u) rfl rfl (fun x1 => ?_)
      refine gf_if_ne (t := 53) (q := 23) dX5_firstOrder_20 (by decide) rfl ?_ ?_
      · refine gf_aload_n (i := 0) (q := 24) dX5_firstOrder_23 rfl rfl rfl ?_
        refine gf_getA (C := RX5) (T := TX5) (N := 33) (ci := 5) (k := 35) (j := 25) (t := 49) (q := 27) dX5_firstOrder_24 rfl rfl kin5 (by decide) kw629 rfl rfl ?_
        refine gf_aload_n (i := 0) (q := 28) dX5_firstOrder_27 rfl rfl rfl ?_
        refine gf_getI (C := RX5) (T := TX5) (N := 33) (ci := 5) (k := 35) (j := 28) (q := 31) dX5_firstOrder_28 rfl rfl kin5 (by decide) kw632 rfl rfl ?_
        refine gf_iload_n (i := 1) (q := 32) dX5_firstOrder_31 rfl rfl rfl ?_
        refine gf_iast (q := 33) dX5_firstOrder_32 rfl ?_
        refine gf_aload_n (i := 0) (q := 34) dX5_firstOrder_33 rfl rfl rfl ?_
        refine gf_getA (C := RX5) (T := TX5) (N := 33) (ci := 5) (k := 35) (j := 26) (t := 50) (q := 37) dX5_firstOrder_34 rfl rfl kin5 (by decide) kw630 rfl rfl ?_
        refine gf_aload_n (i := 0) (q := 38) dX5_firstOrder_37 rfl rfl rfl ?_
        refine gf_getI (C := RX5) (T := TX5) (N := 33) (ci := 5) (k := 35) (j := 28) (q := 41) dX5_firstOrder_38 rfl rfl kin5 (by decide) kw632 rfl rfl ?_
        refine gf_iload_n (i := 1) (q := 42) dX5_firstOrder_41 rfl rfl rfl ?_
        refine gf_iast (q := 43) dX5_firstOrder_42 rfl ?_
        refine gf_aload_n (i := 0) (q := 44) dX5_firstOrder_43 rfl rfl rfl ?_
        refine gf_dup (q := 45) dX5_firstOrder_44 rfl rfl ?_
        refine gf_getI (C := RX5) (T := TX5) (N := 33) (ci := 5) (k := 35) (j := 28) (q := 48) dX5_firstOrder_45 rfl rfl kin5 (by decide) kw632 rfl rfl ?_
        refine gf_iconst (q := 49) dX5_firstOrder_48 ki_1 rfl ?_
        refine gf_iadd (q := 50) dX5_firstOrder_49 rfl ?_
        refine gf_putI (C := RX5) (T := TX5) (N := 33) (ci := 5) (k := 35) (j := 28) (q := 53) dX5_firstOrder_50 rfl rfl kin5 tyX5 tyX5_ok nmX5 (by decide) kw632 rfl rfl rfl rfl ?_
        exact (T_X5_firstOrder_53 (F_X5_firstOrder_7 n) ih v1 (wi (wi (wi x1.2 49 (Int32.toNatClampNeg (mi x1.2 35 28)) v1) 50 (Int32.toNatClampNeg (mi (wi x1.2 49 (Int32.toNatClampNeg (mi x1.2 35 28)) v1) 35 28)) v1) 35 28 ((mi (wi (wi x1.2 49 (Int32.toNatClampNeg (mi x1.2 35 28)) v1) 50 (Int32.toNatClampNeg (mi (wi x1.2 49 (Int32.toNatClampNeg (mi x1.2 35 28)) v1) 35 28)) v1) 35 28) + 1)))
      · exact (T_X5_firstOrder_53 (F_X5_firstOrder_7 n) ih v1 x1.2)
def F_X5_firstOrder  (u : XM) : Option (Unit × XM) := F_X5_firstOrder_7 FU 0 (wi u 35 28 0)
set_option maxRecDepth 20000 in
set_option maxHeartbeats 4000000 in
theorem T_X5_firstOrder  (u : XM) : GF E0 YY 2 yX5_firstOrder cX5_firstOrder 2 none 0 [some (.ref 35), none] [] u emV (F_X5_firstOrder u) := by
  unfold F_X5_firstOrder
  refine gf_aload_n (i := 0) (q := 1) dX5_firstOrder_0 rfl rfl rfl ?_
  refine gf_iconst (q := 2) dX5_firstOrder_1 ki_0 rfl ?_
  refine gf_putI (C := RX5) (T := TX5) (N := 33) (ci := 5) (k := 35) (j := 28) (q := 5) dX5_firstOrder_2 rfl rfl kin5 tyX5 tyX5_ok nmX5 (by decide) kw632 rfl rfl rfl rfl ?_
  refine gf_iconst (q := 6) dX5_firstOrder_5 ki_0 rfl ?_
  refine gf_istore_n (i := 1) (lv2 := [some (.ref 35), some (.int 0)]) (q := 7) dX5_firstOrder_6 rfl (by decide) rfl rfl ?_
  exact (T_X5_firstOrder_7 FU 0 (wi u 35 28 0))
theorem C_X5_firstOrder  (u : XM) : CF YY 2 yX5_firstOrder cX5_firstOrder 2 none [.ref 35] u emV (F_X5_firstOrder u) := cf_of (by decide +kernel) (Nat.le_of_ble_eq_true rfl) rfl (T_X5_firstOrder u)
def F_X5_exchanges (v1 : Int32) (v2 : Int32) (u : XM) : Option (Unit × XM) := (if ain YY 0 50 v1 = true then (if ain YY 0 50 v2 = true then (if ain YY 0 50 v1 = true then (if ain YY 0 50 v2 = true then some ((), (wi (wi u 50 (Int32.toNatClampNeg v1) (mi u 50 (Int32.toNatClampNeg v2))) 50 (Int32.toNatClampNeg v2) (mi u 50 (Int32.toNatClampNeg v1)))) else none) else none) else none) else none)
set_option maxRecDepth 20000 in
set_option maxHeartbeats 4000000 in
theorem T_X5_exchanges (v1 : Int32) (v2 : Int32) (u : XM) : GF E0 YY 1 yX5_exchanges cX5_exchanges 4 none 0 [some (.ref 35), some (.int v1), some (.int v2), none] [] u emV (F_X5_exchanges v1 v2 u) := by
  unfold F_X5_exchanges
  refine gf_aload_n (i := 0) (q := 1) dX5_exchanges_0 rfl rfl rfl ?_
  refine gf_getA (C := RX5) (T := TX5) (N := 33) (ci := 5) (k := 35) (j := 26) (t := 50) (q := 4) dX5_exchanges_1 rfl rfl kin5 (by decide) kw630 rfl rfl ?_
  refine gf_iload_n (i := 1) (q := 5) dX5_exchanges_4 rfl rfl rfl ?_
  refine gf_iald (q := 6) dX5_exchanges_5 rfl ?_
  refine gf_istore_n (i := 3) (lv2 := [some (.ref 35), some (.int v1), some (.int v2), some (.int (mi u 50 (Int32.toNatClampNeg v1)))]) (q := 7) dX5_exchanges_6 rfl (by decide) rfl rfl ?_
  refine gf_aload_n (i := 0) (q := 8) dX5_exchanges_7 rfl rfl rfl ?_
  refine gf_getA (C := RX5) (T := TX5) (N := 33) (ci := 5) (k := 35) (j := 26) (t := 50) (q := 11) dX5_exchanges_8 rfl rfl kin5 (by decide) kw630 rfl rfl ?_
  refine gf_iload_n (i := 1) (q := 12) dX5_exchanges_11 rfl rfl rfl ?_
  refine gf_aload_n (i := 0) (q := 13) dX5_exchanges_12 rfl rfl rfl ?_
  refine gf_getA (C := RX5) (T := TX5) (N := 33) (ci := 5) (k := 35) (j := 26) (t := 50) (q := 16) dX5_exchanges_13 rfl rfl kin5 (by decide) kw630 rfl rfl ?_
  refine gf_iload_n (i := 2) (q := 17) dX5_exchanges_16 rfl rfl rfl ?_
  refine gf_iald (q := 18) dX5_exchanges_17 rfl ?_
  refine gf_iast (q := 19) dX5_exchanges_18 rfl ?_
  refine gf_aload_n (i := 0) (q := 20) dX5_exchanges_19 rfl rfl rfl ?_
  refine gf_getA (C := RX5) (T := TX5) (N := 33) (ci := 5) (k := 35) (j := 26) (t := 50) (q := 23) dX5_exchanges_20 rfl rfl kin5 (by decide) kw630 rfl rfl ?_
  refine gf_iload_n (i := 2) (q := 24) dX5_exchanges_23 rfl rfl rfl ?_
  refine gf_iload_n (i := 3) (q := 25) dX5_exchanges_24 rfl rfl rfl ?_
  refine gf_iast (q := 26) dX5_exchanges_25 rfl ?_
  exact gf_retv dX5_exchanges_26 rfl
theorem C_X5_exchanges (v1 : Int32) (v2 : Int32) (u : XM) : CF YY 1 yX5_exchanges cX5_exchanges 4 none [.ref 35, .int v1, .int v2] u emV (F_X5_exchanges v1 v2 u) := cf_of (by decide +kernel) (Nat.le_of_ble_eq_true rfl) rfl (T_X5_exchanges v1 v2 u)
def F_X5_nextOrder_86 : Nat → Int32 → Int32 → XM → Option (Int32 × XM)
  | 0, _, _, _ => none
  | n + 1, v3, v4, u => (if v4 ≤ v3 then some (1, u) else (Option.bind (F_X5_exchanges v3 v4 u) (fun x1 => F_X5_nextOrder_86 n (v3 + 1) (v4 + (-1)) x1.2)))
set_option maxRecDepth 20000 in
set_option maxHeartbeats 4000000 in
theorem T_X5_nextOrder_86 : ∀ (n : Nat) (v3 : Int32) (v4 : Int32) (u : XM), GF E0 YY 2 yX5_nextOrder cX5_nextOrder 5 (some .boolean) 86 [some (.ref 35), none, none, some (.int v3), some (.int v4)] [] u emI (F_X5_nextOrder_86 n v3 v4 u) := by
  intro n
  induction n with
  | zero => intro v3 v4 u; exact gf_none
  | succ n ih =>
    intro v3 v4 u
    unfold F_X5_nextOrder_86
    refine gf_iload_n (i := 3) (q := 87) dX5_nextOrder_86 rfl rfl rfl ?_
    refine gf_iload (q := 89) dX5_nextOrder_87 rfl rfl ?_
    refine gf_icmp_ge (t := 108) (q := 92) dX5_nextOrder_89 (by decide) rfl ?_ ?_
    · refine gf_iconst (q := 109) dX5_nextOrder_108 ki_1 rfl ?_
      exact gf_retz dX5_nextOrder_109 rfl rfl
    · refine gf_aload_n (i := 0) (q := 93) dX5_nextOrder_92 rfl rfl rfl ?_
      refine gf_iload_n (i := 3) (q := 94) dX5_nextOrder_93 rfl rfl rfl ?_
      refine gf_iload (q := 96) dX5_nextOrder_94 rfl rfl ?_
      refine gf_callV_v (n2 := 2) (As := [.int v3, .int v4]) (st := []) (b := 35) (ci := 5) (C := RX5) (q := 99) (hlen := rfl) rfl rfl kw966 kw968 kp41 dX5_nextOrder_96 kw969 kw7 (by decide +kernel) (by decide) (Nat.le_of_ble_eq_true rfl) (C_X5_exchanges v3 v4 u) rfl rfl (fun x1 => ?_)
      refine gf_iinc (v := (v3 + 1)) (lv2 := [some (.ref 35), none, none, some (.int (v3 + 1)), some (.int v4)]) (q := 102) dX5_nextOrder_99 rfl (congrArg _ ki_1) (by decide) rfl rfl ?_
      refine gf_iinc (v := (v4 + (-1))) (lv2 := [some (.ref 35), none, none, some (.int (v3 + 1)), some (.int (v4 + (-1)))]) (q := 105) dX5_nextOrder_102 rfl (congrArg _ ki_m1) (by decide) rfl rfl ?_
      refine gf_goto (q := 86) dX5_nextOrder_105 (by decide) ?_
      exact (ih (v3 + 1) (v4 + (-1)) x1.2)
def F_X5_nextOrder_47 : Nat → Int32 → Int32 → XM → Option (Int32 × XM)
  | 0, _, _, _ => none
  | n + 1, v1, v2, u => (if ain YY 0 50 v2 = true then (if ain YY 0 50 v1 = true then (if (mi u 50 (Int32.toNatClampNeg v1)) ≤ (mi u 50 (Int32.toNatClampNeg v2)) then (Option.bind (F_X5_exchanges v1 v2 u) (fun x2 => F_X5_nextOrder_86 FU (v1 + 1) ((mi x2.2 35 28) - 1) x2.2)) else F_X5_nextOrder_47 n v1 (v2 + (-1)) u) else none) else none)
set_option maxRecDepth 20000 in
set_option maxHeartbeats 4000000 in
theorem T_X5_nextOrder_47 : ∀ (n : Nat) (v1 : Int32) (v2 : Int32) (u : XM), GF E0 YY 2 yX5_nextOrder cX5_nextOrder 5 (some .boolean) 47 [some (.ref 35), some (.int v1), some (.int v2), none, none] [] u emI (F_X5_nextOrder_47 n v1 v2 u) := by
  intro n
  induction n with
  | zero => intro v1 v2 u; exact gf_none
  | succ n ih =>
    intro v1 v2 u
    unfold F_X5_nextOrder_47
    refine gf_aload_n (i := 0) (q := 48) dX5_nextOrder_47 rfl rfl rfl ?_
    refine gf_getA (C := RX5) (T := TX5) (N := 33) (ci := 5) (k := 35) (j := 26) (t := 50) (q := 51) dX5_nextOrder_48 rfl rfl kin5 (by decide) kw630 rfl rfl ?_
    refine gf_iload_n (i := 2) (q := 52) dX5_nextOrder_51 rfl rfl rfl ?_
    refine gf_iald (q := 53) dX5_nextOrder_52 rfl ?_
    refine gf_aload_n (i := 0) (q := 54) dX5_nextOrder_53 rfl rfl rfl ?_
    refine gf_getA (C := RX5) (T := TX5) (N := 33) (ci := 5) (k := 35) (j := 26) (t := 50) (q := 57) dX5_nextOrder_54 rfl rfl kin5 (by decide) kw630 rfl rfl ?_
    refine gf_iload_n (i := 1) (q := 58) dX5_nextOrder_57 rfl rfl rfl ?_
    refine gf_iald (q := 59) dX5_nextOrder_58 rfl ?_
    refine gf_icmp_ge (t := 68) (q := 62) dX5_nextOrder_59 (by decide) rfl ?_ ?_
    · refine gf_aload_n (i := 0) (q := 69) dX5_nextOrder_68 rfl rfl rfl ?_
      refine gf_iload_n (i := 1) (q := 70) dX5_nextOrder_69 rfl rfl rfl ?_
      refine gf_iload_n (i := 2) (q := 71) dX5_nextOrder_70 rfl rfl rfl ?_
      refine gf_callV_v (n2 := 2) (As := [.int v1, .int v2]) (st := []) (b := 35) (ci := 5) (C := RX5) (q := 74) (hlen := rfl) rfl rfl kw966 kw968 kp41 dX5_nextOrder_71 kw969 kw7 (by decide +kernel) (by decide) (Nat.le_of_ble_eq_true rfl) (C_X5_exchanges v1 v2 u) rfl rfl (fun x2 => ?_)
      refine gf_iload_n (i := 1) (q := 75) dX5_nextOrder_74 rfl rfl rfl ?_
      refine gf_iconst (q := 76) dX5_nextOrder_75 ki_1 rfl ?_
      refine gf_iadd (q := 77) dX5_nextOrder_76 rfl ?_
      refine gf_istore_n (i := 3) (lv2 := [some (.ref 35), some (.int v1), some (.int v2), some (.int (v1 + 1)), none]) (q := 78) dX5_nextOrder_77 rfl (by decide) rfl rfl ?_
      refine gf_aload_n (i := 0) (q := 79) dX5_nextOrder_78 rfl rfl rfl ?_
      refine gf_getI (C := RX5) (T := TX5) (N := 33) (ci := 5) (k := 35) (j := 28) (q := 82) dX5_nextOrder_79 rfl rfl kin5 (by decide) kw632 rfl rfl ?_
      refine gf_iconst (q := 83) dX5_nextOrder_82 ki_1 rfl ?_
      refine gf_isub (q := 84) dX5_nextOrder_83 rfl ?_
      refine gf_istore (lv2 := [some (.ref 35), some (.int v1), some (.int v2), some (.int (v1 + 1)), some (.int ((mi x2.2 35 28) - 1))]) (q := 86) dX5_nextOrder_84 (by decide) rfl rfl ?_
      exact gf_mask (b := [true, false, false, true, true]) rfl (T_X5_nextOrder_86 FU (v1 + 1) ((mi x2.2 35 28) - 1) x2.2)
    · refine gf_iinc (v := (v2 + (-1))) (lv2 := [some (.ref 35), some (.int v1), some (.int (v2 + (-1))), none, none]) (q := 65) dX5_nextOrder_62 rfl (congrArg _ ki_m1) (by decide) rfl rfl ?_
      refine gf_goto (q := 47) dX5_nextOrder_65 (by decide) ?_
      exact (ih v1 (v2 + (-1)) u)
def F_X5_nextOrder_34 (v1 : Int32) (u : XM) : Option (Int32 × XM) := (if 0 ≤ v1 then F_X5_nextOrder_47 FU v1 ((mi u 35 28) - 1) u else some (0, u))
set_option maxRecDepth 20000 in
set_option maxHeartbeats 4000000 in
theorem T_X5_nextOrder_34 (v1 : Int32) (u : XM) : GF E0 YY 2 yX5_nextOrder cX5_nextOrder 5 (some .boolean) 34 [some (.ref 35), some (.int v1), none, none, none] [] u emI (F_X5_nextOrder_34 v1 u) := by
  unfold F_X5_nextOrder_34
  refine gf_iload_n (i := 1) (q := 35) dX5_nextOrder_34 rfl rfl rfl ?_
  refine gf_if_ge (t := 40) (q := 38) dX5_nextOrder_35 (by decide) rfl ?_ ?_
  · refine gf_aload_n (i := 0) (q := 41) dX5_nextOrder_40 rfl rfl rfl ?_
    refine gf_getI (C := RX5) (T := TX5) (N := 33) (ci := 5) (k := 35) (j := 28) (q := 44) dX5_nextOrder_41 rfl rfl kin5 (by decide) kw632 rfl rfl ?_
    refine gf_iconst (q := 45) dX5_nextOrder_44 ki_1 rfl ?_
    refine gf_isub (q := 46) dX5_nextOrder_45 rfl ?_
    refine gf_istore_n (i := 2) (lv2 := [some (.ref 35), some (.int v1), some (.int ((mi u 35 28) - 1)), none, none]) (q := 47) dX5_nextOrder_46 rfl (by decide) rfl rfl ?_
    exact (T_X5_nextOrder_47 FU v1 ((mi u 35 28) - 1) u)
  · refine gf_iconst (q := 39) dX5_nextOrder_38 ki_0 rfl ?_
    exact gf_retz dX5_nextOrder_39 rfl rfl
def F_X5_nextOrder_7 : Nat → Int32 → XM → Option (Int32 × XM)
  | 0, _, _ => none
  | n + 1, v1, u => (if v1 < 0 then F_X5_nextOrder_34 v1 u else (if ain YY 0 50 v1 = true then (if ain YY 0 50 (v1 + 1) = true then (if (mi u 50 (Int32.toNatClampNeg v1)) ≤ (mi u 50 (Int32.toNatClampNeg (v1 + 1))) then F_X5_nextOrder_34 v1 u else F_X5_nextOrder_7 n (v1 + (-1)) u) else none) else none))
set_option maxRecDepth 20000 in
set_option maxHeartbeats 4000000 in
theorem T_X5_nextOrder_7 : ∀ (n : Nat) (v1 : Int32) (u : XM), GF E0 YY 2 yX5_nextOrder cX5_nextOrder 5 (some .boolean) 7 [some (.ref 35), some (.int v1), none, none, none] [] u emI (F_X5_nextOrder_7 n v1 u) := by
  intro n
  induction n with
  | zero => intro v1 u; exact gf_none
  | succ n ih =>
    intro v1 u
    unfold F_X5_nextOrder_7
    refine gf_iload_n (i := 1) (q := 8) dX5_nextOrder_7 rfl rfl rfl ?_
    refine gf_if_lt (t := 34) (q := 11) dX5_nextOrder_8 (by decide) rfl ?_ ?_
    · exact (T_X5_nextOrder_34 v1 u)
    · refine gf_aload_n (i := 0) (q := 12) dX5_nextOrder_11 rfl rfl rfl ?_
      refine gf_getA (C := RX5) (T := TX5) (N := 33) (ci := 5) (k := 35) (j := 26) (t := 50) (q := 15) dX5_nextOrder_12 rfl rfl kin5 (by decide) kw630 rfl rfl ?_
      refine gf_iload_n (i := 1) (q := 16) dX5_nextOrder_15 rfl rfl rfl ?_
      refine gf_iald (q := 17) dX5_nextOrder_16 rfl ?_
      refine gf_aload_n (i := 0) (q := 18) dX5_nextOrder_17 rfl rfl rfl ?_
      refine gf_getA (C := RX5) (T := TX5) (N := 33) (ci := 5) (k := 35) (j := 26) (t := 50) (q := 21) dX5_nextOrder_18 rfl rfl kin5 (by decide) kw630 rfl rfl ?_
      refine gf_iload_n (i := 1) (q := 22) dX5_nextOrder_21 rfl rfl rfl ?_
      refine gf_iconst (q := 23) dX5_nextOrder_22 ki_1 rfl ?_
      refine gf_iadd (q := 24) dX5_nextOrder_23 rfl ?_
      refine gf_iald (q := 25) dX5_nextOrder_24 rfl ?_
      refine gf_icmp_le (t := 34) (q := 28) dX5_nextOrder_25 (by decide) rfl ?_ ?_
      · exact (T_X5_nextOrder_34 v1 u)
      · refine gf_iinc (v := (v1 + (-1))) (lv2 := [some (.ref 35), some (.int (v1 + (-1))), none, none, none]) (q := 31) dX5_nextOrder_28 rfl (congrArg _ ki_m1) (by decide) rfl rfl ?_
        refine gf_goto (q := 7) dX5_nextOrder_31 (by decide) ?_
        exact (ih (v1 + (-1)) u)
def F_X5_nextOrder  (u : XM) : Option (Int32 × XM) := F_X5_nextOrder_7 FU ((mi u 35 28) - 2) u
set_option maxRecDepth 20000 in
set_option maxHeartbeats 4000000 in
theorem T_X5_nextOrder  (u : XM) : GF E0 YY 2 yX5_nextOrder cX5_nextOrder 5 (some .boolean) 0 [some (.ref 35), none, none, none, none] [] u emI (F_X5_nextOrder u) := by
  unfold F_X5_nextOrder
  refine gf_aload_n (i := 0) (q := 1) dX5_nextOrder_0 rfl rfl rfl ?_
  refine gf_getI (C := RX5) (T := TX5) (N := 33) (ci := 5) (k := 35) (j := 28) (q := 4) dX5_nextOrder_1 rfl rfl kin5 (by decide) kw632 rfl rfl ?_
  refine gf_iconst (q := 5) dX5_nextOrder_4 ki_2 rfl ?_
  refine gf_isub (q := 6) dX5_nextOrder_5 rfl ?_
  refine gf_istore_n (i := 1) (lv2 := [some (.ref 35), some (.int ((mi u 35 28) - 2)), none, none, none]) (q := 7) dX5_nextOrder_6 rfl (by decide) rfl rfl ?_
  exact (T_X5_nextOrder_7 FU ((mi u 35 28) - 2) u)
theorem C_X5_nextOrder  (u : XM) : CF YY 2 yX5_nextOrder cX5_nextOrder 5 (some .boolean) [.ref 35] u emI (F_X5_nextOrder u) := cf_of (by decide +kernel) (Nat.le_of_ble_eq_true rfl) rfl (T_X5_nextOrder u)
def F_X5_stand_112 (k28 : Int32 → Int32 → Int32 → XM → Option (Int32 × XM)) (v1 : Int32) (v2 : Int32) (u : XM) : Option (Int32 × XM) := (Option.bind (F_X5_nextOrder u) (fun x1 => k28 v1 v2 x1.1 x1.2))
set_option maxRecDepth 20000 in
set_option maxHeartbeats 4000000 in
theorem T_X5_stand_112 (k28 : Int32 → Int32 → Int32 → XM → Option (Int32 × XM)) (hk28 : ∀ (v1 : Int32) (v2 : Int32) (v3 : Int32) (u : XM), GF E0 YY 3 yX5_stand cX5_stand 6 (some .int) 28 [some (.ref 35), some (.int v1), some (.int v2), some (.int v3), none, none] [] u emI (k28 v1 v2 v3 u)) (v1 : Int32) (v2 : Int32) (u : XM) : GF E0 YY 3 yX5_stand cX5_stand 6 (some .int) 112 [some (.ref 35), some (.int v1), some (.int v2), none, none, none] [] u emI (F_X5_stand_112 k28 v1 v2 u) := by
  unfold F_X5_stand_112
  refine gf_aload_n (i := 0) (q := 113) dX5_stand_112 rfl rfl rfl ?_
  refine gf_callV_i (n2 := 0) (As := []) (st := []) (b := 35) (ci := 5) (C := RX5) (q := 116) (hlen := rfl) rfl rfl kw962 kw964 kp40 dX5_stand_113 kw965 kw7 (by decide +kernel) (by decide) (Nat.le_of_ble_eq_true rfl) (C_X5_nextOrder u) rfl rfl (fun x1 => ?_)
  refine gf_istore_n (i := 3) (lv2 := [some (.ref 35), some (.int v1), some (.int v2), some (.int x1.1), none, none]) (q := 117) dX5_stand_116 rfl (by decide) rfl rfl ?_
  refine gf_goto (q := 28) dX5_stand_117 (by decide) ?_
  exact (hk28 v1 v2 x1.1 x1.2)
def F_X5_stand_38 (k28 : Int32 → Int32 → Int32 → XM → Option (Int32 × XM)) : Nat → Int32 → Int32 → Int32 → Int32 → XM → Option (Int32 × XM)
  | 0, _, _, _, _, _ => none
  | n + 1, v1, v2, v4, v5, u => (if (mi u 35 28) ≤ v5 then (if v2 ≤ v4 then F_X5_stand_112 (k28) v1 v2 u else (Option.bind (F_X5_copies 50 0 51 0 6 u) (fun x2 => F_X5_stand_112 (k28) v1 v4 x2.2))) else (if ain YY 0 50 v5 = true then (if ain YY 0 42 (mi u 50 (Int32.toNatClampNeg v5)) = true then (if ain YY 0 49 v5 = true then (if ain YY 0 43 (0 + (mi u 49 (Int32.toNatClampNeg v5))) = true then (Option.bind (F_X5_abs ((mi u 42 (Int32.toNatClampNeg (mi u 50 (Int32.toNatClampNeg v5)))) - (mi u 43 (Int32.toNatClampNeg (0 + (mi u 49 (Int32.toNatClampNeg v5)))))) u) (fun x3 => F_X5_stand_38 k28 n v1 v2 (v4 + x3.1) (v5 + 1) x3.2)) else none) else none) else none) else none))
set_option maxRecDepth 20000 in
set_option maxHeartbeats 4000000 in
theorem T_X5_stand_38 (k28 : Int32 → Int32 → Int32 → XM → Option (Int32 × XM)) (hk28 : ∀ (v1 : Int32) (v2 : Int32) (v3 : Int32) (u : XM), GF E0 YY 3 yX5_stand cX5_stand 6 (some .int) 28 [some (.ref 35), some (.int v1), some (.int v2), some (.int v3), none, none] [] u emI (k28 v1 v2 v3 u)) : ∀ (n : Nat) (v1 : Int32) (v2 : Int32) (v4 : Int32) (v5 : Int32) (u : XM), GF E0 YY 3 yX5_stand cX5_stand 6 (some .int) 38 [some (.ref 35), some (.int v1), some (.int v2), none, some (.int v4), some (.int v5)] [] u emI (F_X5_stand_38 k28 n v1 v2 v4 v5 u) := by
  intro n
  induction n with
  | zero => intro v1 v2 v4 v5 u; exact gf_none
  | succ n ih =>
    intro v1 v2 v4 v5 u
    unfold F_X5_stand_38
    refine gf_iload (q := 40) dX5_stand_38 rfl rfl ?_
    refine gf_aload_n (i := 0) (q := 41) dX5_stand_40 rfl rfl rfl ?_
    refine gf_getI (C := RX5) (T := TX5) (N := 33) (ci := 5) (k := 35) (j := 28) (q := 44) dX5_stand_41 rfl rfl kin5 (by decide) kw632 rfl rfl ?_
    refine gf_icmp_ge (t := 88) (q := 47) dX5_stand_44 (by decide) rfl ?_ ?_
    · refine gf_iload (q := 90) dX5_stand_88 rfl rfl ?_
      refine gf_iload_n (i := 2) (q := 91) dX5_stand_90 rfl rfl rfl ?_
      refine gf_icmp_ge (t := 112) (q := 94) dX5_stand_91 (by decide) rfl ?_ ?_
      · exact gf_mask (b := [true, true, true, false, false, false]) rfl (T_X5_stand_112 (k28) hk28 v1 v2 u)
      · refine gf_iload (q := 96) dX5_stand_94 rfl rfl ?_
        refine gf_istore_n (i := 2) (lv2 := [some (.ref 35), some (.int v1), some (.int v4), none, some (.int v4), some (.int v5)]) (q := 97) dX5_stand_96 rfl (by decide) rfl rfl ?_
        refine gf_aload_n (i := 0) (q := 98) dX5_stand_97 rfl rfl rfl ?_
        refine gf_getA (C := RX5) (T := TX5) (N := 33) (ci := 5) (k := 35) (j := 26) (t := 50) (q := 101) dX5_stand_98 rfl rfl kin5 (by decide) kw630 rfl rfl ?_
        refine gf_iconst (q := 102) dX5_stand_101 ki_0 rfl ?_
        refine gf_aload_n (i := 0) (q := 103) dX5_stand_102 rfl rfl rfl ?_
        refine gf_getA (C := RX5) (T := TX5) (N := 33) (ci := 5) (k := 35) (j := 27) (t := 51) (q := 106) dX5_stand_103 rfl rfl kin5 (by decide) kw631 rfl rfl ?_
        refine gf_iconst (q := 107) dX5_stand_106 ki_0 rfl ?_
        refine gf_bipush (q := 109) dX5_stand_107 kb_6 rfl ?_
        refine gf_callS_v (n2 := 5) (As := [.ref 50, .int 0, .ref 51, .int 0, .int 6]) (st := []) (q := 112) (hlen := rfl) kw854 kw855 dX5_stand_109 kw856 kw7 (by decide +kernel) (by decide) (Nat.le_of_ble_eq_true rfl) (C_X5_copies 50 0 51 0 6 u) rfl rfl (fun x2 => ?_)
        exact gf_mask (b := [true, true, true, false, false, false]) rfl (T_X5_stand_112 (k28) hk28 v1 v4 x2.2)
    · refine gf_iload (q := 49) dX5_stand_47 rfl rfl ?_
      refine gf_aload_n (i := 0) (q := 50) dX5_stand_49 rfl rfl rfl ?_
      refine gf_getA (C := RX5) (T := TX5) (N := 33) (ci := 5) (k := 35) (j := 8) (t := 42) (q := 53) dX5_stand_50 rfl rfl kin5 (by decide) kw612 rfl rfl ?_
      refine gf_aload_n (i := 0) (q := 54) dX5_stand_53 rfl rfl rfl ?_
      refine gf_getA (C := RX5) (T := TX5) (N := 33) (ci := 5) (k := 35) (j := 26) (t := 50) (q := 57) dX5_stand_54 rfl rfl kin5 (by decide) kw630 rfl rfl ?_
      refine gf_iload (q := 59) dX5_stand_57 rfl rfl ?_
      refine gf_iald (q := 60) dX5_stand_59 rfl ?_
      refine gf_iald (q := 61) dX5_stand_60 rfl ?_
      refine gf_aload_n (i := 0) (q := 62) dX5_stand_61 rfl rfl rfl ?_
      refine gf_getA (C := RX5) (T := TX5) (N := 33) (ci := 5) (k := 35) (j := 9) (t := 43) (q := 65) dX5_stand_62 rfl rfl kin5 (by decide) kw613 rfl rfl ?_
      refine gf_iconst (q := 66) dX5_stand_65 ki_0 rfl ?_
      refine gf_aload_n (i := 0) (q := 67) dX5_stand_66 rfl rfl rfl ?_
      refine gf_getA (C := RX5) (T := TX5) (N := 33) (ci := 5) (k := 35) (j := 25) (t := 49) (q := 70) dX5_stand_67 rfl rfl kin5 (by decide) kw629 rfl rfl ?_
      refine gf_iload (q := 72) dX5_stand_70 rfl rfl ?_
      refine gf_iald (q := 73) dX5_stand_72 rfl ?_
      refine gf_iadd (q := 74) dX5_stand_73 rfl ?_
      refine gf_iald (q := 75) dX5_stand_74 rfl ?_
      refine gf_isub (q := 76) dX5_stand_75 rfl ?_
      refine gf_callS_i (n2 := 1) (As := [.int ((mi u 42 (Int32.toNatClampNeg (mi u 50 (Int32.toNatClampNeg v5)))) - (mi u 43 (Int32.toNatClampNeg (0 + (mi u 49 (Int32.toNatClampNeg v5))))))]) (st := [.int v4]) (q := 79) (hlen := rfl) kw903 kw904 dX5_stand_76 kw905 kw7 (by decide +kernel) (by decide) (Nat.le_of_ble_eq_true rfl) (C_X5_abs ((mi u 42 (Int32.toNatClampNeg (mi u 50 (Int32.toNatClampNeg v5)))) - (mi u 43 (Int32.toNatClampNeg (0 + (mi u 49 (Int32.toNatClampNeg v5)))))) u) rfl rfl (fun x3 => ?_)
      refine gf_iadd (q := 80) dX5_stand_79 rfl ?_
      refine gf_istore (lv2 := [some (.ref 35), some (.int v1), some (.int v2), none, some (.int (v4 + x3.1)), some (.int v5)]) (q := 82) dX5_stand_80 (by decide) rfl rfl ?_
      refine gf_iinc (v := (v5 + 1)) (lv2 := [some (.ref 35), some (.int v1), some (.int v2), none, some (.int (v4 + x3.1)), some (.int (v5 + 1))]) (q := 85) dX5_stand_82 rfl (congrArg _ ki_1) (by decide) rfl rfl ?_
      refine gf_goto (q := 38) dX5_stand_85 (by decide) ?_
      exact (ih v1 v2 (v4 + x3.1) (v5 + 1) x3.2)
def F_X5_stand_28 : Nat → Int32 → Int32 → Int32 → XM → Option (Int32 × XM)
  | 0, _, _, _, _ => none
  | n + 1, v1, v2, v3, u => (if v3 = 0 then (Option.bind (F_X5_copies 51 0 37 (40 * v1) (mi u 35 28) u) (fun x4 => (if ain YY 0 36 v1 = true then some (v2, (wi x4.2 36 (Int32.toNatClampNeg v1) (mi x4.2 35 28))) else none))) else F_X5_stand_38 (F_X5_stand_28 n) FU v1 v2 0 0 u)
set_option maxRecDepth 20000 in
set_option maxHeartbeats 4000000 in
theorem T_X5_stand_28 : ∀ (n : Nat) (v1 : Int32) (v2 : Int32) (v3 : Int32) (u : XM), GF E0 YY 3 yX5_stand cX5_stand 6 (some .int) 28 [some (.ref 35), some (.int v1), some (.int v2), some (.int v3), none, none] [] u emI (F_X5_stand_28 n v1 v2 v3 u) := by
  intro n
  induction n with
  | zero => intro v1 v2 v3 u; exact gf_none
  | succ n ih =>
    intro v1 v2 v3 u
    unfold F_X5_stand_28
    refine gf_iload_n (i := 3) (q := 29) dX5_stand_28 rfl rfl rfl ?_
    refine gf_if_eq (t := 120) (q := 32) dX5_stand_29 (by decide) rfl ?_ ?_
    · refine gf_aload_n (i := 0) (q := 121) dX5_stand_120 rfl rfl rfl ?_
      refine gf_getA (C := RX5) (T := TX5) (N := 33) (ci := 5) (k := 35) (j := 27) (t := 51) (q := 124) dX5_stand_121 rfl rfl kin5 (by decide) kw631 rfl rfl ?_
      refine gf_iconst (q := 125) dX5_stand_124 ki_0 rfl ?_
      refine gf_aload_n (i := 0) (q := 126) dX5_stand_125 rfl rfl rfl ?_
      refine gf_getA (C := RX5) (T := TX5) (N := 33) (ci := 5) (k := 35) (j := 1) (t := 37) (q := 129) dX5_stand_126 rfl rfl kin5 (by decide) kw605 rfl rfl ?_
      refine gf_bipush (q := 131) dX5_stand_129 kb_40 rfl ?_
      refine gf_iload_n (i := 1) (q := 132) dX5_stand_131 rfl rfl rfl ?_
      refine gf_imul (q := 133) dX5_stand_132 rfl ?_
      refine gf_aload_n (i := 0) (q := 134) dX5_stand_133 rfl rfl rfl ?_
      refine gf_getI (C := RX5) (T := TX5) (N := 33) (ci := 5) (k := 35) (j := 28) (q := 137) dX5_stand_134 rfl rfl kin5 (by decide) kw632 rfl rfl ?_
      refine gf_callS_v (n2 := 5) (As := [.ref 51, .int 0, .ref 37, .int (40 * v1), .int (mi u 35 28)]) (st := []) (q := 140) (hlen := rfl) kw854 kw855 dX5_stand_137 kw856 kw7 (by decide +kernel) (by decide) (Nat.le_of_ble_eq_true rfl) (C_X5_copies 51 0 37 (40 * v1) (mi u 35 28) u) rfl rfl (fun x4 => ?_)
      refine gf_aload_n (i := 0) (q := 141) dX5_stand_140 rfl rfl rfl ?_
      refine gf_getA (C := RX5) (T := TX5) (N := 33) (ci := 5) (k := 35) (j := 0) (t := 36) (q := 144) dX5_stand_141 rfl rfl kin5 (by decide) kw604 rfl rfl ?_
      refine gf_iload_n (i := 1) (q := 145) dX5_stand_144 rfl rfl rfl ?_
      refine gf_aload_n (i := 0) (q := 146) dX5_stand_145 rfl rfl rfl ?_
      refine gf_getI (C := RX5) (T := TX5) (N := 33) (ci := 5) (k := 35) (j := 28) (q := 149) dX5_stand_146 rfl rfl kin5 (by decide) kw632 rfl rfl ?_
      refine gf_iast (q := 150) dX5_stand_149 rfl ?_
      refine gf_iload_n (i := 2) (q := 151) dX5_stand_150 rfl rfl rfl ?_
      exact gf_reti dX5_stand_151 rfl
    · refine gf_iconst (q := 33) dX5_stand_32 ki_0 rfl ?_
      refine gf_istore (lv2 := [some (.ref 35), some (.int v1), some (.int v2), some (.int v3), some (.int 0), none]) (q := 35) dX5_stand_33 (by decide) rfl rfl ?_
      refine gf_iconst (q := 36) dX5_stand_35 ki_0 rfl ?_
      refine gf_istore (lv2 := [some (.ref 35), some (.int v1), some (.int v2), some (.int v3), some (.int 0), some (.int 0)]) (q := 38) dX5_stand_36 (by decide) rfl rfl ?_
      exact gf_mask (b := [true, true, true, false, true, true]) rfl (T_X5_stand_38 (F_X5_stand_28 n) ih FU v1 v2 0 0 u)
def F_X5_stand (v1 : Int32) (u : XM) : Option (Int32 × XM) := (Option.bind (F_X5_isRow v1 u) (fun x5 => (if x5.1 = 0 then some ((-1), x5.2) else (if (mi x5.2 35 4) = 0 then some ((-4), x5.2) else (Option.bind (F_X5_firstOrder x5.2) (fun x6 => F_X5_stand_28 FU v1 1000000 1 x6.2))))))
set_option maxRecDepth 20000 in
set_option maxHeartbeats 4000000 in
theorem T_X5_stand (v1 : Int32) (u : XM) : GF E0 YY 3 yX5_stand cX5_stand 6 (some .int) 0 [some (.ref 35), some (.int v1), none, none, none, none] [] u emI (F_X5_stand v1 u) := by
  unfold F_X5_stand
  refine gf_iload_n (i := 1) (q := 1) dX5_stand_0 rfl rfl rfl ?_
  refine gf_callS_i (n2 := 1) (As := [.int v1]) (st := []) (q := 4) (hlen := rfl) kw709 kw710 dX5_stand_1 kw711 kw7 (by decide +kernel) (by decide) (Nat.le_of_ble_eq_true rfl) (C_X5_isRow v1 u) rfl rfl (fun x5 => ?_)
  refine gf_if_ne (t := 9) (q := 7) dX5_stand_4 (by decide) rfl ?_ ?_
  · refine gf_iconst (q := 8) dX5_stand_7 ki_m1 rfl ?_
    exact gf_reti dX5_stand_8 rfl
  · refine gf_aload_n (i := 0) (q := 10) dX5_stand_9 rfl rfl rfl ?_
    refine gf_getI (C := RX5) (T := TX5) (N := 33) (ci := 5) (k := 35) (j := 4) (q := 13) dX5_stand_10 rfl rfl kin5 (by decide) kw608 rfl rfl ?_
    refine gf_if_ne (t := 19) (q := 16) dX5_stand_13 (by decide) rfl ?_ ?_
    · refine gf_bipush (q := 18) dX5_stand_16 kb_m4 rfl ?_
      exact gf_reti dX5_stand_18 rfl
    · refine gf_ldc (q := 21) dX5_stand_19 kw945 rfl ?_
      refine gf_istore_n (i := 2) (lv2 := [some (.ref 35), some (.int v1), some (.int 1000000), none, none, none]) (q := 22) dX5_stand_21 rfl (by decide) rfl rfl ?_
      refine gf_aload_n (i := 0) (q := 23) dX5_stand_22 rfl rfl rfl ?_
      refine gf_callV_v (n2 := 0) (As := []) (st := []) (b := 35) (ci := 5) (C := RX5) (q := 26) (hlen := rfl) rfl rfl kw958 kw960 kp39 dX5_stand_23 kw961 kw7 (by decide +kernel) (by decide) (Nat.le_of_ble_eq_true rfl) (C_X5_firstOrder x5.2) rfl rfl (fun x6 => ?_)
      refine gf_iconst (q := 27) dX5_stand_26 ki_1 rfl ?_
      refine gf_istore_n (i := 3) (lv2 := [some (.ref 35), some (.int v1), some (.int 1000000), some (.int 1), none, none]) (q := 28) dX5_stand_27 rfl (by decide) rfl rfl ?_
      exact (T_X5_stand_28 FU v1 1000000 1 x6.2)
theorem C_X5_stand (v1 : Int32) (u : XM) : CF YY 3 yX5_stand cX5_stand 6 (some .int) [.ref 35, .int v1] u emI (F_X5_stand v1 u) := cf_of (by decide +kernel) (Nat.le_of_ble_eq_true rfl) rfl (T_X5_stand v1 u)
def F_X5_layFar_130 (k41 : Int32 → Int32 → XM → Option (Unit × XM)) (v2 : Int32) (v3 : Int32) (s0 : Int32) (s1 : Int32) (u : XM) : Option (Unit × XM) := (if ain YY 0 52 s1 = true then k41 v2 (v3 + 1) (wi u 52 (Int32.toNatClampNeg s1) s0) else none)
set_option maxRecDepth 20000 in
set_option maxHeartbeats 4000000 in
theorem T_X5_layFar_130 (k41 : Int32 → Int32 → XM → Option (Unit × XM)) (hk41 : ∀ (v2 : Int32) (v3 : Int32) (u : XM), GF E0 YY 2 yX5_layFar cX5_layFar 6 none 41 [some (.ref 35), none, some (.int v2), some (.int v3), none, none] [] u emV (k41 v2 v3 u)) (v2 : Int32) (v3 : Int32) (s0 : Int32) (s1 : Int32) (u : XM) : GF E0 YY 2 yX5_layFar cX5_layFar 6 none 130 [some (.ref 35), none, some (.int v2), some (.int v3), none, none] [.int s0, .int s1, .ref 52] u emV (F_X5_layFar_130 k41 v2 v3 s0 s1 u) := by
  unfold F_X5_layFar_130
  refine gf_iast (q := 131) dX5_layFar_130 rfl ?_
  refine gf_iinc (v := (v3 + 1)) (lv2 := [some (.ref 35), none, some (.int v2), some (.int (v3 + 1)), none, none]) (q := 134) dX5_layFar_131 rfl (congrArg _ ki_1) (by decide) rfl rfl ?_
  refine gf_goto (q := 41) dX5_layFar_134 (by decide) ?_
  exact (hk41 v2 (v3 + 1) (wi u 52 (Int32.toNatClampNeg s1) s0))
def F_X5_layFar_102 (k41 : Int32 → Int32 → XM → Option (Unit × XM)) (v2 : Int32) (v3 : Int32) (v5 : Int32) (s0 : Int32) (s1 : Int32) (u : XM) : Option (Unit × XM) := (if ain YY 0 52 s1 = true then (if ain YY 0 52 v3 = true then (if (mi (wi u 52 (Int32.toNatClampNeg s1) s0) 52 (Int32.toNatClampNeg v3)) ≤ v5 then (if ain YY 0 52 v3 = true then F_X5_layFar_130 (k41) v2 v3 (mi (wi u 52 (Int32.toNatClampNeg s1) s0) 52 (Int32.toNatClampNeg v3)) v3 (wi u 52 (Int32.toNatClampNeg s1) s0) else none) else F_X5_layFar_130 (k41) v2 v3 v5 v3 (wi u 52 (Int32.toNatClampNeg s1) s0)) else none) else none)
set_option maxRecDepth 20000 in
set_option maxHeartbeats 4000000 in
theorem T_X5_layFar_102 (k41 : Int32 → Int32 → XM → Option (Unit × XM)) (hk41 : ∀ (v2 : Int32) (v3 : Int32) (u : XM), GF E0 YY 2 yX5_layFar cX5_layFar 6 none 41 [some (.ref 35), none, some (.int v2), some (.int v3), none, none] [] u emV (k41 v2 v3 u)) (v2 : Int32) (v3 : Int32) (v5 : Int32) (s0 : Int32) (s1 : Int32) (u : XM) : GF E0 YY 2 yX5_layFar cX5_layFar 6 none 102 [some (.ref 35), none, some (.int v2), some (.int v3), none, some (.int v5)] [.int s0, .int s1, .ref 52] u emV (F_X5_layFar_102 k41 v2 v3 v5 s0 s1 u) := by
  unfold F_X5_layFar_102
  refine gf_iast (q := 103) dX5_layFar_102 rfl ?_
  refine gf_aload_n (i := 0) (q := 104) dX5_layFar_103 rfl rfl rfl ?_
  refine gf_getA (C := RX5) (T := TX5) (N := 33) (ci := 5) (k := 35) (j := 29) (t := 52) (q := 107) dX5_layFar_104 rfl rfl kin5 (by decide) kw633 rfl rfl ?_
  refine gf_iload_n (i := 3) (q := 108) dX5_layFar_107 rfl rfl rfl ?_
  refine gf_iload (q := 110) dX5_layFar_108 rfl rfl ?_
  refine gf_aload_n (i := 0) (q := 111) dX5_layFar_110 rfl rfl rfl ?_
  refine gf_getA (C := RX5) (T := TX5) (N := 33) (ci := 5) (k := 35) (j := 29) (t := 52) (q := 114) dX5_layFar_111 rfl rfl kin5 (by decide) kw633 rfl rfl ?_
  refine gf_iload_n (i := 3) (q := 115) dX5_layFar_114 rfl rfl rfl ?_
  refine gf_iald (q := 116) dX5_layFar_115 rfl ?_
  refine gf_icmp_ge (t := 124) (q := 119) dX5_layFar_116 (by decide) rfl ?_ ?_
  · refine gf_aload_n (i := 0) (q := 125) dX5_layFar_124 rfl rfl rfl ?_
    refine gf_getA (C := RX5) (T := TX5) (N := 33) (ci := 5) (k := 35) (j := 29) (t := 52) (q := 128) dX5_layFar_125 rfl rfl kin5 (by decide) kw633 rfl rfl ?_
    refine gf_iload_n (i := 3) (q := 129) dX5_layFar_128 rfl rfl rfl ?_
    refine gf_iald (q := 130) dX5_layFar_129 rfl ?_
    exact gf_mask (b := [true, false, true, true, false, false]) rfl (T_X5_layFar_130 (k41) hk41 v2 v3 (mi (wi u 52 (Int32.toNatClampNeg s1) s0) 52 (Int32.toNatClampNeg v3)) v3 (wi u 52 (Int32.toNatClampNeg s1) s0))
  · refine gf_iload (q := 121) dX5_layFar_119 rfl rfl ?_
    refine gf_goto (q := 130) dX5_layFar_121 (by decide) ?_
    exact gf_mask (b := [true, false, true, true, false, false]) rfl (T_X5_layFar_130 (k41) hk41 v2 v3 v5 v3 (wi u 52 (Int32.toNatClampNeg s1) s0))
def F_X5_layFar_41 (k33 : Int32 → XM → Option (Unit × XM)) : Nat → Int32 → Int32 → XM → Option (Unit × XM)
  | 0, _, _, _ => none
  | n + 1, v2, v3, u => (if 10 ≤ v3 then k33 (v2 + 1) u else (Option.bind (F_X5_turned v3 0 u) (fun x1 => (if ain YY 0 52 x1.1 = true then (Option.bind (F_X5_turned v3 1 x1.2) (fun x2 => (if ain YY 0 52 x2.1 = true then (if ain YY 0 52 v3 = true then (if (mi x2.2 52 (Int32.toNatClampNeg v3)) ≤ ((mi x1.2 52 (Int32.toNatClampNeg x1.1)) + 1) then (if ain YY 0 52 v3 = true then F_X5_layFar_102 (F_X5_layFar_41 k33 n) v2 v3 ((mi x2.2 52 (Int32.toNatClampNeg x2.1)) + 1) (mi x2.2 52 (Int32.toNatClampNeg v3)) v3 x2.2 else none) else F_X5_layFar_102 (F_X5_layFar_41 k33 n) v2 v3 ((mi x2.2 52 (Int32.toNatClampNeg x2.1)) + 1) ((mi x1.2 52 (Int32.toNatClampNeg x1.1)) + 1) v3 x2.2) else none) else none))) else none))))
set_option maxRecDepth 20000 in
set_option maxHeartbeats 4000000 in
theorem T_X5_layFar_41 (k33 : Int32 → XM → Option (Unit × XM)) (hk33 : ∀ (v2 : Int32) (u : XM), GF E0 YY 2 yX5_layFar cX5_layFar 6 none 33 [some (.ref 35), none, some (.int v2), none, none, none] [] u emV (k33 v2 u)) : ∀ (n : Nat) (v2 : Int32) (v3 : Int32) (u : XM), GF E0 YY 2 yX5_layFar cX5_layFar 6 none 41 [some (.ref 35), none, some (.int v2), some (.int v3), none, none] [] u emV (F_X5_layFar_41 k33 n v2 v3 u) := by
  intro n
  induction n with
  | zero => intro v2 v3 u; exact gf_none
  | succ n ih =>
    intro v2 v3 u
    unfold F_X5_layFar_41
    refine gf_iload_n (i := 3) (q := 42) dX5_layFar_41 rfl rfl rfl ?_
    refine gf_bipush (q := 44) dX5_layFar_42 kb_10 rfl ?_
    refine gf_icmp_ge (t := 137) (q := 47) dX5_layFar_44 (by decide) rfl ?_ ?_
    · refine gf_iinc (v := (v2 + 1)) (lv2 := [some (.ref 35), none, some (.int (v2 + 1)), some (.int v3), none, none]) (q := 140) dX5_layFar_137 rfl (congrArg _ ki_1) (by decide) rfl rfl ?_
      refine gf_goto (q := 33) dX5_layFar_140 (by decide) ?_
      exact gf_mask (b := [true, false, true, false, false, false]) rfl (hk33 (v2 + 1) u)
    · refine gf_aload_n (i := 0) (q := 48) dX5_layFar_47 rfl rfl rfl ?_
      refine gf_getA (C := RX5) (T := TX5) (N := 33) (ci := 5) (k := 35) (j := 29) (t := 52) (q := 51) dX5_layFar_48 rfl rfl kin5 (by decide) kw633 rfl rfl ?_
      refine gf_iload_n (i := 3) (q := 52) dX5_layFar_51 rfl rfl rfl ?_
      refine gf_iconst (q := 53) dX5_layFar_52 ki_0 rfl ?_
      refine gf_callS_i (n2 := 2) (As := [.int v3, .int 0]) (st := [.ref 52]) (q := 56) (hlen := rfl) kw880 kw881 dX5_layFar_53 kw882 kw7 (by decide +kernel) (by decide) (Nat.le_of_ble_eq_true rfl) (C_X5_turned v3 0 u) rfl rfl (fun x1 => ?_)
      refine gf_iald (q := 57) dX5_layFar_56 rfl ?_
      refine gf_iconst (q := 58) dX5_layFar_57 ki_1 rfl ?_
      refine gf_iadd (q := 59) dX5_layFar_58 rfl ?_
      refine gf_istore (lv2 := [some (.ref 35), none, some (.int v2), some (.int v3), some (.int ((mi x1.2 52 (Int32.toNatClampNeg x1.1)) + 1)), none]) (q := 61) dX5_layFar_59 (by decide) rfl rfl ?_
      refine gf_aload_n (i := 0) (q := 62) dX5_layFar_61 rfl rfl rfl ?_
      refine gf_getA (C := RX5) (T := TX5) (N := 33) (ci := 5) (k := 35) (j := 29) (t := 52) (q := 65) dX5_layFar_62 rfl rfl kin5 (by decide) kw633 rfl rfl ?_
      refine gf_iload_n (i := 3) (q := 66) dX5_layFar_65 rfl rfl rfl ?_
      refine gf_iconst (q := 67) dX5_layFar_66 ki_1 rfl ?_
      refine gf_callS_i (n2 := 2) (As := [.int v3, .int 1]) (st := [.ref 52]) (q := 70) (hlen := rfl) kw880 kw881 dX5_layFar_67 kw882 kw7 (by decide +kernel) (by decide) (Nat.le_of_ble_eq_true rfl) (C_X5_turned v3 1 x1.2) rfl rfl (fun x2 => ?_)
      refine gf_iald (q := 71) dX5_layFar_70 rfl ?_
      refine gf_iconst (q := 72) dX5_layFar_71 ki_1 rfl ?_
      refine gf_iadd (q := 73) dX5_layFar_72 rfl ?_
      refine gf_istore (lv2 := [some (.ref 35), none, some (.int v2), some (.int v3), some (.int ((mi x1.2 52 (Int32.toNatClampNeg x1.1)) + 1)), some (.int ((mi x2.2 52 (Int32.toNatClampNeg x2.1)) + 1))]) (q := 75) dX5_layFar_73 (by decide) rfl rfl ?_
      refine gf_aload_n (i := 0) (q := 76) dX5_layFar_75 rfl rfl rfl ?_
      refine gf_getA (C := RX5) (T := TX5) (N := 33) (ci := 5) (k := 35) (j := 29) (t := 52) (q := 79) dX5_layFar_76 rfl rfl kin5 (by decide) kw633 rfl rfl ?_
      refine gf_iload_n (i := 3) (q := 80) dX5_layFar_79 rfl rfl rfl ?_
      refine gf_iload (q := 82) dX5_layFar_80 rfl rfl ?_
      refine gf_aload_n (i := 0) (q := 83) dX5_layFar_82 rfl rfl rfl ?_
      refine gf_getA (C := RX5) (T := TX5) (N := 33) (ci := 5) (k := 35) (j := 29) (t := 52) (q := 86) dX5_layFar_83 rfl rfl kin5 (by decide) kw633 rfl rfl ?_
      refine gf_iload_n (i := 3) (q := 87) dX5_layFar_86 rfl rfl rfl ?_
      refine gf_iald (q := 88) dX5_layFar_87 rfl ?_
      refine gf_icmp_ge (t := 96) (q := 91) dX5_layFar_88 (by decide) rfl ?_ ?_
      · refine gf_aload_n (i := 0) (q := 97) dX5_layFar_96 rfl rfl rfl ?_
        refine gf_getA (C := RX5) (T := TX5) (N := 33) (ci := 5) (k := 35) (j := 29) (t := 52) (q := 100) dX5_layFar_97 rfl rfl kin5 (by decide) kw633 rfl rfl ?_
        refine gf_iload_n (i := 3) (q := 101) dX5_layFar_100 rfl rfl rfl ?_
        refine gf_iald (q := 102) dX5_layFar_101 rfl ?_
        exact gf_mask (b := [true, false, true, true, false, true]) rfl (T_X5_layFar_102 (F_X5_layFar_41 k33 n) ih v2 v3 ((mi x2.2 52 (Int32.toNatClampNeg x2.1)) + 1) (mi x2.2 52 (Int32.toNatClampNeg v3)) v3 x2.2)
      · refine gf_iload (q := 93) dX5_layFar_91 rfl rfl ?_
        refine gf_goto (q := 102) dX5_layFar_93 (by decide) ?_
        exact gf_mask (b := [true, false, true, true, false, true]) rfl (T_X5_layFar_102 (F_X5_layFar_41 k33 n) ih v2 v3 ((mi x2.2 52 (Int32.toNatClampNeg x2.1)) + 1) ((mi x1.2 52 (Int32.toNatClampNeg x1.1)) + 1) v3 x2.2)
def F_X5_layFar_33 : Nat → Int32 → XM → Option (Unit × XM)
  | 0, _, _ => none
  | n + 1, v2, u => (if 10 ≤ v2 then some ((), u) else F_X5_layFar_41 (F_X5_layFar_33 n) FU v2 0 u)
set_option maxRecDepth 20000 in
set_option maxHeartbeats 4000000 in
theorem T_X5_layFar_33 : ∀ (n : Nat) (v2 : Int32) (u : XM), GF E0 YY 2 yX5_layFar cX5_layFar 6 none 33 [some (.ref 35), none, some (.int v2), none, none, none] [] u emV (F_X5_layFar_33 n v2 u) := by
  intro n
  induction n with
  | zero => intro v2 u; exact gf_none
  | succ n ih =>
    intro v2 u
    unfold F_X5_layFar_33
    refine gf_iload_n (i := 2) (q := 34) dX5_layFar_33 rfl rfl rfl ?_
    refine gf_bipush (q := 36) dX5_layFar_34 kb_10 rfl ?_
    refine gf_icmp_ge (t := 143) (q := 39) dX5_layFar_36 (by decide) rfl ?_ ?_
    · exact gf_retv dX5_layFar_143 rfl
    · refine gf_iconst (q := 40) dX5_layFar_39 ki_0 rfl ?_
      refine gf_istore_n (i := 3) (lv2 := [some (.ref 35), none, some (.int v2), some (.int 0), none, none]) (q := 41) dX5_layFar_40 rfl (by decide) rfl rfl ?_
      exact (T_X5_layFar_41 (F_X5_layFar_33 n) ih FU v2 0 u)
def F_X5_layFar_24 (k2 : Int32 → Int32 → XM → Option (Unit × XM)) (v1 : Int32) (v2 : Int32) (s0 : Int32) (s1 : Int32) (u : XM) : Option (Unit × XM) := (if ain YY 0 52 s1 = true then k2 v1 (v2 + 1) (wi u 52 (Int32.toNatClampNeg s1) s0) else none)
set_option maxRecDepth 20000 in
set_option maxHeartbeats 4000000 in
theorem T_X5_layFar_24 (k2 : Int32 → Int32 → XM → Option (Unit × XM)) (hk2 : ∀ (v1 : Int32) (v2 : Int32) (u : XM), GF E0 YY 2 yX5_layFar cX5_layFar 6 none 2 [some (.ref 35), some (.int v1), some (.int v2), none, none, none] [] u emV (k2 v1 v2 u)) (v1 : Int32) (v2 : Int32) (s0 : Int32) (s1 : Int32) (u : XM) : GF E0 YY 2 yX5_layFar cX5_layFar 6 none 24 [some (.ref 35), some (.int v1), some (.int v2), none, none, none] [.int s0, .int s1, .ref 52] u emV (F_X5_layFar_24 k2 v1 v2 s0 s1 u) := by
  unfold F_X5_layFar_24
  refine gf_iast (q := 25) dX5_layFar_24 rfl ?_
  refine gf_iinc (v := (v2 + 1)) (lv2 := [some (.ref 35), some (.int v1), some (.int (v2 + 1)), none, none, none]) (q := 28) dX5_layFar_25 rfl (congrArg _ ki_1) (by decide) rfl rfl ?_
  refine gf_goto (q := 2) dX5_layFar_28 (by decide) ?_
  exact (hk2 v1 (v2 + 1) (wi u 52 (Int32.toNatClampNeg s1) s0))
def F_X5_layFar_2 : Nat → Int32 → Int32 → XM → Option (Unit × XM)
  | 0, _, _, _ => none
  | n + 1, v1, v2, u => (if 10 ≤ v2 then F_X5_layFar_33 FU 0 u else (if v2 = v1 then F_X5_layFar_24 (F_X5_layFar_2 n) v1 v2 0 v2 u else F_X5_layFar_24 (F_X5_layFar_2 n) v1 v2 1000000 v2 u))
set_option maxRecDepth 20000 in
set_option maxHeartbeats 4000000 in
theorem T_X5_layFar_2 : ∀ (n : Nat) (v1 : Int32) (v2 : Int32) (u : XM), GF E0 YY 2 yX5_layFar cX5_layFar 6 none 2 [some (.ref 35), some (.int v1), some (.int v2), none, none, none] [] u emV (F_X5_layFar_2 n v1 v2 u) := by
  intro n
  induction n with
  | zero => intro v1 v2 u; exact gf_none
  | succ n ih =>
    intro v1 v2 u
    unfold F_X5_layFar_2
    refine gf_iload_n (i := 2) (q := 3) dX5_layFar_2 rfl rfl rfl ?_
    refine gf_bipush (q := 5) dX5_layFar_3 kb_10 rfl ?_
    refine gf_icmp_ge (t := 31) (q := 8) dX5_layFar_5 (by decide) rfl ?_ ?_
    · refine gf_iconst (q := 32) dX5_layFar_31 ki_0 rfl ?_
      refine gf_istore_n (i := 2) (lv2 := [some (.ref 35), some (.int v1), some (.int 0), none, none, none]) (q := 33) dX5_layFar_32 rfl (by decide) rfl rfl ?_
      exact gf_mask (b := [true, false, true, false, false, false]) rfl (T_X5_layFar_33 FU 0 u)
    · refine gf_aload_n (i := 0) (q := 9) dX5_layFar_8 rfl rfl rfl ?_
      refine gf_getA (C := RX5) (T := TX5) (N := 33) (ci := 5) (k := 35) (j := 29) (t := 52) (q := 12) dX5_layFar_9 rfl rfl kin5 (by decide) kw633 rfl rfl ?_
      refine gf_iload_n (i := 2) (q := 13) dX5_layFar_12 rfl rfl rfl ?_
      refine gf_iload_n (i := 2) (q := 14) dX5_layFar_13 rfl rfl rfl ?_
      refine gf_iload_n (i := 1) (q := 15) dX5_layFar_14 rfl rfl rfl ?_
      refine gf_icmp_ne (t := 22) (q := 18) dX5_layFar_15 (by decide) rfl ?_ ?_
      · refine gf_iconst (q := 19) dX5_layFar_18 ki_0 rfl ?_
        refine gf_goto (q := 24) dX5_layFar_19 (by decide) ?_
        exact (T_X5_layFar_24 (F_X5_layFar_2 n) ih v1 v2 0 v2 u)
      · refine gf_ldc (q := 24) dX5_layFar_22 kw945 rfl ?_
        exact (T_X5_layFar_24 (F_X5_layFar_2 n) ih v1 v2 1000000 v2 u)
def F_X5_layFar (v1 : Int32) (u : XM) : Option (Unit × XM) := F_X5_layFar_2 FU v1 0 u
set_option maxRecDepth 20000 in
set_option maxHeartbeats 4000000 in
theorem T_X5_layFar (v1 : Int32) (u : XM) : GF E0 YY 2 yX5_layFar cX5_layFar 6 none 0 [some (.ref 35), some (.int v1), none, none, none, none] [] u emV (F_X5_layFar v1 u) := by
  unfold F_X5_layFar
  refine gf_iconst (q := 1) dX5_layFar_0 ki_0 rfl ?_
  refine gf_istore_n (i := 2) (lv2 := [some (.ref 35), some (.int v1), some (.int 0), none, none, none]) (q := 2) dX5_layFar_1 rfl (by decide) rfl rfl ?_
  exact (T_X5_layFar_2 FU v1 0 u)
theorem C_X5_layFar (v1 : Int32) (u : XM) : CF YY 2 yX5_layFar cX5_layFar 6 none [.ref 35, .int v1] u emV (F_X5_layFar v1 u) := cf_of (by decide +kernel) (Nat.le_of_ble_eq_true rfl) rfl (T_X5_layFar v1 u)
def F_X5_level_106 (k59 : Int32 → Int32 → Int32 → Int32 → XM → Option (Int32 × XM)) (v2 : Int32) (v3 : Int32) (v5 : Int32) (v6 : Int32) (s0 : Int32) (s1 : Int32) (u : XM) : Option (Int32 × XM) := (Option.bind (F_X5_turned v2 v6 u) (fun x1 => k59 x1.1 v3 (s1 ||| s0) (v5 + 1) x1.2))
set_option maxRecDepth 20000 in
set_option maxHeartbeats 4000000 in
theorem T_X5_level_106 (k59 : Int32 → Int32 → Int32 → Int32 → XM → Option (Int32 × XM)) (hk59 : ∀ (v2 : Int32) (v3 : Int32) (v4 : Int32) (v5 : Int32) (u : XM), GF E0 YY 3 yX5_level cX5_level 7 (some .int) 59 [some (.ref 35), none, some (.int v2), some (.int v3), some (.int v4), some (.int v5), none] [] u emI (k59 v2 v3 v4 v5 u)) (v2 : Int32) (v3 : Int32) (v5 : Int32) (v6 : Int32) (s0 : Int32) (s1 : Int32) (u : XM) : GF E0 YY 3 yX5_level cX5_level 7 (some .int) 106 [some (.ref 35), none, some (.int v2), some (.int v3), none, some (.int v5), some (.int v6)] [.int s0, .int s1] u emI (F_X5_level_106 k59 v2 v3 v5 v6 s0 s1 u) := by
  unfold F_X5_level_106
  refine gf_ior (q := 107) dX5_level_106 rfl ?_
  refine gf_istore (lv2 := [some (.ref 35), none, some (.int v2), some (.int v3), some (.int (s1 ||| s0)), some (.int v5), some (.int v6)]) (q := 109) dX5_level_107 (by decide) rfl rfl ?_
  refine gf_iload_n (i := 2) (q := 110) dX5_level_109 rfl rfl rfl ?_
  refine gf_iload (q := 112) dX5_level_110 rfl rfl ?_
  refine gf_callS_i (n2 := 2) (As := [.int v2, .int v6]) (st := []) (q := 115) (hlen := rfl) kw880 kw881 dX5_level_112 kw882 kw7 (by decide +kernel) (by decide) (Nat.le_of_ble_eq_true rfl) (C_X5_turned v2 v6 u) rfl rfl (fun x1 => ?_)
  refine gf_istore_n (i := 2) (lv2 := [some (.ref 35), none, some (.int x1.1), some (.int v3), some (.int (s1 ||| s0)), some (.int v5), some (.int v6)]) (q := 116) dX5_level_115 rfl (by decide) rfl rfl ?_
  refine gf_iinc (v := (v5 + 1)) (lv2 := [some (.ref 35), none, some (.int x1.1), some (.int v3), some (.int (s1 ||| s0)), some (.int (v5 + 1)), some (.int v6)]) (q := 119) dX5_level_116 rfl (congrArg _ ki_1) (by decide) rfl rfl ?_
  refine gf_goto (q := 59) dX5_level_119 (by decide) ?_
  exact gf_mask (b := [true, false, true, true, true, true, false]) rfl (hk59 x1.1 v3 (s1 ||| s0) (v5 + 1) x1.2)
def F_X5_level_89 (k59 : Int32 → Int32 → Int32 → Int32 → XM → Option (Int32 × XM)) (v2 : Int32) (v3 : Int32) (v4 : Int32) (v5 : Int32) (s0 : Int32) (u : XM) : Option (Int32 × XM) := (if s0 = 0 then F_X5_level_106 (k59) v2 v3 v5 s0 0 v4 u else F_X5_level_106 (k59) v2 v3 v5 s0 (1 <<< (v5 &&& 31)) v4 u)
set_option maxRecDepth 20000 in
set_option maxHeartbeats 4000000 in
theorem T_X5_level_89 (k59 : Int32 → Int32 → Int32 → Int32 → XM → Option (Int32 × XM)) (hk59 : ∀ (v2 : Int32) (v3 : Int32) (v4 : Int32) (v5 : Int32) (u : XM), GF E0 YY 3 yX5_level cX5_level 7 (some .int) 59 [some (.ref 35), none, some (.int v2), some (.int v3), some (.int v4), some (.int v5), none] [] u emI (k59 v2 v3 v4 v5 u)) (v2 : Int32) (v3 : Int32) (v4 : Int32) (v5 : Int32) (s0 : Int32) (u : XM) : GF E0 YY 3 yX5_level cX5_level 7 (some .int) 89 [some (.ref 35), none, some (.int v2), some (.int v3), some (.int v4), some (.int v5), none] [.int s0] u emI (F_X5_level_89 k59 v2 v3 v4 v5 s0 u) := by
  unfold F_X5_level_89
  refine gf_istore (lv2 := [some (.ref 35), none, some (.int v2), some (.int v3), some (.int v4), some (.int v5), some (.int s0)]) (q := 91) dX5_level_89 (by decide) rfl rfl ?_
  refine gf_iload (q := 93) dX5_level_91 rfl rfl ?_
  refine gf_iload (q := 95) dX5_level_93 rfl rfl ?_
  refine gf_if_eq (t := 105) (q := 98) dX5_level_95 (by decide) rfl ?_ ?_
  · refine gf_iconst (q := 106) dX5_level_105 ki_0 rfl ?_
    exact gf_mask (b := [true, false, true, true, false, true, true]) rfl (T_X5_level_106 (k59) hk59 v2 v3 v5 s0 0 v4 u)
  · refine gf_iconst (q := 99) dX5_level_98 ki_1 rfl ?_
    refine gf_iload (q := 101) dX5_level_99 rfl rfl ?_
    refine gf_ishl (q := 102) dX5_level_101 rfl ?_
    refine gf_goto (q := 106) dX5_level_102 (by decide) ?_
    exact gf_mask (b := [true, false, true, true, false, true, true]) rfl (T_X5_level_106 (k59) hk59 v2 v3 v5 s0 (1 <<< (v5 &&& 31)) v4 u)
def F_X5_level_59 : Nat → Int32 → Int32 → Int32 → Int32 → XM → Option (Int32 × XM)
  | 0, _, _, _, _, _ => none
  | n + 1, v2, v3, v4, v5, u => (if v3 ≤ v5 then (Option.bind (F_X5_answer v3 v4 u) (fun x2 => some (x2.1, x2.2))) else (Option.bind (F_X5_turned v2 0 u) (fun x3 => (if ain YY 0 52 x3.1 = true then (if (mi x3.2 52 (Int32.toNatClampNeg x3.1)) = ((v3 - v5) - 1) then F_X5_level_89 (F_X5_level_59 n) v2 v3 v4 v5 0 x3.2 else F_X5_level_89 (F_X5_level_59 n) v2 v3 v4 v5 1 x3.2) else none))))
set_option maxRecDepth 20000 in
set_option maxHeartbeats 4000000 in
theorem T_X5_level_59 : ∀ (n : Nat) (v2 : Int32) (v3 : Int32) (v4 : Int32) (v5 : Int32) (u : XM), GF E0 YY 3 yX5_level cX5_level 7 (some .int) 59 [some (.ref 35), none, some (.int v2), some (.int v3), some (.int v4), some (.int v5), none] [] u emI (F_X5_level_59 n v2 v3 v4 v5 u) := by
  intro n
  induction n with
  | zero => intro v2 v3 v4 v5 u; exact gf_none
  | succ n ih =>
    intro v2 v3 v4 v5 u
    unfold F_X5_level_59
    refine gf_iload (q := 61) dX5_level_59 rfl rfl ?_
    refine gf_iload_n (i := 3) (q := 62) dX5_level_61 rfl rfl rfl ?_
    refine gf_icmp_ge (t := 122) (q := 65) dX5_level_62 (by decide) rfl ?_ ?_
    · refine gf_aload_n (i := 0) (q := 123) dX5_level_122 rfl rfl rfl ?_
      refine gf_iload_n (i := 3) (q := 124) dX5_level_123 rfl rfl rfl ?_
      refine gf_iload (q := 126) dX5_level_124 rfl rfl ?_
      refine gf_callV_i (n2 := 2) (As := [.int v3, .int v4]) (st := []) (b := 35) (ci := 5) (C := RX5) (q := 129) (hlen := rfl) rfl rfl kw932 kw934 kp37 dX5_level_126 kw935 kw7 (by decide +kernel) (by decide) (Nat.le_of_ble_eq_true rfl) (C_X5_answer v3 v4 u) rfl rfl (fun x2 => ?_)
      exact gf_reti dX5_level_129 rfl
    · refine gf_aload_n (i := 0) (q := 66) dX5_level_65 rfl rfl rfl ?_
      refine gf_getA (C := RX5) (T := TX5) (N := 33) (ci := 5) (k := 35) (j := 29) (t := 52) (q := 69) dX5_level_66 rfl rfl kin5 (by decide) kw633 rfl rfl ?_
      refine gf_iload_n (i := 2) (q := 70) dX5_level_69 rfl rfl rfl ?_
      refine gf_iconst (q := 71) dX5_level_70 ki_0 rfl ?_
      refine gf_callS_i (n2 := 2) (As := [.int v2, .int 0]) (st := [.ref 52]) (q := 74) (hlen := rfl) kw880 kw881 dX5_level_71 kw882 kw7 (by decide +kernel) (by decide) (Nat.le_of_ble_eq_true rfl) (C_X5_turned v2 0 u) rfl rfl (fun x3 => ?_)
      refine gf_iald (q := 75) dX5_level_74 rfl ?_
      refine gf_iload_n (i := 3) (q := 76) dX5_level_75 rfl rfl rfl ?_
      refine gf_iload (q := 78) dX5_level_76 rfl rfl ?_
      refine gf_isub (q := 79) dX5_level_78 rfl ?_
      refine gf_iconst (q := 80) dX5_level_79 ki_1 rfl ?_
      refine gf_isub (q := 81) dX5_level_80 rfl ?_
      refine gf_icmp_eq (t := 88) (q := 84) dX5_level_81 (by decide) rfl ?_ ?_
      · refine gf_iconst (q := 89) dX5_level_88 ki_0 rfl ?_
        exact (T_X5_level_89 (F_X5_level_59 n) ih v2 v3 v4 v5 0 x3.2)
      · refine gf_iconst (q := 85) dX5_level_84 ki_1 rfl ?_
        refine gf_goto (q := 89) dX5_level_85 (by decide) ?_
        exact (T_X5_level_89 (F_X5_level_59 n) ih v2 v3 v4 v5 1 x3.2)
def F_X5_level (v1 : Int32) (u : XM) : Option (Int32 × XM) := (Option.bind (F_X5_in (Int32.toInt64 v1) 0 9 u) (fun x4 => (if x4.1 = 0 then some ((-1), x4.2) else (if (mi x4.2 35 4) = 0 then some ((-4), x4.2) else (Option.bind (F_X5_layFar v1 x4.2) (fun x5 => (if ain YY 0 43 6 = true then (if ain YY 0 52 (mi x5.2 43 (Int32.toNatClampNeg 6)) = true then (if (mi x5.2 52 (Int32.toNatClampNeg (mi x5.2 43 (Int32.toNatClampNeg 6)))) < 1000000 then F_X5_level_59 FU (mi x5.2 43 (Int32.toNatClampNeg 6)) (mi x5.2 52 (Int32.toNatClampNeg (mi x5.2 43 (Int32.toNatClampNeg 6)))) 0 0 x5.2 else some ((-9), x5.2)) else none) else none)))))))
set_option maxRecDepth 20000 in
set_option maxHeartbeats 4000000 in
theorem T_X5_level (v1 : Int32) (u : XM) : GF E0 YY 3 yX5_level cX5_level 7 (some .int) 0 [some (.ref 35), some (.int v1), none, none, none, none, none] [] u emI (F_X5_level v1 u) := by
  unfold F_X5_level
  refine gf_iload_n (i := 1) (q := 1) dX5_level_0 rfl rfl rfl ?_
  refine gf_i2l (q := 2) dX5_level_1 rfl ?_
  refine gf_lconst (v := 0) (q := 3) dX5_level_2 rfl rfl ?_
  refine gf_ldc2 (q := 6) dX5_level_3 kw974 rfl ?_
  refine gf_callS_i (n2 := 3) (As := [.long (Int32.toInt64 v1), .long 0, .long 9]) (st := []) (q := 9) (hlen := rfl) kw713 kw714 dX5_level_6 kw715 kw7 (by decide +kernel) (by decide) (Nat.le_of_ble_eq_true rfl) (C_X5_in (Int32.toInt64 v1) 0 9 u) rfl rfl (fun x4 => ?_)
  refine gf_if_ne (t := 14) (q := 12) dX5_level_9 (by decide) rfl ?_ ?_
  · refine gf_iconst (q := 13) dX5_level_12 ki_m1 rfl ?_
    exact gf_reti dX5_level_13 rfl
  · refine gf_aload_n (i := 0) (q := 15) dX5_level_14 rfl rfl rfl ?_
    refine gf_getI (C := RX5) (T := TX5) (N := 33) (ci := 5) (k := 35) (j := 4) (q := 18) dX5_level_15 rfl rfl kin5 (by decide) kw608 rfl rfl ?_
    refine gf_if_ne (t := 24) (q := 21) dX5_level_18 (by decide) rfl ?_ ?_
    · refine gf_bipush (q := 23) dX5_level_21 kb_m4 rfl ?_
      exact gf_reti dX5_level_23 rfl
    · refine gf_aload_n (i := 0) (q := 25) dX5_level_24 rfl rfl rfl ?_
      refine gf_iload_n (i := 1) (q := 26) dX5_level_25 rfl rfl rfl ?_
      refine gf_callV_v (n2 := 1) (As := [.int v1]) (st := []) (b := 35) (ci := 5) (C := RX5) (q := 29) (hlen := rfl) rfl rfl kw975 kw977 kp42 dX5_level_26 kw978 kw7 (by decide +kernel) (by decide) (Nat.le_of_ble_eq_true rfl) (C_X5_layFar v1 x4.2) rfl rfl (fun x5 => ?_)
      refine gf_aload_n (i := 0) (q := 30) dX5_level_29 rfl rfl rfl ?_
      refine gf_getA (C := RX5) (T := TX5) (N := 33) (ci := 5) (k := 35) (j := 9) (t := 43) (q := 33) dX5_level_30 rfl rfl kin5 (by decide) kw613 rfl rfl ?_
      refine gf_bipush (q := 35) dX5_level_33 kb_6 rfl ?_
      refine gf_iald (q := 36) dX5_level_35 rfl ?_
      refine gf_istore_n (i := 2) (lv2 := [some (.ref 35), some (.int v1), some (.int (mi x5.2 43 (Int32.toNatClampNeg 6))), none, none, none, none]) (q := 37) dX5_level_36 rfl (by decide) rfl rfl ?_
      refine gf_aload_n (i := 0) (q := 38) dX5_level_37 rfl rfl rfl ?_
      refine gf_getA (C := RX5) (T := TX5) (N := 33) (ci := 5) (k := 35) (j := 29) (t := 52) (q := 41) dX5_level_38 rfl rfl kin5 (by decide) kw633 rfl rfl ?_
      refine gf_iload_n (i := 2) (q := 42) dX5_level_41 rfl rfl rfl ?_
      refine gf_iald (q := 43) dX5_level_42 rfl ?_
      refine gf_istore_n (i := 3) (lv2 := [some (.ref 35), some (.int v1), some (.int (mi x5.2 43 (Int32.toNatClampNeg 6))), some (.int (mi x5.2 52 (Int32.toNatClampNeg (mi x5.2 43 (Int32.toNatClampNeg 6))))), none, none, none]) (q := 44) dX5_level_43 rfl (by decide) rfl rfl ?_
      refine gf_iload_n (i := 3) (q := 45) dX5_level_44 rfl rfl rfl ?_
      refine gf_ldc (q := 47) dX5_level_45 kw945 rfl ?_
      refine gf_icmp_lt (t := 53) (q := 50) dX5_level_47 (by decide) rfl ?_ ?_
      · refine gf_iconst (q := 54) dX5_level_53 ki_0 rfl ?_
        refine gf_istore (lv2 := [some (.ref 35), some (.int v1), some (.int (mi x5.2 43 (Int32.toNatClampNeg 6))), some (.int (mi x5.2 52 (Int32.toNatClampNeg (mi x5.2 43 (Int32.toNatClampNeg 6))))), some (.int 0), none, none]) (q := 56) dX5_level_54 (by decide) rfl rfl ?_
        refine gf_iconst (q := 57) dX5_level_56 ki_0 rfl ?_
        refine gf_istore (lv2 := [some (.ref 35), some (.int v1), some (.int (mi x5.2 43 (Int32.toNatClampNeg 6))), some (.int (mi x5.2 52 (Int32.toNatClampNeg (mi x5.2 43 (Int32.toNatClampNeg 6))))), some (.int 0), some (.int 0), none]) (q := 59) dX5_level_57 (by decide) rfl rfl ?_
        exact gf_mask (b := [true, false, true, true, true, true, false]) rfl (T_X5_level_59 FU (mi x5.2 43 (Int32.toNatClampNeg 6)) (mi x5.2 52 (Int32.toNatClampNeg (mi x5.2 43 (Int32.toNatClampNeg 6)))) 0 0 x5.2)
      · refine gf_bipush (q := 52) dX5_level_50 kb_m9 rfl ?_
        exact gf_reti dX5_level_52 rfl
theorem C_X5_level (v1 : Int32) (u : XM) : CF YY 3 yX5_level cX5_level 7 (some .int) [.ref 35, .int v1] u emI (F_X5_level v1 u) := cf_of (by decide +kernel) (Nat.le_of_ble_eq_true rfl) rfl (T_X5_level v1 u)
def F_X5_placeOf (v1 : Int32) (u : XM) : Option (Int32 × XM) := (if ain YY 0 43 (0 + v1) = true then some (((8 * (v1 - v1 / 2 * 2)) + (mi u 43 (Int32.toNatClampNeg (0 + v1)))), u) else none)
set_option maxRecDepth 20000 in
set_option maxHeartbeats 4000000 in
theorem T_X5_placeOf (v1 : Int32) (u : XM) : GF E0 YY 1 yX5_placeOf cX5_placeOf 2 (some .int) 0 [some (.ref 35), some (.int v1)] [] u emI (F_X5_placeOf v1 u) := by
  unfold F_X5_placeOf
  refine gf_bipush (q := 2) dX5_placeOf_0 kb_8 rfl ?_
  refine gf_iload_n (i := 1) (q := 3) dX5_placeOf_2 rfl rfl rfl ?_
  refine gf_iconst (q := 4) dX5_placeOf_3 ki_2 rfl ?_
  refine gf_irem_c (q := 5) dX5_placeOf_4 (by decide) rfl ?_
  refine gf_imul (q := 6) dX5_placeOf_5 rfl ?_
  refine gf_aload_n (i := 0) (q := 7) dX5_placeOf_6 rfl rfl rfl ?_
  refine gf_getA (C := RX5) (T := TX5) (N := 33) (ci := 5) (k := 35) (j := 9) (t := 43) (q := 10) dX5_placeOf_7 rfl rfl kin5 (by decide) kw613 rfl rfl ?_
  refine gf_iconst (q := 11) dX5_placeOf_10 ki_0 rfl ?_
  refine gf_iload_n (i := 1) (q := 12) dX5_placeOf_11 rfl rfl rfl ?_
  refine gf_iadd (q := 13) dX5_placeOf_12 rfl ?_
  refine gf_iald (q := 14) dX5_placeOf_13 rfl ?_
  refine gf_iadd (q := 15) dX5_placeOf_14 rfl ?_
  exact gf_reti dX5_placeOf_15 rfl
theorem C_X5_placeOf (v1 : Int32) (u : XM) : CF YY 1 yX5_placeOf cX5_placeOf 2 (some .int) [.ref 35, .int v1] u emI (F_X5_placeOf v1 u) := cf_of (by decide +kernel) (Nat.le_of_ble_eq_true rfl) rfl (T_X5_placeOf v1 u)
def F_X5_homeBut_250 (k121 : Int32 → Int32 → Int32 → Int32 → Int32 → XM → Option (Int32 × XM)) (v1 : Int32) (v3 : Int32) (v4 : Int32) (v5 : Int32) (v6 : Int32) (s0 : Int32) (s1 : Int32) (u : XM) : Option (Int32 × XM) := (if ain YY 0 53 s1 = true then k121 v1 v3 v4 v5 (v6 + 1) (wi u 53 (Int32.toNatClampNeg s1) s0) else none)
set_option maxRecDepth 20000 in
set_option maxHeartbeats 4000000 in
theorem T_X5_homeBut_250 (k121 : Int32 → Int32 → Int32 → Int32 → Int32 → XM → Option (Int32 × XM)) (hk121 : ∀ (v1 : Int32) (v3 : Int32) (v4 : Int32) (v5 : Int32) (v6 : Int32) (u : XM), GF E0 YY 2 yX5_homeBut cX5_homeBut 8 (some .int) 121 [some (.ref 35), some (.int v1), none, some (.int v3), some (.int v4), some (.int v5), some (.int v6), none] [] u emI (k121 v1 v3 v4 v5 v6 u)) (v1 : Int32) (v3 : Int32) (v4 : Int32) (v5 : Int32) (v6 : Int32) (s0 : Int32) (s1 : Int32) (u : XM) : GF E0 YY 2 yX5_homeBut cX5_homeBut 8 (some .int) 250 [some (.ref 35), some (.int v1), none, some (.int v3), some (.int v4), some (.int v5), some (.int v6), none] [.int s0, .int s1, .ref 53] u emI (F_X5_homeBut_250 k121 v1 v3 v4 v5 v6 s0 s1 u) := by
  unfold F_X5_homeBut_250
  refine gf_iast (q := 251) dX5_homeBut_250 rfl ?_
  refine gf_iinc (v := (v6 + 1)) (lv2 := [some (.ref 35), some (.int v1), none, some (.int v3), some (.int v4), some (.int v5), some (.int (v6 + 1)), none]) (q := 254) dX5_homeBut_251 rfl (congrArg _ ki_1) (by decide) rfl rfl ?_
  refine gf_goto (q := 121) dX5_homeBut_254 (by decide) ?_
  exact (hk121 v1 v3 v4 v5 (v6 + 1) (wi u 53 (Int32.toNatClampNeg s1) s0))
def F_X5_homeBut_243 (k121 : Int32 → Int32 → Int32 → Int32 → Int32 → XM → Option (Int32 × XM)) (v1 : Int32) (v3 : Int32) (v4 : Int32) (v5 : Int32) (v6 : Int32) (s0 : Int32) (u : XM) : Option (Int32 × XM) := (if ain YY 0 53 v6 = true then F_X5_homeBut_250 (k121) v1 v3 v4 v5 v6 (mi u 53 (Int32.toNatClampNeg v6)) s0 u else none)
set_option maxRecDepth 20000 in
set_option maxHeartbeats 4000000 in
theorem T_X5_homeBut_243 (k121 : Int32 → Int32 → Int32 → Int32 → Int32 → XM → Option (Int32 × XM)) (hk121 : ∀ (v1 : Int32) (v3 : Int32) (v4 : Int32) (v5 : Int32) (v6 : Int32) (u : XM), GF E0 YY 2 yX5_homeBut cX5_homeBut 8 (some .int) 121 [some (.ref 35), some (.int v1), none, some (.int v3), some (.int v4), some (.int v5), some (.int v6), none] [] u emI (k121 v1 v3 v4 v5 v6 u)) (v1 : Int32) (v3 : Int32) (v4 : Int32) (v5 : Int32) (v6 : Int32) (s0 : Int32) (u : XM) : GF E0 YY 2 yX5_homeBut cX5_homeBut 8 (some .int) 243 [some (.ref 35), some (.int v1), none, some (.int v3), some (.int v4), some (.int v5), some (.int v6), none] [.int s0, .ref 53] u emI (F_X5_homeBut_243 k121 v1 v3 v4 v5 v6 s0 u) := by
  unfold F_X5_homeBut_243
  refine gf_aload_n (i := 0) (q := 244) dX5_homeBut_243 rfl rfl rfl ?_
  refine gf_getA (C := RX5) (T := TX5) (N := 33) (ci := 5) (k := 35) (j := 30) (t := 53) (q := 247) dX5_homeBut_244 rfl rfl kin5 (by decide) kw634 rfl rfl ?_
  refine gf_iload (q := 249) dX5_homeBut_247 rfl rfl ?_
  refine gf_iald (q := 250) dX5_homeBut_249 rfl ?_
  exact (T_X5_homeBut_250 (k121) hk121 v1 v3 v4 v5 v6 (mi u 53 (Int32.toNatClampNeg v6)) s0 u)
def F_X5_homeBut_190 (k121 : Int32 → Int32 → Int32 → Int32 → Int32 → XM → Option (Int32 × XM)) (v1 : Int32) (v3 : Int32) (v4 : Int32) (v5 : Int32) (v6 : Int32) (s0 : Int32) (u : XM) : Option (Int32 × XM) := (if s0 = 0 then F_X5_homeBut_243 (k121) v1 v3 v4 v5 v6 v6 u else (Option.bind (F_X5_has v3 v6 u) (fun x1 => (if x1.1 = 0 then (if ain YY 0 53 v5 = true then (if ain YY 0 53 v6 = true then (if (mi x1.2 53 (Int32.toNatClampNeg v6)) ≤ ((mi x1.2 53 (Int32.toNatClampNeg v5)) + 1) then F_X5_homeBut_243 (k121) v1 v3 v4 v5 v6 v6 x1.2 else (if ain YY 0 53 v5 = true then F_X5_homeBut_250 (k121) v1 v3 v4 v5 v6 ((mi x1.2 53 (Int32.toNatClampNeg v5)) + 1) v6 x1.2 else none)) else none) else none) else F_X5_homeBut_243 (k121) v1 v3 v4 v5 v6 v6 x1.2))))
set_option maxRecDepth 20000 in
set_option maxHeartbeats 4000000 in
theorem T_X5_homeBut_190 (k121 : Int32 → Int32 → Int32 → Int32 → Int32 → XM → Option (Int32 × XM)) (hk121 : ∀ (v1 : Int32) (v3 : Int32) (v4 : Int32) (v5 : Int32) (v6 : Int32) (u : XM), GF E0 YY 2 yX5_homeBut cX5_homeBut 8 (some .int) 121 [some (.ref 35), some (.int v1), none, some (.int v3), some (.int v4), some (.int v5), some (.int v6), none] [] u emI (k121 v1 v3 v4 v5 v6 u)) (v1 : Int32) (v3 : Int32) (v4 : Int32) (v5 : Int32) (v6 : Int32) (s0 : Int32) (u : XM) : GF E0 YY 2 yX5_homeBut cX5_homeBut 8 (some .int) 190 [some (.ref 35), some (.int v1), none, some (.int v3), some (.int v4), some (.int v5), some (.int v6), none] [.int s0] u emI (F_X5_homeBut_190 k121 v1 v3 v4 v5 v6 s0 u) := by
  unfold F_X5_homeBut_190
  refine gf_istore (lv2 := [some (.ref 35), some (.int v1), none, some (.int v3), some (.int v4), some (.int v5), some (.int v6), some (.int s0)]) (q := 192) dX5_homeBut_190 (by decide) rfl rfl ?_
  refine gf_aload_n (i := 0) (q := 193) dX5_homeBut_192 rfl rfl rfl ?_
  refine gf_getA (C := RX5) (T := TX5) (N := 33) (ci := 5) (k := 35) (j := 30) (t := 53) (q := 196) dX5_homeBut_193 rfl rfl kin5 (by decide) kw634 rfl rfl ?_
  refine gf_iload (q := 198) dX5_homeBut_196 rfl rfl ?_
  refine gf_iload (q := 200) dX5_homeBut_198 rfl rfl ?_
  refine gf_if_eq (t := 243) (q := 203) dX5_homeBut_200 (by decide) rfl ?_ ?_
  · exact gf_mask (b := [true, true, false, true, true, true, true, false]) rfl (T_X5_homeBut_243 (k121) hk121 v1 v3 v4 v5 v6 v6 u)
  · refine gf_iload_n (i := 3) (q := 204) dX5_homeBut_203 rfl rfl rfl ?_
    refine gf_iload (q := 206) dX5_homeBut_204 rfl rfl ?_
    refine gf_callS_i (n2 := 2) (As := [.int v3, .int v6]) (st := [.int v6, .ref 53]) (q := 209) (hlen := rfl) kw987 kw988 dX5_homeBut_206 kw989 kw7 (by decide +kernel) (by decide) (Nat.le_of_ble_eq_true rfl) (C_X5_has v3 v6 u) rfl rfl (fun x1 => ?_)
    refine gf_if_ne (t := 243) (q := 212) dX5_homeBut_209 (by decide) rfl ?_ ?_
    · refine gf_aload_n (i := 0) (q := 213) dX5_homeBut_212 rfl rfl rfl ?_
      refine gf_getA (C := RX5) (T := TX5) (N := 33) (ci := 5) (k := 35) (j := 30) (t := 53) (q := 216) dX5_homeBut_213 rfl rfl kin5 (by decide) kw634 rfl rfl ?_
      refine gf_iload (q := 218) dX5_homeBut_216 rfl rfl ?_
      refine gf_iald (q := 219) dX5_homeBut_218 rfl ?_
      refine gf_iconst (q := 220) dX5_homeBut_219 ki_1 rfl ?_
      refine gf_iadd (q := 221) dX5_homeBut_220 rfl ?_
      refine gf_aload_n (i := 0) (q := 222) dX5_homeBut_221 rfl rfl rfl ?_
      refine gf_getA (C := RX5) (T := TX5) (N := 33) (ci := 5) (k := 35) (j := 30) (t := 53) (q := 225) dX5_homeBut_222 rfl rfl kin5 (by decide) kw634 rfl rfl ?_
      refine gf_iload (q := 227) dX5_homeBut_225 rfl rfl ?_
      refine gf_iald (q := 228) dX5_homeBut_227 rfl ?_
      refine gf_icmp_ge (t := 243) (q := 231) dX5_homeBut_228 (by decide) rfl ?_ ?_
      · exact gf_mask (b := [true, true, false, true, true, true, true, false]) rfl (T_X5_homeBut_243 (k121) hk121 v1 v3 v4 v5 v6 v6 x1.2)
      · refine gf_aload_n (i := 0) (q := 232) dX5_homeBut_231 rfl rfl rfl ?_
        refine gf_getA (C := RX5) (T := TX5) (N := 33) (ci := 5) (k := 35) (j := 30) (t := 53) (q := 235) dX5_homeBut_232 rfl rfl kin5 (by decide) kw634 rfl rfl ?_
        refine gf_iload (q := 237) dX5_homeBut_235 rfl rfl ?_
        refine gf_iald (q := 238) dX5_homeBut_237 rfl ?_
        refine gf_iconst (q := 239) dX5_homeBut_238 ki_1 rfl ?_
        refine gf_iadd (q := 240) dX5_homeBut_239 rfl ?_
        refine gf_goto (q := 250) dX5_homeBut_240 (by decide) ?_
        exact gf_mask (b := [true, true, false, true, true, true, true, false]) rfl (T_X5_homeBut_250 (k121) hk121 v1 v3 v4 v5 v6 ((mi x1.2 53 (Int32.toNatClampNeg v5)) + 1) v6 x1.2)
    · exact gf_mask (b := [true, true, false, true, true, true, true, false]) rfl (T_X5_homeBut_243 (k121) hk121 v1 v3 v4 v5 v6 v6 x1.2)
def F_X5_homeBut_189 (k121 : Int32 → Int32 → Int32 → Int32 → Int32 → XM → Option (Int32 × XM)) (v1 : Int32) (v3 : Int32) (v4 : Int32) (v5 : Int32) (v6 : Int32) (u : XM) : Option (Int32 × XM) := F_X5_homeBut_190 (k121) v1 v3 v4 v5 v6 0 u
set_option maxRecDepth 20000 in
set_option maxHeartbeats 4000000 in
theorem T_X5_homeBut_189 (k121 : Int32 → Int32 → Int32 → Int32 → Int32 → XM → Option (Int32 × XM)) (hk121 : ∀ (v1 : Int32) (v3 : Int32) (v4 : Int32) (v5 : Int32) (v6 : Int32) (u : XM), GF E0 YY 2 yX5_homeBut cX5_homeBut 8 (some .int) 121 [some (.ref 35), some (.int v1), none, some (.int v3), some (.int v4), some (.int v5), some (.int v6), none] [] u emI (k121 v1 v3 v4 v5 v6 u)) (v1 : Int32) (v3 : Int32) (v4 : Int32) (v5 : Int32) (v6 : Int32) (u : XM) : GF E0 YY 2 yX5_homeBut cX5_homeBut 8 (some .int) 189 [some (.ref 35), some (.int v1), none, some (.int v3), some (.int v4), some (.int v5), some (.int v6), none] [] u emI (F_X5_homeBut_189 k121 v1 v3 v4 v5 v6 u) := by
  unfold F_X5_homeBut_189
  refine gf_iconst (q := 190) dX5_homeBut_189 ki_0 rfl ?_
  exact (T_X5_homeBut_190 (k121) hk121 v1 v3 v4 v5 v6 0 u)
def F_X5_homeBut_121 (k111 : Int32 → Int32 → Int32 → Int32 → XM → Option (Int32 × XM)) : Nat → Int32 → Int32 → Int32 → Int32 → Int32 → XM → Option (Int32 × XM)
  | 0, _, _, _, _, _, _ => none
  | n + 1, v1, v3, v4, v5, v6, u => (if 16 ≤ v6 then k111 v1 v3 v4 (v5 + 1) u else (if (v5 / 8) = (v6 / 8) then (Option.bind (F_X5_abs (v5 - v6) u) (fun x2 => (if x2.1 = 1 then F_X5_homeBut_190 (F_X5_homeBut_121 k111 n) v1 v3 v4 v5 v6 1 x2.2 else F_X5_homeBut_190 (F_X5_homeBut_121 k111 n) v1 v3 v4 v5 v6 0 x2.2))) else (if (v5 - v5 / 8 * 8) = (v6 - v6 / 8 * 8) then (if ((v5 - v5 / 8 * 8) - (v5 - v5 / 8 * 8) / 7 * 7) = 0 then F_X5_homeBut_190 (F_X5_homeBut_121 k111 n) v1 v3 v4 v5 v6 1 u else F_X5_homeBut_189 (F_X5_homeBut_121 k111 n) v1 v3 v4 v5 v6 u) else F_X5_homeBut_189 (F_X5_homeBut_121 k111 n) v1 v3 v4 v5 v6 u)))
set_option maxRecDepth 20000 in
set_option maxHeartbeats 4000000 in
theorem T_X5_homeBut_121 (k111 : Int32 → Int32 → Int32 → Int32 → XM → Option (Int32 × XM)) (hk111 : ∀ (v1 : Int32) (v3 : Int32) (v4 : Int32) (v5 : Int32) (u : XM), GF E0 YY 2 yX5_homeBut cX5_homeBut 8 (some .int) 111 [some (.ref 35), some (.int v1), none, some (.int v3), some (.int v4), some (.int v5), none, none] [] u emI (k111 v1 v3 v4 v5 u)) : ∀ (n : Nat) (v1 : Int32) (v3 : Int32) (v4 : Int32) (v5 : Int32) (v6 : Int32) (u : XM), GF E0 YY 2 yX5_homeBut cX5_homeBut 8 (some .int) 121 [some (.ref 35), some (.int v1), none, some (.int v3), some (.int v4), some (.int v5), some (.int v6), none] [] u emI (F_X5_homeBut_121 k111 n v1 v3 v4 v5 v6 u) := by
  intro n
  induction n with
  | zero => intro v1 v3 v4 v5 v6 u; exact gf_none
  | succ n ih =>
    intro v1 v3 v4 v5 v6 u
    unfold F_X5_homeBut_121
    refine gf_iload (q := 123) dX5_homeBut_121 rfl rfl ?_
    refine gf_bipush (q := 125) dX5_homeBut_123 kb_16 rfl ?_
    refine gf_icmp_ge (t := 257) (q := 128) dX5_homeBut_125 (by decide) rfl ?_ ?_
    · refine gf_iinc (v := (v5 + 1)) (lv2 := [some (.ref 35), some (.int v1), none, some (.int v3), some (.int v4), some (.int (v5 + 1)), some (.int v6), none]) (q := 260) dX5_homeBut_257 rfl (congrArg _ ki_1) (by decide) rfl rfl ?_
      refine gf_goto (q := 111) dX5_homeBut_260 (by decide) ?_
      exact gf_mask (b := [true, true, false, true, true, true, false, false]) rfl (hk111 v1 v3 v4 (v5 + 1) u)
    · refine gf_iload (q := 130) dX5_homeBut_128 rfl rfl ?_
      refine gf_bipush (q := 132) dX5_homeBut_130 kb_8 rfl ?_
      refine gf_idiv_c (q := 133) dX5_homeBut_132 (by decide) rfl ?_
      refine gf_iload (q := 135) dX5_homeBut_133 rfl rfl ?_
      refine gf_bipush (q := 137) dX5_homeBut_135 kb_8 rfl ?_
      refine gf_idiv_c (q := 138) dX5_homeBut_137 (by decide) rfl ?_
      refine gf_icmp_ne (t := 161) (q := 141) dX5_homeBut_138 (by decide) rfl ?_ ?_
      · refine gf_iload (q := 143) dX5_homeBut_141 rfl rfl ?_
        refine gf_iload (q := 145) dX5_homeBut_143 rfl rfl ?_
        refine gf_isub (q := 146) dX5_homeBut_145 rfl ?_
        refine gf_callS_i (n2 := 1) (As := [.int (v5 - v6)]) (st := []) (q := 149) (hlen := rfl) kw903 kw904 dX5_homeBut_146 kw905 kw7 (by decide +kernel) (by decide) (Nat.le_of_ble_eq_true rfl) (C_X5_abs (v5 - v6) u) rfl rfl (fun x2 => ?_)
        refine gf_iconst (q := 150) dX5_homeBut_149 ki_1 rfl ?_
        refine gf_icmp_ne (t := 157) (q := 153) dX5_homeBut_150 (by decide) rfl ?_ ?_
        · refine gf_iconst (q := 154) dX5_homeBut_153 ki_1 rfl ?_
          refine gf_goto (q := 190) dX5_homeBut_154 (by decide) ?_
          exact (T_X5_homeBut_190 (F_X5_homeBut_121 k111 n) ih v1 v3 v4 v5 v6 1 x2.2)
        · refine gf_iconst (q := 158) dX5_homeBut_157 ki_0 rfl ?_
          refine gf_goto (q := 190) dX5_homeBut_158 (by decide) ?_
          exact (T_X5_homeBut_190 (F_X5_homeBut_121 k111 n) ih v1 v3 v4 v5 v6 0 x2.2)
      · refine gf_iload (q := 163) dX5_homeBut_161 rfl rfl ?_
        refine gf_bipush (q := 165) dX5_homeBut_163 kb_8 rfl ?_
        refine gf_irem_c (q := 166) dX5_homeBut_165 (by decide) rfl ?_
        refine gf_iload (q := 168) dX5_homeBut_166 rfl rfl ?_
        refine gf_bipush (q := 170) dX5_homeBut_168 kb_8 rfl ?_
        refine gf_irem_c (q := 171) dX5_homeBut_170 (by decide) rfl ?_
        refine gf_icmp_ne (t := 189) (q := 174) dX5_homeBut_171 (by decide) rfl ?_ ?_
        · refine gf_iload (q := 176) dX5_homeBut_174 rfl rfl ?_
          refine gf_bipush (q := 178) dX5_homeBut_176 kb_8 rfl ?_
          refine gf_irem_c (q := 179) dX5_homeBut_178 (by decide) rfl ?_
          refine gf_bipush (q := 181) dX5_homeBut_179 kb_7 rfl ?_
          refine gf_irem_c (q := 182) dX5_homeBut_181 (by decide) rfl ?_
          refine gf_if_ne (t := 189) (q := 185) dX5_homeBut_182 (by decide) rfl ?_ ?_
          · refine gf_iconst (q := 186) dX5_homeBut_185 ki_1 rfl ?_
            refine gf_goto (q := 190) dX5_homeBut_186 (by decide) ?_
            exact (T_X5_homeBut_190 (F_X5_homeBut_121 k111 n) ih v1 v3 v4 v5 v6 1 u)
          · exact (T_X5_homeBut_189 (F_X5_homeBut_121 k111 n) ih v1 v3 v4 v5 v6 u)
        · exact (T_X5_homeBut_189 (F_X5_homeBut_121 k111 n) ih v1 v3 v4 v5 v6 u)
def F_X5_homeBut_111 (k101 : Int32 → Int32 → Int32 → XM → Option (Int32 × XM)) : Nat → Int32 → Int32 → Int32 → Int32 → XM → Option (Int32 × XM)
  | 0, _, _, _, _, _ => none
  | n + 1, v1, v3, v4, v5, u => (if 16 ≤ v5 then k101 v1 v3 (v4 + 1) u else F_X5_homeBut_121 (F_X5_homeBut_111 k101 n) FU v1 v3 v4 v5 0 u)
set_option maxRecDepth 20000 in
set_option maxHeartbeats 4000000 in
theorem T_X5_homeBut_111 (k101 : Int32 → Int32 → Int32 → XM → Option (Int32 × XM)) (hk101 : ∀ (v1 : Int32) (v3 : Int32) (v4 : Int32) (u : XM), GF E0 YY 2 yX5_homeBut cX5_homeBut 8 (some .int) 101 [some (.ref 35), some (.int v1), none, some (.int v3), some (.int v4), none, none, none] [] u emI (k101 v1 v3 v4 u)) : ∀ (n : Nat) (v1 : Int32) (v3 : Int32) (v4 : Int32) (v5 : Int32) (u : XM), GF E0 YY 2 yX5_homeBut cX5_homeBut 8 (some .int) 111 [some (.ref 35), some (.int v1), none, some (.int v3), some (.int v4), some (.int v5), none, none] [] u emI (F_X5_homeBut_111 k101 n v1 v3 v4 v5 u) := by
  intro n
  induction n with
  | zero => intro v1 v3 v4 v5 u; exact gf_none
  | succ n ih =>
    intro v1 v3 v4 v5 u
    unfold F_X5_homeBut_111
    refine gf_iload (q := 113) dX5_homeBut_111 rfl rfl ?_
    refine gf_bipush (q := 115) dX5_homeBut_113 kb_16 rfl ?_
    refine gf_icmp_ge (t := 263) (q := 118) dX5_homeBut_115 (by decide) rfl ?_ ?_
    · refine gf_iinc (v := (v4 + 1)) (lv2 := [some (.ref 35), some (.int v1), none, some (.int v3), some (.int (v4 + 1)), some (.int v5), none, none]) (q := 266) dX5_homeBut_263 rfl (congrArg _ ki_1) (by decide) rfl rfl ?_
      refine gf_goto (q := 101) dX5_homeBut_266 (by decide) ?_
      exact gf_mask (b := [true, true, false, true, true, false, false, false]) rfl (hk101 v1 v3 (v4 + 1) u)
    · refine gf_iconst (q := 119) dX5_homeBut_118 ki_0 rfl ?_
      refine gf_istore (lv2 := [some (.ref 35), some (.int v1), none, some (.int v3), some (.int v4), some (.int v5), some (.int 0), none]) (q := 121) dX5_homeBut_119 (by decide) rfl rfl ?_
      exact (T_X5_homeBut_121 (F_X5_homeBut_111 k101 n) ih FU v1 v3 v4 v5 0 u)
def F_X5_homeBut_101 : Nat → Int32 → Int32 → Int32 → XM → Option (Int32 × XM)
  | 0, _, _, _, _ => none
  | n + 1, v1, v3, v4, u => (if 16 ≤ v4 then (if ain YY 0 42 v1 = true then (if ain YY 0 53 (mi u 42 (Int32.toNatClampNeg v1)) = true then (if (mi u 53 (Int32.toNatClampNeg (mi u 42 (Int32.toNatClampNeg v1)))) < 1000000 then (if ain YY 0 42 v1 = true then (if ain YY 0 53 (mi u 42 (Int32.toNatClampNeg v1)) = true then some ((mi u 53 (Int32.toNatClampNeg (mi u 42 (Int32.toNatClampNeg v1)))), u) else none) else none) else some ((-9), u)) else none) else none) else F_X5_homeBut_111 (F_X5_homeBut_101 n) FU v1 v3 v4 0 u)
set_option maxRecDepth 20000 in
set_option maxHeartbeats 4000000 in
theorem T_X5_homeBut_101 : ∀ (n : Nat) (v1 : Int32) (v3 : Int32) (v4 : Int32) (u : XM), GF E0 YY 2 yX5_homeBut cX5_homeBut 8 (some .int) 101 [some (.ref 35), some (.int v1), none, some (.int v3), some (.int v4), none, none, none] [] u emI (F_X5_homeBut_101 n v1 v3 v4 u) := by
  intro n
  induction n with
  | zero => intro v1 v3 v4 u; exact gf_none
  | succ n ih =>
    intro v1 v3 v4 u
    unfold F_X5_homeBut_101
    refine gf_iload (q := 103) dX5_homeBut_101 rfl rfl ?_
    refine gf_bipush (q := 105) dX5_homeBut_103 kb_16 rfl ?_
    refine gf_icmp_ge (t := 269) (q := 108) dX5_homeBut_105 (by decide) rfl ?_ ?_
    · refine gf_aload_n (i := 0) (q := 270) dX5_homeBut_269 rfl rfl rfl ?_
      refine gf_getA (C := RX5) (T := TX5) (N := 33) (ci := 5) (k := 35) (j := 30) (t := 53) (q := 273) dX5_homeBut_270 rfl rfl kin5 (by decide) kw634 rfl rfl ?_
      refine gf_aload_n (i := 0) (q := 274) dX5_homeBut_273 rfl rfl rfl ?_
      refine gf_getA (C := RX5) (T := TX5) (N := 33) (ci := 5) (k := 35) (j := 8) (t := 42) (q := 277) dX5_homeBut_274 rfl rfl kin5 (by decide) kw612 rfl rfl ?_
      refine gf_iload_n (i := 1) (q := 278) dX5_homeBut_277 rfl rfl rfl ?_
      refine gf_iald (q := 279) dX5_homeBut_278 rfl ?_
      refine gf_iald (q := 280) dX5_homeBut_279 rfl ?_
      refine gf_ldc (q := 282) dX5_homeBut_280 kw945 rfl ?_
      refine gf_icmp_lt (t := 290) (q := 285) dX5_homeBut_282 (by decide) rfl ?_ ?_
      · refine gf_aload_n (i := 0) (q := 291) dX5_homeBut_290 rfl rfl rfl ?_
        refine gf_getA (C := RX5) (T := TX5) (N := 33) (ci := 5) (k := 35) (j := 30) (t := 53) (q := 294) dX5_homeBut_291 rfl rfl kin5 (by decide) kw634 rfl rfl ?_
        refine gf_aload_n (i := 0) (q := 295) dX5_homeBut_294 rfl rfl rfl ?_
        refine gf_getA (C := RX5) (T := TX5) (N := 33) (ci := 5) (k := 35) (j := 8) (t := 42) (q := 298) dX5_homeBut_295 rfl rfl kin5 (by decide) kw612 rfl rfl ?_
        refine gf_iload_n (i := 1) (q := 299) dX5_homeBut_298 rfl rfl rfl ?_
        refine gf_iald (q := 300) dX5_homeBut_299 rfl ?_
        refine gf_iald (q := 301) dX5_homeBut_300 rfl ?_
        exact gf_reti dX5_homeBut_301 rfl
      · refine gf_bipush (q := 287) dX5_homeBut_285 kb_m9 rfl ?_
        refine gf_goto (q := 301) dX5_homeBut_287 (by decide) ?_
        exact gf_reti dX5_homeBut_301 rfl
    · refine gf_iconst (q := 109) dX5_homeBut_108 ki_0 rfl ?_
      refine gf_istore (lv2 := [some (.ref 35), some (.int v1), none, some (.int v3), some (.int v4), some (.int 0), none, none]) (q := 111) dX5_homeBut_109 (by decide) rfl rfl ?_
      exact (T_X5_homeBut_111 (F_X5_homeBut_101 n) ih FU v1 v3 v4 0 u)
def F_X5_homeBut_91 (k62 : Int32 → Int32 → Int32 → XM → Option (Int32 × XM)) (v1 : Int32) (v3 : Int32) (v4 : Int32) (s0 : Int32) (s1 : Int32) (u : XM) : Option (Int32 × XM) := (if ain YY 0 53 s1 = true then k62 v1 v3 (v4 + 1) (wi u 53 (Int32.toNatClampNeg s1) s0) else none)
set_option maxRecDepth 20000 in
set_option maxHeartbeats 4000000 in
theorem T_X5_homeBut_91 (k62 : Int32 → Int32 → Int32 → XM → Option (Int32 × XM)) (hk62 : ∀ (v1 : Int32) (v3 : Int32) (v4 : Int32) (u : XM), GF E0 YY 2 yX5_homeBut cX5_homeBut 8 (some .int) 62 [some (.ref 35), some (.int v1), none, some (.int v3), some (.int v4), none, none, none] [] u emI (k62 v1 v3 v4 u)) (v1 : Int32) (v3 : Int32) (v4 : Int32) (s0 : Int32) (s1 : Int32) (u : XM) : GF E0 YY 2 yX5_homeBut cX5_homeBut 8 (some .int) 91 [some (.ref 35), some (.int v1), none, some (.int v3), some (.int v4), none, none, none] [.int s0, .int s1, .ref 53] u emI (F_X5_homeBut_91 k62 v1 v3 v4 s0 s1 u) := by
  unfold F_X5_homeBut_91
  refine gf_iast (q := 92) dX5_homeBut_91 rfl ?_
  refine gf_iinc (v := (v4 + 1)) (lv2 := [some (.ref 35), some (.int v1), none, some (.int v3), some (.int (v4 + 1)), none, none, none]) (q := 95) dX5_homeBut_92 rfl (congrArg _ ki_1) (by decide) rfl rfl ?_
  refine gf_goto (q := 62) dX5_homeBut_95 (by decide) ?_
  exact (hk62 v1 v3 (v4 + 1) (wi u 53 (Int32.toNatClampNeg s1) s0))
def F_X5_homeBut_62 : Nat → Int32 → Int32 → Int32 → XM → Option (Int32 × XM)
  | 0, _, _, _, _ => none
  | n + 1, v1, v3, v4, u => (if 16 ≤ v4 then F_X5_homeBut_101 FU v1 v3 0 u else (Option.bind (F_X5_placeOf v1 u) (fun x3 => (if v4 = x3.1 then F_X5_homeBut_91 (F_X5_homeBut_62 n) v1 v3 v4 0 v4 x3.2 else F_X5_homeBut_91 (F_X5_homeBut_62 n) v1 v3 v4 1000000 v4 x3.2))))
set_option maxRecDepth 20000 in
set_option maxHeartbeats 4000000 in
theorem T_X5_homeBut_62 : ∀ (n : Nat) (v1 : Int32) (v3 : Int32) (v4 : Int32) (u : XM), GF E0 YY 2 yX5_homeBut cX5_homeBut 8 (some .int) 62 [some (.ref 35), some (.int v1), none, some (.int v3), some (.int v4), none, none, none] [] u emI (F_X5_homeBut_62 n v1 v3 v4 u) := by
  intro n
  induction n with
  | zero => intro v1 v3 v4 u; exact gf_none
  | succ n ih =>
    intro v1 v3 v4 u
    unfold F_X5_homeBut_62
    refine gf_iload (q := 64) dX5_homeBut_62 rfl rfl ?_
    refine gf_bipush (q := 66) dX5_homeBut_64 kb_16 rfl ?_
    refine gf_icmp_ge (t := 98) (q := 69) dX5_homeBut_66 (by decide) rfl ?_ ?_
    · refine gf_iconst (q := 99) dX5_homeBut_98 ki_0 rfl ?_
      refine gf_istore (lv2 := [some (.ref 35), some (.int v1), none, some (.int v3), some (.int 0), none, none, none]) (q := 101) dX5_homeBut_99 (by decide) rfl rfl ?_
      exact (T_X5_homeBut_101 FU v1 v3 0 u)
    · refine gf_aload_n (i := 0) (q := 70) dX5_homeBut_69 rfl rfl rfl ?_
      refine gf_getA (C := RX5) (T := TX5) (N := 33) (ci := 5) (k := 35) (j := 30) (t := 53) (q := 73) dX5_homeBut_70 rfl rfl kin5 (by decide) kw634 rfl rfl ?_
      refine gf_iload (q := 75) dX5_homeBut_73 rfl rfl ?_
      refine gf_iload (q := 77) dX5_homeBut_75 rfl rfl ?_
      refine gf_aload_n (i := 0) (q := 78) dX5_homeBut_77 rfl rfl rfl ?_
      refine gf_iload_n (i := 1) (q := 79) dX5_homeBut_78 rfl rfl rfl ?_
      refine gf_callV_i (n2 := 1) (As := [.int v1]) (st := [.int v4, .int v4, .ref 53]) (b := 35) (ci := 5) (C := RX5) (q := 82) (hlen := rfl) rfl rfl kw990 kw992 kp44 dX5_homeBut_79 kw993 kw7 (by decide +kernel) (by decide) (Nat.le_of_ble_eq_true rfl) (C_X5_placeOf v1 u) rfl rfl (fun x3 => ?_)
      refine gf_icmp_ne (t := 89) (q := 85) dX5_homeBut_82 (by decide) rfl ?_ ?_
      · refine gf_iconst (q := 86) dX5_homeBut_85 ki_0 rfl ?_
        refine gf_goto (q := 91) dX5_homeBut_86 (by decide) ?_
        exact (T_X5_homeBut_91 (F_X5_homeBut_62 n) ih v1 v3 v4 0 v4 x3.2)
      · refine gf_ldc (q := 91) dX5_homeBut_89 kw945 rfl ?_
        exact (T_X5_homeBut_91 (F_X5_homeBut_62 n) ih v1 v3 v4 1000000 v4 x3.2)
def F_X5_homeBut_51 (k5 : Int32 → Int32 → Int32 → Int32 → XM → Option (Int32 × XM)) (v1 : Int32) (v2 : Int32) (v4 : Int32) (s0 : Int32) (s1 : Int32) (u : XM) : Option (Int32 × XM) := k5 v1 v2 (s1 ||| s0) (v4 + 1) u
set_option maxRecDepth 20000 in
set_option maxHeartbeats 4000000 in
theorem T_X5_homeBut_51 (k5 : Int32 → Int32 → Int32 → Int32 → XM → Option (Int32 × XM)) (hk5 : ∀ (v1 : Int32) (v2 : Int32) (v3 : Int32) (v4 : Int32) (u : XM), GF E0 YY 2 yX5_homeBut cX5_homeBut 8 (some .int) 5 [some (.ref 35), some (.int v1), some (.int v2), some (.int v3), some (.int v4), none, none, none] [] u emI (k5 v1 v2 v3 v4 u)) (v1 : Int32) (v2 : Int32) (v4 : Int32) (s0 : Int32) (s1 : Int32) (u : XM) : GF E0 YY 2 yX5_homeBut cX5_homeBut 8 (some .int) 51 [some (.ref 35), some (.int v1), some (.int v2), none, some (.int v4), none, none, none] [.int s0, .int s1] u emI (F_X5_homeBut_51 k5 v1 v2 v4 s0 s1 u) := by
  unfold F_X5_homeBut_51
  refine gf_ior (q := 52) dX5_homeBut_51 rfl ?_
  refine gf_istore_n (i := 3) (lv2 := [some (.ref 35), some (.int v1), some (.int v2), some (.int (s1 ||| s0)), some (.int v4), none, none, none]) (q := 53) dX5_homeBut_52 rfl (by decide) rfl rfl ?_
  refine gf_iinc (v := (v4 + 1)) (lv2 := [some (.ref 35), some (.int v1), some (.int v2), some (.int (s1 ||| s0)), some (.int (v4 + 1)), none, none, none]) (q := 56) dX5_homeBut_53 rfl (congrArg _ ki_1) (by decide) rfl rfl ?_
  refine gf_goto (q := 5) dX5_homeBut_56 (by decide) ?_
  exact (hk5 v1 v2 (s1 ||| s0) (v4 + 1) u)
def F_X5_homeBut_39 (k5 : Int32 → Int32 → Int32 → Int32 → XM → Option (Int32 × XM)) (v1 : Int32) (v2 : Int32) (v4 : Int32) (s0 : Int32) (u : XM) : Option (Int32 × XM) := F_X5_homeBut_51 (k5) v1 v2 v4 0 s0 u
set_option maxRecDepth 20000 in
set_option maxHeartbeats 4000000 in
theorem T_X5_homeBut_39 (k5 : Int32 → Int32 → Int32 → Int32 → XM → Option (Int32 × XM)) (hk5 : ∀ (v1 : Int32) (v2 : Int32) (v3 : Int32) (v4 : Int32) (u : XM), GF E0 YY 2 yX5_homeBut cX5_homeBut 8 (some .int) 5 [some (.ref 35), some (.int v1), some (.int v2), some (.int v3), some (.int v4), none, none, none] [] u emI (k5 v1 v2 v3 v4 u)) (v1 : Int32) (v2 : Int32) (v4 : Int32) (s0 : Int32) (u : XM) : GF E0 YY 2 yX5_homeBut cX5_homeBut 8 (some .int) 39 [some (.ref 35), some (.int v1), some (.int v2), none, some (.int v4), none, none, none] [.int s0] u emI (F_X5_homeBut_39 k5 v1 v2 v4 s0 u) := by
  unfold F_X5_homeBut_39
  refine gf_iconst (q := 40) dX5_homeBut_39 ki_0 rfl ?_
  refine gf_goto (q := 51) dX5_homeBut_40 (by decide) ?_
  exact (T_X5_homeBut_51 (k5) hk5 v1 v2 v4 0 s0 u)
def F_X5_homeBut_5 : Nat → Int32 → Int32 → Int32 → Int32 → XM → Option (Int32 × XM)
  | 0, _, _, _, _, _ => none
  | n + 1, v1, v2, v3, v4, u => (if (mi u 35 4) ≤ v4 then F_X5_homeBut_62 FU v1 v3 0 u else (if v4 = v1 then F_X5_homeBut_39 (F_X5_homeBut_5 n) v1 v2 v4 v3 u else (Option.bind (F_X5_isTaken v4 u) (fun x4 => (if x4.1 = 0 then (Option.bind (F_X5_has v2 v4 x4.2) (fun x5 => (if x5.1 = 0 then (Option.bind (F_X5_placeOf v4 x5.2) (fun x6 => F_X5_homeBut_51 (F_X5_homeBut_5 n) v1 v2 v4 (1 <<< (x6.1 &&& 31)) v3 x6.2)) else F_X5_homeBut_39 (F_X5_homeBut_5 n) v1 v2 v4 v3 x5.2))) else F_X5_homeBut_39 (F_X5_homeBut_5 n) v1 v2 v4 v3 x4.2)))))
set_option maxRecDepth 20000 in
set_option maxHeartbeats 4000000 in
theorem T_X5_homeBut_5 : ∀ (n : Nat) (v1 : Int32) (v2 : Int32) (v3 : Int32) (v4 : Int32) (u : XM), GF E0 YY 2 yX5_homeBut cX5_homeBut 8 (some .int) 5 [some (.ref 35), some (.int v1), some (.int v2), some (.int v3), some (.int v4), none, none, none] [] u emI (F_X5_homeBut_5 n v1 v2 v3 v4 u) := by
  intro n
  induction n with
  | zero => intro v1 v2 v3 v4 u; exact gf_none
  | succ n ih =>
    intro v1 v2 v3 v4 u
    unfold F_X5_homeBut_5
    refine gf_iload (q := 7) dX5_homeBut_5 rfl rfl ?_
    refine gf_aload_n (i := 0) (q := 8) dX5_homeBut_7 rfl rfl rfl ?_
    refine gf_getI (C := RX5) (T := TX5) (N := 33) (ci := 5) (k := 35) (j := 4) (q := 11) dX5_homeBut_8 rfl rfl kin5 (by decide) kw608 rfl rfl ?_
    refine gf_icmp_ge (t := 59) (q := 14) dX5_homeBut_11 (by decide) rfl ?_ ?_
    · refine gf_iconst (q := 60) dX5_homeBut_59 ki_0 rfl ?_
      refine gf_istore (lv2 := [some (.ref 35), some (.int v1), some (.int v2), some (.int v3), some (.int 0), none, none, none]) (q := 62) dX5_homeBut_60 (by decide) rfl rfl ?_
      exact gf_mask (b := [true, true, false, true, true, false, false, false]) rfl (T_X5_homeBut_62 FU v1 v3 0 u)
    · refine gf_iload_n (i := 3) (q := 15) dX5_homeBut_14 rfl rfl rfl ?_
      refine gf_iload (q := 17) dX5_homeBut_15 rfl rfl ?_
      refine gf_iload_n (i := 1) (q := 18) dX5_homeBut_17 rfl rfl rfl ?_
      refine gf_icmp_eq (t := 39) (q := 21) dX5_homeBut_18 (by decide) rfl ?_ ?_
      · exact gf_mask (b := [true, true, true, false, true, false, false, false]) rfl (T_X5_homeBut_39 (F_X5_homeBut_5 n) ih v1 v2 v4 v3 u)
      · refine gf_aload_n (i := 0) (q := 22) dX5_homeBut_21 rfl rfl rfl ?_
        refine gf_iload (q := 24) dX5_homeBut_22 rfl rfl ?_
        refine gf_callV_i (n2 := 1) (As := [.int v4]) (st := [.int v3]) (b := 35) (ci := 5) (C := RX5) (q := 27) (hlen := rfl) rfl rfl kw815 kw817 kp23 dX5_homeBut_24 kw818 kw7 (by decide +kernel) (by decide) (Nat.le_of_ble_eq_true rfl) (C_X5_isTaken v4 u) rfl rfl (fun x4 => ?_)
        refine gf_if_ne (t := 39) (q := 30) dX5_homeBut_27 (by decide) rfl ?_ ?_
        · refine gf_iload_n (i := 2) (q := 31) dX5_homeBut_30 rfl rfl rfl ?_
          refine gf_iload (q := 33) dX5_homeBut_31 rfl rfl ?_
          refine gf_callS_i (n2 := 2) (As := [.int v2, .int v4]) (st := [.int v3]) (q := 36) (hlen := rfl) kw987 kw988 dX5_homeBut_33 kw989 kw7 (by decide +kernel) (by decide) (Nat.le_of_ble_eq_true rfl) (C_X5_has v2 v4 x4.2) rfl rfl (fun x5 => ?_)
          refine gf_if_eq (t := 43) (q := 39) dX5_homeBut_36 (by decide) rfl ?_ ?_
          · refine gf_iconst (q := 44) dX5_homeBut_43 ki_1 rfl ?_
            refine gf_aload_n (i := 0) (q := 45) dX5_homeBut_44 rfl rfl rfl ?_
            refine gf_iload (q := 47) dX5_homeBut_45 rfl rfl ?_
            refine gf_callV_i (n2 := 1) (As := [.int v4]) (st := [.int 1, .int v3]) (b := 35) (ci := 5) (C := RX5) (q := 50) (hlen := rfl) rfl rfl kw990 kw992 kp44 dX5_homeBut_47 kw993 kw7 (by decide +kernel) (by decide) (Nat.le_of_ble_eq_true rfl) (C_X5_placeOf v4 x5.2) rfl rfl (fun x6 => ?_)
            refine gf_ishl (q := 51) dX5_homeBut_50 rfl ?_
            exact gf_mask (b := [true, true, true, false, true, false, false, false]) rfl (T_X5_homeBut_51 (F_X5_homeBut_5 n) ih v1 v2 v4 (1 <<< (x6.1 &&& 31)) v3 x6.2)
          · exact gf_mask (b := [true, true, true, false, true, false, false, false]) rfl (T_X5_homeBut_39 (F_X5_homeBut_5 n) ih v1 v2 v4 v3 x5.2)
        · exact gf_mask (b := [true, true, true, false, true, false, false, false]) rfl (T_X5_homeBut_39 (F_X5_homeBut_5 n) ih v1 v2 v4 v3 x4.2)
def F_X5_homeBut (v1 : Int32) (v2 : Int32) (u : XM) : Option (Int32 × XM) := F_X5_homeBut_5 FU v1 v2 0 0 u
set_option maxRecDepth 20000 in
set_option maxHeartbeats 4000000 in
theorem T_X5_homeBut (v1 : Int32) (v2 : Int32) (u : XM) : GF E0 YY 2 yX5_homeBut cX5_homeBut 8 (some .int) 0 [some (.ref 35), some (.int v1), some (.int v2), none, none, none, none, none] [] u emI (F_X5_homeBut v1 v2 u) := by
  unfold F_X5_homeBut
  refine gf_iconst (q := 1) dX5_homeBut_0 ki_0 rfl ?_
  refine gf_istore_n (i := 3) (lv2 := [some (.ref 35), some (.int v1), some (.int v2), some (.int 0), none, none, none, none]) (q := 2) dX5_homeBut_1 rfl (by decide) rfl rfl ?_
  refine gf_iconst (q := 3) dX5_homeBut_2 ki_0 rfl ?_
  refine gf_istore (lv2 := [some (.ref 35), some (.int v1), some (.int v2), some (.int 0), some (.int 0), none, none, none]) (q := 5) dX5_homeBut_3 (by decide) rfl rfl ?_
  exact (T_X5_homeBut_5 FU v1 v2 0 0 u)
theorem C_X5_homeBut (v1 : Int32) (v2 : Int32) (u : XM) : CF YY 2 yX5_homeBut cX5_homeBut 8 (some .int) [.ref 35, .int v1, .int v2] u emI (F_X5_homeBut v1 v2 u) := cf_of (by decide +kernel) (Nat.le_of_ble_eq_true rfl) rfl (T_X5_homeBut v1 v2 u)
def F_X5_home (v1 : Int32) (u : XM) : Option (Int32 × XM) := (Option.bind (F_X5_isThing v1 u) (fun x1 => (if x1.1 = 0 then some ((-1), x1.2) else (Option.bind (F_X5_isTaken v1 x1.2) (fun x2 => (if x2.1 = 0 then (Option.bind (F_X5_homeBut v1 0 x2.2) (fun x3 => some (x3.1, x3.2))) else some ((-4), x2.2)))))))
set_option maxRecDepth 20000 in
set_option maxHeartbeats 4000000 in
theorem T_X5_home (v1 : Int32) (u : XM) : GF E0 YY 3 yX5_home cX5_home 2 (some .int) 0 [some (.ref 35), some (.int v1)] [] u emI (F_X5_home v1 u) := by
  unfold F_X5_home
  refine gf_aload_n (i := 0) (q := 1) dX5_home_0 rfl rfl rfl ?_
  refine gf_iload_n (i := 1) (q := 2) dX5_home_1 rfl rfl rfl ?_
  refine gf_callV_i (n2 := 1) (As := [.int v1]) (st := []) (b := 35) (ci := 5) (C := RX5) (q := 5) (hlen := rfl) rfl rfl kw795 kw797 kp20 dX5_home_2 kw798 kw7 (by decide +kernel) (by decide) (Nat.le_of_ble_eq_true rfl) (C_X5_isThing v1 u) rfl rfl (fun x1 => ?_)
  refine gf_if_ne (t := 10) (q := 8) dX5_home_5 (by decide) rfl ?_ ?_
  · refine gf_iconst (q := 9) dX5_home_8 ki_m1 rfl ?_
    exact gf_reti dX5_home_9 rfl
  · refine gf_aload_n (i := 0) (q := 11) dX5_home_10 rfl rfl rfl ?_
    refine gf_iload_n (i := 1) (q := 12) dX5_home_11 rfl rfl rfl ?_
    refine gf_callV_i (n2 := 1) (As := [.int v1]) (st := []) (b := 35) (ci := 5) (C := RX5) (q := 15) (hlen := rfl) rfl rfl kw815 kw817 kp23 dX5_home_12 kw818 kw7 (by decide +kernel) (by decide) (Nat.le_of_ble_eq_true rfl) (C_X5_isTaken v1 x1.2) rfl rfl (fun x2 => ?_)
    refine gf_if_eq (t := 23) (q := 18) dX5_home_15 (by decide) rfl ?_ ?_
    · refine gf_aload_n (i := 0) (q := 24) dX5_home_23 rfl rfl rfl ?_
      refine gf_iload_n (i := 1) (q := 25) dX5_home_24 rfl rfl rfl ?_
      refine gf_iconst (q := 26) dX5_home_25 ki_0 rfl ?_
      refine gf_callV_i (n2 := 2) (As := [.int v1, .int 0]) (st := []) (b := 35) (ci := 5) (C := RX5) (q := 29) (hlen := rfl) rfl rfl kw983 kw985 kp43 dX5_home_26 kw986 kw7 (by decide +kernel) (by decide) (Nat.le_of_ble_eq_true rfl) (C_X5_homeBut v1 0 x2.2) rfl rfl (fun x3 => ?_)
      exact gf_reti dX5_home_29 rfl
    · refine gf_bipush (q := 20) dX5_home_18 kb_m4 rfl ?_
      refine gf_goto (q := 29) dX5_home_20 (by decide) ?_
      exact gf_reti dX5_home_29 rfl
theorem C_X5_home (v1 : Int32) (u : XM) : CF YY 3 yX5_home cX5_home 2 (some .int) [.ref 35, .int v1] u emI (F_X5_home v1 u) := cf_of (by decide +kernel) (Nat.le_of_ble_eq_true rfl) rfl (T_X5_home v1 u)
def F_X5_stops_80 (k38 : Int32 → Int32 → Int32 → XM → Option (Int32 × XM)) (v1 : Int32) (v3 : Int32) (s0 : Int32) (s1 : Int32) (u : XM) : Option (Int32 × XM) := k38 v1 (s1 ||| s0) (v3 + 1) u
set_option maxRecDepth 20000 in
set_option maxHeartbeats 4000000 in
theorem T_X5_stops_80 (k38 : Int32 → Int32 → Int32 → XM → Option (Int32 × XM)) (hk38 : ∀ (v1 : Int32) (v2 : Int32) (v3 : Int32) (u : XM), GF E0 YY 3 yX5_stops cX5_stops 4 (some .int) 38 [some (.ref 35), some (.int v1), some (.int v2), some (.int v3)] [] u emI (k38 v1 v2 v3 u)) (v1 : Int32) (v3 : Int32) (s0 : Int32) (s1 : Int32) (u : XM) : GF E0 YY 3 yX5_stops cX5_stops 4 (some .int) 80 [some (.ref 35), some (.int v1), none, some (.int v3)] [.int s0, .int s1] u emI (F_X5_stops_80 k38 v1 v3 s0 s1 u) := by
  unfold F_X5_stops_80
  refine gf_ior (q := 81) dX5_stops_80 rfl ?_
  refine gf_istore_n (i := 2) (lv2 := [some (.ref 35), some (.int v1), some (.int (s1 ||| s0)), some (.int v3)]) (q := 82) dX5_stops_81 rfl (by decide) rfl rfl ?_
  refine gf_iinc (v := (v3 + 1)) (lv2 := [some (.ref 35), some (.int v1), some (.int (s1 ||| s0)), some (.int (v3 + 1))]) (q := 85) dX5_stops_82 rfl (congrArg _ ki_1) (by decide) rfl rfl ?_
  refine gf_goto (q := 38) dX5_stops_85 (by decide) ?_
  exact (hk38 v1 (s1 ||| s0) (v3 + 1) u)
def F_X5_stops_79 (k38 : Int32 → Int32 → Int32 → XM → Option (Int32 × XM)) (v1 : Int32) (v3 : Int32) (s0 : Int32) (u : XM) : Option (Int32 × XM) := F_X5_stops_80 (k38) v1 v3 0 s0 u
set_option maxRecDepth 20000 in
set_option maxHeartbeats 4000000 in
theorem T_X5_stops_79 (k38 : Int32 → Int32 → Int32 → XM → Option (Int32 × XM)) (hk38 : ∀ (v1 : Int32) (v2 : Int32) (v3 : Int32) (u : XM), GF E0 YY 3 yX5_stops cX5_stops 4 (some .int) 38 [some (.ref 35), some (.int v1), some (.int v2), some (.int v3)] [] u emI (k38 v1 v2 v3 u)) (v1 : Int32) (v3 : Int32) (s0 : Int32) (u : XM) : GF E0 YY 3 yX5_stops cX5_stops 4 (some .int) 79 [some (.ref 35), some (.int v1), none, some (.int v3)] [.int s0] u emI (F_X5_stops_79 k38 v1 v3 s0 u) := by
  unfold F_X5_stops_79
  refine gf_iconst (q := 80) dX5_stops_79 ki_0 rfl ?_
  exact (T_X5_stops_80 (k38) hk38 v1 v3 0 s0 u)
def F_X5_stops_38 : Nat → Int32 → Int32 → Int32 → XM → Option (Int32 × XM)
  | 0, _, _, _, _ => none
  | n + 1, v1, v2, v3, u => (if (mi u 35 4) ≤ v3 then some (v2, u) else (if v3 = v1 then F_X5_stops_79 (F_X5_stops_38 n) v1 v3 v2 u else (Option.bind (F_X5_isTaken v3 u) (fun x1 => (if x1.1 = 0 then (Option.bind (F_X5_homeBut v1 (1 <<< (v3 &&& 31)) x1.2) (fun x2 => (if x2.1 = (-9) then F_X5_stops_79 (F_X5_stops_38 n) v1 v3 v2 x2.2 else F_X5_stops_80 (F_X5_stops_38 n) v1 v3 (1 <<< (v3 &&& 31)) v2 x2.2))) else F_X5_stops_79 (F_X5_stops_38 n) v1 v3 v2 x1.2)))))
set_option maxRecDepth 20000 in
set_option maxHeartbeats 4000000 in
theorem T_X5_stops_38 : ∀ (n : Nat) (v1 : Int32) (v2 : Int32) (v3 : Int32) (u : XM), GF E0 YY 3 yX5_stops cX5_stops 4 (some .int) 38 [some (.ref 35), some (.int v1), some (.int v2), some (.int v3)] [] u emI (F_X5_stops_38 n v1 v2 v3 u) := by
  intro n
  induction n with
  | zero => intro v1 v2 v3 u; exact gf_none
  | succ n ih =>
    intro v1 v2 v3 u
    unfold F_X5_stops_38
    refine gf_iload_n (i := 3) (q := 39) dX5_stops_38 rfl rfl rfl ?_
    refine gf_aload_n (i := 0) (q := 40) dX5_stops_39 rfl rfl rfl ?_
    refine gf_getI (C := RX5) (T := TX5) (N := 33) (ci := 5) (k := 35) (j := 4) (q := 43) dX5_stops_40 rfl rfl kin5 (by decide) kw608 rfl rfl ?_
    refine gf_icmp_ge (t := 88) (q := 46) dX5_stops_43 (by decide) rfl ?_ ?_
    · refine gf_iload_n (i := 2) (q := 89) dX5_stops_88 rfl rfl rfl ?_
      exact gf_reti dX5_stops_89 rfl
    · refine gf_iload_n (i := 2) (q := 47) dX5_stops_46 rfl rfl rfl ?_
      refine gf_iload_n (i := 3) (q := 48) dX5_stops_47 rfl rfl rfl ?_
      refine gf_iload_n (i := 1) (q := 49) dX5_stops_48 rfl rfl rfl ?_
      refine gf_icmp_eq (t := 79) (q := 52) dX5_stops_49 (by decide) rfl ?_ ?_
      · exact gf_mask (b := [true, true, false, true]) rfl (T_X5_stops_79 (F_X5_stops_38 n) ih v1 v3 v2 u)
      · refine gf_aload_n (i := 0) (q := 53) dX5_stops_52 rfl rfl rfl ?_
        refine gf_iload_n (i := 3) (q := 54) dX5_stops_53 rfl rfl rfl ?_
        refine gf_callV_i (n2 := 1) (As := [.int v3]) (st := [.int v2]) (b := 35) (ci := 5) (C := RX5) (q := 57) (hlen := rfl) rfl rfl kw815 kw817 kp23 dX5_stops_54 kw818 kw7 (by decide +kernel) (by decide) (Nat.le_of_ble_eq_true rfl) (C_X5_isTaken v3 u) rfl rfl (fun x1 => ?_)
        refine gf_if_ne (t := 79) (q := 60) dX5_stops_57 (by decide) rfl ?_ ?_
        · refine gf_aload_n (i := 0) (q := 61) dX5_stops_60 rfl rfl rfl ?_
          refine gf_iload_n (i := 1) (q := 62) dX5_stops_61 rfl rfl rfl ?_
          refine gf_iconst (q := 63) dX5_stops_62 ki_1 rfl ?_
          refine gf_iload_n (i := 3) (q := 64) dX5_stops_63 rfl rfl rfl ?_
          refine gf_ishl (q := 65) dX5_stops_64 rfl ?_
          refine gf_callV_i (n2 := 2) (As := [.int v1, .int (1 <<< (v3 &&& 31))]) (st := [.int v2]) (b := 35) (ci := 5) (C := RX5) (q := 68) (hlen := rfl) rfl rfl kw983 kw985 kp43 dX5_stops_65 kw986 kw7 (by decide +kernel) (by decide) (Nat.le_of_ble_eq_true rfl) (C_X5_homeBut v1 (1 <<< (v3 &&& 31)) x1.2) rfl rfl (fun x2 => ?_)
          refine gf_bipush (q := 70) dX5_stops_68 kb_m9 rfl ?_
          refine gf_icmp_eq (t := 79) (q := 73) dX5_stops_70 (by decide) rfl ?_ ?_
          · exact gf_mask (b := [true, true, false, true]) rfl (T_X5_stops_79 (F_X5_stops_38 n) ih v1 v3 v2 x2.2)
          · refine gf_iconst (q := 74) dX5_stops_73 ki_1 rfl ?_
            refine gf_iload_n (i := 3) (q := 75) dX5_stops_74 rfl rfl rfl ?_
            refine gf_ishl (q := 76) dX5_stops_75 rfl ?_
            refine gf_goto (q := 80) dX5_stops_76 (by decide) ?_
            exact gf_mask (b := [true, true, false, true]) rfl (T_X5_stops_80 (F_X5_stops_38 n) ih v1 v3 (1 <<< (v3 &&& 31)) v2 x2.2)
        · exact gf_mask (b := [true, true, false, true]) rfl (T_X5_stops_79 (F_X5_stops_38 n) ih v1 v3 v2 x1.2)
def F_X5_stops (v1 : Int32) (u : XM) : Option (Int32 × XM) := (Option.bind (F_X5_isThing v1 u) (fun x3 => (if x3.1 = 0 then some ((-1), x3.2) else (Option.bind (F_X5_isTaken v1 x3.2) (fun x4 => (if x4.1 = 0 then (Option.bind (F_X5_homeBut v1 0 x4.2) (fun x5 => (if x5.1 = (-9) then F_X5_stops_38 FU v1 0 0 x5.2 else some (0, x5.2)))) else some ((-4), x4.2)))))))
set_option maxRecDepth 20000 in
set_option maxHeartbeats 4000000 in
theorem T_X5_stops (v1 : Int32) (u : XM) : GF E0 YY 3 yX5_stops cX5_stops 4 (some .int) 0 [some (.ref 35), some (.int v1), none, none] [] u emI (F_X5_stops v1 u) := by
  unfold F_X5_stops
  refine gf_aload_n (i := 0) (q := 1) dX5_stops_0 rfl rfl rfl ?_
  refine gf_iload_n (i := 1) (q := 2) dX5_stops_1 rfl rfl rfl ?_
  refine gf_callV_i (n2 := 1) (As := [.int v1]) (st := []) (b := 35) (ci := 5) (C := RX5) (q := 5) (hlen := rfl) rfl rfl kw795 kw797 kp20 dX5_stops_2 kw798 kw7 (by decide +kernel) (by decide) (Nat.le_of_ble_eq_true rfl) (C_X5_isThing v1 u) rfl rfl (fun x3 => ?_)
  refine gf_if_ne (t := 10) (q := 8) dX5_stops_5 (by decide) rfl ?_ ?_
  · refine gf_iconst (q := 9) dX5_stops_8 ki_m1 rfl ?_
    exact gf_reti dX5_stops_9 rfl
  · refine gf_aload_n (i := 0) (q := 11) dX5_stops_10 rfl rfl rfl ?_
    refine gf_iload_n (i := 1) (q := 12) dX5_stops_11 rfl rfl rfl ?_
    refine gf_callV_i (n2 := 1) (As := [.int v1]) (st := []) (b := 35) (ci := 5) (C := RX5) (q := 15) (hlen := rfl) rfl rfl kw815 kw817 kp23 dX5_stops_12 kw818 kw7 (by decide +kernel) (by decide) (Nat.le_of_ble_eq_true rfl) (C_X5_isTaken v1 x3.2) rfl rfl (fun x4 => ?_)
    refine gf_if_eq (t := 21) (q := 18) dX5_stops_15 (by decide) rfl ?_ ?_
    · refine gf_aload_n (i := 0) (q := 22) dX5_stops_21 rfl rfl rfl ?_
      refine gf_iload_n (i := 1) (q := 23) dX5_stops_22 rfl rfl rfl ?_
      refine gf_iconst (q := 24) dX5_stops_23 ki_0 rfl ?_
      refine gf_callV_i (n2 := 2) (As := [.int v1, .int 0]) (st := []) (b := 35) (ci := 5) (C := RX5) (q := 27) (hlen := rfl) rfl rfl kw983 kw985 kp43 dX5_stops_24 kw986 kw7 (by decide +kernel) (by decide) (Nat.le_of_ble_eq_true rfl) (C_X5_homeBut v1 0 x4.2) rfl rfl (fun x5 => ?_)
      refine gf_bipush (q := 29) dX5_stops_27 kb_m9 rfl ?_
      refine gf_icmp_eq (t := 34) (q := 32) dX5_stops_29 (by decide) rfl ?_ ?_
      · refine gf_iconst (q := 35) dX5_stops_34 ki_0 rfl ?_
        refine gf_istore_n (i := 2) (lv2 := [some (.ref 35), some (.int v1), some (.int 0), none]) (q := 36) dX5_stops_35 rfl (by decide) rfl rfl ?_
        refine gf_iconst (q := 37) dX5_stops_36 ki_0 rfl ?_
        refine gf_istore_n (i := 3) (lv2 := [some (.ref 35), some (.int v1), some (.int 0), some (.int 0)]) (q := 38) dX5_stops_37 rfl (by decide) rfl rfl ?_
        exact (T_X5_stops_38 FU v1 0 0 x5.2)
      · refine gf_iconst (q := 33) dX5_stops_32 ki_0 rfl ?_
        exact gf_reti dX5_stops_33 rfl
    · refine gf_bipush (q := 20) dX5_stops_18 kb_m4 rfl ?_
      exact gf_reti dX5_stops_20 rfl
theorem C_X5_stops (v1 : Int32) (u : XM) : CF YY 3 yX5_stops cX5_stops 4 (some .int) [.ref 35, .int v1] u emI (F_X5_stops v1 u) := cf_of (by decide +kernel) (Nat.le_of_ble_eq_true rfl) rfl (T_X5_stops v1 u)
def F_X5_wrongPairs_100 (k40 : Int32 → Int32 → Int32 → XM → Option (Int32 × XM)) (v1 : Int32) (v3 : Int32) (s0 : Int32) (u : XM) : Option (Int32 × XM) := k40 v1 s0 (v3 + 2) u
set_option maxRecDepth 20000 in
set_option maxHeartbeats 4000000 in
theorem T_X5_wrongPairs_100 (k40 : Int32 → Int32 → Int32 → XM → Option (Int32 × XM)) (hk40 : ∀ (v1 : Int32) (v2 : Int32) (v3 : Int32) (u : XM), GF E0 YY 3 yX5_wrongPairs cX5_wrongPairs 4 (some .int) 40 [some (.ref 35), some (.int v1), some (.int v2), some (.int v3)] [] u emI (k40 v1 v2 v3 u)) (v1 : Int32) (v3 : Int32) (s0 : Int32) (u : XM) : GF E0 YY 3 yX5_wrongPairs cX5_wrongPairs 4 (some .int) 100 [some (.ref 35), some (.int v1), none, some (.int v3)] [.int s0] u emI (F_X5_wrongPairs_100 k40 v1 v3 s0 u) := by
  unfold F_X5_wrongPairs_100
  refine gf_istore_n (i := 2) (lv2 := [some (.ref 35), some (.int v1), some (.int s0), some (.int v3)]) (q := 101) dX5_wrongPairs_100 rfl (by decide) rfl rfl ?_
  refine gf_iinc (v := (v3 + 2)) (lv2 := [some (.ref 35), some (.int v1), some (.int s0), some (.int (v3 + 2))]) (q := 104) dX5_wrongPairs_101 rfl (congrArg _ ki_2) (by decide) rfl rfl ?_
  refine gf_goto (q := 40) dX5_wrongPairs_104 (by decide) ?_
  exact (hk40 v1 s0 (v3 + 2) u)
def F_X5_wrongPairs_99 (k40 : Int32 → Int32 → Int32 → XM → Option (Int32 × XM)) (v1 : Int32) (v3 : Int32) (u : XM) : Option (Int32 × XM) := F_X5_wrongPairs_100 (k40) v1 v3 0 u
set_option maxRecDepth 20000 in
set_option maxHeartbeats 4000000 in
theorem T_X5_wrongPairs_99 (k40 : Int32 → Int32 → Int32 → XM → Option (Int32 × XM)) (hk40 : ∀ (v1 : Int32) (v2 : Int32) (v3 : Int32) (u : XM), GF E0 YY 3 yX5_wrongPairs cX5_wrongPairs 4 (some .int) 40 [some (.ref 35), some (.int v1), some (.int v2), some (.int v3)] [] u emI (k40 v1 v2 v3 u)) (v1 : Int32) (v3 : Int32) (u : XM) : GF E0 YY 3 yX5_wrongPairs cX5_wrongPairs 4 (some .int) 99 [some (.ref 35), some (.int v1), none, some (.int v3)] [] u emI (F_X5_wrongPairs_99 k40 v1 v3 u) := by
  unfold F_X5_wrongPairs_99
  refine gf_iconst (q := 100) dX5_wrongPairs_99 ki_0 rfl ?_
  exact (T_X5_wrongPairs_100 (k40) hk40 v1 v3 0 u)
def F_X5_wrongPairs_40 : Nat → Int32 → Int32 → Int32 → XM → Option (Int32 × XM)
  | 0, _, _, _, _ => none
  | n + 1, v1, v2, v3, u => (if ain YY 0 36 v1 = true then (if (mi u 36 (Int32.toNatClampNeg v1)) ≤ v3 then (if v2 = 0 then some (3, u) else some (0, u)) else (if v2 = 0 then F_X5_wrongPairs_99 (F_X5_wrongPairs_40 n) v1 v3 u else (if ain YY 0 37 ((40 * v1) + v3) = true then (Option.bind (F_X5_in (Int32.toInt64 (mi u 37 (Int32.toNatClampNeg ((40 * v1) + v3)))) 0 20 u) (fun x1 => (if x1.1 = 0 then F_X5_wrongPairs_99 (F_X5_wrongPairs_40 n) v1 v3 x1.2 else (if ain YY 0 37 (((40 * v1) + v3) + 1) = true then (Option.bind (F_X5_isCell (mi x1.2 37 (Int32.toNatClampNeg (((40 * v1) + v3) + 1))) x1.2) (fun x2 => (if x2.1 = 0 then F_X5_wrongPairs_99 (F_X5_wrongPairs_40 n) v1 v3 x2.2 else F_X5_wrongPairs_100 (F_X5_wrongPairs_40 n) v1 v3 1 x2.2))) else none)))) else none))) else none)
set_option maxRecDepth 20000 in
set_option maxHeartbeats 4000000 in
theorem T_X5_wrongPairs_40 : ∀ (n : Nat) (v1 : Int32) (v2 : Int32) (v3 : Int32) (u : XM), GF E0 YY 3 yX5_wrongPairs cX5_wrongPairs 4 (some .int) 40 [some (.ref 35), some (.int v1), some (.int v2), some (.int v3)] [] u emI (F_X5_wrongPairs_40 n v1 v2 v3 u) := by
  intro n
  induction n with
  | zero => intro v1 v2 v3 u; exact gf_none
  | succ n ih =>
    intro v1 v2 v3 u
    unfold F_X5_wrongPairs_40
    refine gf_iload_n (i := 3) (q := 41) dX5_wrongPairs_40 rfl rfl rfl ?_
    refine gf_aload_n (i := 0) (q := 42) dX5_wrongPairs_41 rfl rfl rfl ?_
    refine gf_getA (C := RX5) (T := TX5) (N := 33) (ci := 5) (k := 35) (j := 0) (t := 36) (q := 45) dX5_wrongPairs_42 rfl rfl kin5 (by decide) kw604 rfl rfl ?_
    refine gf_iload_n (i := 1) (q := 46) dX5_wrongPairs_45 rfl rfl rfl ?_
    refine gf_iald (q := 47) dX5_wrongPairs_46 rfl ?_
    refine gf_icmp_ge (t := 107) (q := 50) dX5_wrongPairs_47 (by decide) rfl ?_ ?_
    · refine gf_iload_n (i := 2) (q := 108) dX5_wrongPairs_107 rfl rfl rfl ?_
      refine gf_if_eq (t := 115) (q := 111) dX5_wrongPairs_108 (by decide) rfl ?_ ?_
      · refine gf_iconst (q := 116) dX5_wrongPairs_115 ki_3 rfl ?_
        exact gf_reti dX5_wrongPairs_116 rfl
      · refine gf_iconst (q := 112) dX5_wrongPairs_111 ki_0 rfl ?_
        refine gf_goto (q := 116) dX5_wrongPairs_112 (by decide) ?_
        exact gf_reti dX5_wrongPairs_116 rfl
    · refine gf_iload_n (i := 2) (q := 51) dX5_wrongPairs_50 rfl rfl rfl ?_
      refine gf_if_eq (t := 99) (q := 54) dX5_wrongPairs_51 (by decide) rfl ?_ ?_
      · exact gf_mask (b := [true, true, false, true]) rfl (T_X5_wrongPairs_99 (F_X5_wrongPairs_40 n) ih v1 v3 u)
      · refine gf_aload_n (i := 0) (q := 55) dX5_wrongPairs_54 rfl rfl rfl ?_
        refine gf_getA (C := RX5) (T := TX5) (N := 33) (ci := 5) (k := 35) (j := 1) (t := 37) (q := 58) dX5_wrongPairs_55 rfl rfl kin5 (by decide) kw605 rfl rfl ?_
        refine gf_bipush (q := 60) dX5_wrongPairs_58 kb_40 rfl ?_
        refine gf_iload_n (i := 1) (q := 61) dX5_wrongPairs_60 rfl rfl rfl ?_
        refine gf_imul (q := 62) dX5_wrongPairs_61 rfl ?_
        refine gf_iload_n (i := 3) (q := 63) dX5_wrongPairs_62 rfl rfl rfl ?_
        refine gf_iadd (q := 64) dX5_wrongPairs_63 rfl ?_
        refine gf_iald (q := 65) dX5_wrongPairs_64 rfl ?_
        refine gf_i2l (q := 66) dX5_wrongPairs_65 rfl ?_
        refine gf_lconst (v := 0) (q := 67) dX5_wrongPairs_66 rfl rfl ?_
        refine gf_ldc2 (q := 70) dX5_wrongPairs_67 kw940 rfl ?_
        refine gf_callS_i (n2 := 3) (As := [.long (Int32.toInt64 (mi u 37 (Int32.toNatClampNeg ((40 * v1) + v3)))), .long 0, .long 20]) (st := []) (q := 73) (hlen := rfl) kw713 kw714 dX5_wrongPairs_70 kw715 kw7 (by decide +kernel) (by decide) (Nat.le_of_ble_eq_true rfl) (C_X5_in (Int32.toInt64 (mi u 37 (Int32.toNatClampNeg ((40 * v1) + v3)))) 0 20 u) rfl rfl (fun x1 => ?_)
        refine gf_if_eq (t := 99) (q := 76) dX5_wrongPairs_73 (by decide) rfl ?_ ?_
        · exact gf_mask (b := [true, true, false, true]) rfl (T_X5_wrongPairs_99 (F_X5_wrongPairs_40 n) ih v1 v3 x1.2)
        · refine gf_aload_n (i := 0) (q := 77) dX5_wrongPairs_76 rfl rfl rfl ?_
          refine gf_getA (C := RX5) (T := TX5) (N := 33) (ci := 5) (k := 35) (j := 1) (t := 37) (q := 80) dX5_wrongPairs_77 rfl rfl kin5 (by decide) kw605 rfl rfl ?_
          refine gf_bipush (q := 82) dX5_wrongPairs_80 kb_40 rfl ?_
          refine gf_iload_n (i := 1) (q := 83) dX5_wrongPairs_82 rfl rfl rfl ?_
          refine gf_imul (q := 84) dX5_wrongPairs_83 rfl ?_
          refine gf_iload_n (i := 3) (q := 85) dX5_wrongPairs_84 rfl rfl rfl ?_
          refine gf_iadd (q := 86) dX5_wrongPairs_85 rfl ?_
          refine gf_iconst (q := 87) dX5_wrongPairs_86 ki_1 rfl ?_
          refine gf_iadd (q := 88) dX5_wrongPairs_87 rfl ?_
          refine gf_iald (q := 89) dX5_wrongPairs_88 rfl ?_
          refine gf_callS_i (n2 := 1) (As := [.int (mi x1.2 37 (Int32.toNatClampNeg (((40 * v1) + v3) + 1)))]) (st := []) (q := 92) (hlen := rfl) kw834 kw835 dX5_wrongPairs_89 kw836 kw7 (by decide +kernel) (by decide) (Nat.le_of_ble_eq_true rfl) (C_X5_isCell (mi x1.2 37 (Int32.toNatClampNeg (((40 * v1) + v3) + 1))) x1.2) rfl rfl (fun x2 => ?_)
          refine gf_if_eq (t := 99) (q := 95) dX5_wrongPairs_92 (by decide) rfl ?_ ?_
          · exact gf_mask (b := [true, true, false, true]) rfl (T_X5_wrongPairs_99 (F_X5_wrongPairs_40 n) ih v1 v3 x2.2)
          · refine gf_iconst (q := 96) dX5_wrongPairs_95 ki_1 rfl ?_
            refine gf_goto (q := 100) dX5_wrongPairs_96 (by decide) ?_
            exact gf_mask (b := [true, true, false, true]) rfl (T_X5_wrongPairs_100 (F_X5_wrongPairs_40 n) ih v1 v3 1 x2.2)
def F_X5_wrongPairs (v1 : Int32) (u : XM) : Option (Int32 × XM) := (if ain YY 0 36 v1 = true then (if 0 ≤ (mi u 36 (Int32.toNatClampNeg v1)) then (if ain YY 0 36 v1 = true then (if ((mi u 36 (Int32.toNatClampNeg v1)) - (mi u 36 (Int32.toNatClampNeg v1)) / 2 * 2) = 1 then some (5, u) else (if ain YY 0 36 v1 = true then (if (mi u 36 (Int32.toNatClampNeg v1)) ≤ 12 then F_X5_wrongPairs_40 FU v1 1 0 u else some (5, u)) else none)) else none) else some (1, u)) else none)
set_option maxRecDepth 20000 in
set_option maxHeartbeats 4000000 in
theorem T_X5_wrongPairs (v1 : Int32) (u : XM) : GF E0 YY 3 yX5_wrongPairs cX5_wrongPairs 4 (some .int) 0 [some (.ref 35), some (.int v1), none, none] [] u emI (F_X5_wrongPairs v1 u) := by
  unfold F_X5_wrongPairs
  refine gf_aload_n (i := 0) (q := 1) dX5_wrongPairs_0 rfl rfl rfl ?_
  refine gf_getA (C := RX5) (T := TX5) (N := 33) (ci := 5) (k := 35) (j := 0) (t := 36) (q := 4) dX5_wrongPairs_1 rfl rfl kin5 (by decide) kw604 rfl rfl ?_
  refine gf_iload_n (i := 1) (q := 5) dX5_wrongPairs_4 rfl rfl rfl ?_
  refine gf_iald (q := 6) dX5_wrongPairs_5 rfl ?_
  refine gf_if_ge (t := 11) (q := 9) dX5_wrongPairs_6 (by decide) rfl ?_ ?_
  · refine gf_aload_n (i := 0) (q := 12) dX5_wrongPairs_11 rfl rfl rfl ?_
    refine gf_getA (C := RX5) (T := TX5) (N := 33) (ci := 5) (k := 35) (j := 0) (t := 36) (q := 15) dX5_wrongPairs_12 rfl rfl kin5 (by decide) kw604 rfl rfl ?_
    refine gf_iload_n (i := 1) (q := 16) dX5_wrongPairs_15 rfl rfl rfl ?_
    refine gf_iald (q := 17) dX5_wrongPairs_16 rfl ?_
    refine gf_iconst (q := 18) dX5_wrongPairs_17 ki_2 rfl ?_
    refine gf_irem_c (q := 19) dX5_wrongPairs_18 (by decide) rfl ?_
    refine gf_iconst (q := 20) dX5_wrongPairs_19 ki_1 rfl ?_
    refine gf_icmp_eq (t := 34) (q := 23) dX5_wrongPairs_20 (by decide) rfl ?_ ?_
    · refine gf_iconst (q := 35) dX5_wrongPairs_34 ki_5 rfl ?_
      exact gf_reti dX5_wrongPairs_35 rfl
    · refine gf_aload_n (i := 0) (q := 24) dX5_wrongPairs_23 rfl rfl rfl ?_
      refine gf_getA (C := RX5) (T := TX5) (N := 33) (ci := 5) (k := 35) (j := 0) (t := 36) (q := 27) dX5_wrongPairs_24 rfl rfl kin5 (by decide) kw604 rfl rfl ?_
      refine gf_iload_n (i := 1) (q := 28) dX5_wrongPairs_27 rfl rfl rfl ?_
      refine gf_iald (q := 29) dX5_wrongPairs_28 rfl ?_
      refine gf_bipush (q := 31) dX5_wrongPairs_29 kb_12 rfl ?_
      refine gf_icmp_le (t := 36) (q := 34) dX5_wrongPairs_31 (by decide) rfl ?_ ?_
      · refine gf_iconst (q := 37) dX5_wrongPairs_36 ki_1 rfl ?_
        refine gf_istore_n (i := 2) (lv2 := [some (.ref 35), some (.int v1), some (.int 1), none]) (q := 38) dX5_wrongPairs_37 rfl (by decide) rfl rfl ?_
        refine gf_iconst (q := 39) dX5_wrongPairs_38 ki_0 rfl ?_
        refine gf_istore_n (i := 3) (lv2 := [some (.ref 35), some (.int v1), some (.int 1), some (.int 0)]) (q := 40) dX5_wrongPairs_39 rfl (by decide) rfl rfl ?_
        exact (T_X5_wrongPairs_40 FU v1 1 0 u)
      · refine gf_iconst (q := 35) dX5_wrongPairs_34 ki_5 rfl ?_
        exact gf_reti dX5_wrongPairs_35 rfl
  · refine gf_iconst (q := 10) dX5_wrongPairs_9 ki_1 rfl ?_
    exact gf_reti dX5_wrongPairs_10 rfl
theorem C_X5_wrongPairs (v1 : Int32) (u : XM) : CF YY 3 yX5_wrongPairs cX5_wrongPairs 4 (some .int) [.ref 35, .int v1] u emI (F_X5_wrongPairs v1 u) := cf_of (by decide +kernel) (Nat.le_of_ble_eq_true rfl) rfl (T_X5_wrongPairs v1 u)
def F_X5_isSo_64 (k6 : Int32 → Int32 → Int32 → Int32 → Int32 → Int32 → XM → Option (Int32 × XM)) (v1 : Int32) (v2 : Int32) (v3 : Int32) (v4 : Int32) (v6 : Int32) (s0 : Int32) (u : XM) : Option (Int32 × XM) := k6 v1 v2 v3 v4 s0 (v6 + 2) u
set_option maxRecDepth 20000 in
set_option maxHeartbeats 4000000 in
theorem T_X5_isSo_64 (k6 : Int32 → Int32 → Int32 → Int32 → Int32 → Int32 → XM → Option (Int32 × XM)) (hk6 : ∀ (v1 : Int32) (v2 : Int32) (v3 : Int32) (v4 : Int32) (v5 : Int32) (v6 : Int32) (u : XM), GF E0 YY 4 yX5_isSo cX5_isSo 7 (some .boolean) 6 [some (.ref 35), some (.int v1), some (.int v2), some (.int v3), some (.int v4), some (.int v5), some (.int v6)] [] u emI (k6 v1 v2 v3 v4 v5 v6 u)) (v1 : Int32) (v2 : Int32) (v3 : Int32) (v4 : Int32) (v6 : Int32) (s0 : Int32) (u : XM) : GF E0 YY 4 yX5_isSo cX5_isSo 7 (some .boolean) 64 [some (.ref 35), some (.int v1), some (.int v2), some (.int v3), some (.int v4), none, some (.int v6)] [.int s0] u emI (F_X5_isSo_64 k6 v1 v2 v3 v4 v6 s0 u) := by
  unfold F_X5_isSo_64
  refine gf_istore (lv2 := [some (.ref 35), some (.int v1), some (.int v2), some (.int v3), some (.int v4), some (.int s0), some (.int v6)]) (q := 66) dX5_isSo_64 (by decide) rfl rfl ?_
  refine gf_iinc (v := (v6 + 2)) (lv2 := [some (.ref 35), some (.int v1), some (.int v2), some (.int v3), some (.int v4), some (.int s0), some (.int (v6 + 2))]) (q := 69) dX5_isSo_66 rfl (congrArg _ ki_2) (by decide) rfl rfl ?_
  refine gf_goto (q := 6) dX5_isSo_69 (by decide) ?_
  exact (hk6 v1 v2 v3 v4 s0 (v6 + 2) u)
def F_X5_isSo_63 (k6 : Int32 → Int32 → Int32 → Int32 → Int32 → Int32 → XM → Option (Int32 × XM)) (v1 : Int32) (v2 : Int32) (v3 : Int32) (v4 : Int32) (v6 : Int32) (u : XM) : Option (Int32 × XM) := F_X5_isSo_64 (k6) v1 v2 v3 v4 v6 0 u
set_option maxRecDepth 20000 in
set_option maxHeartbeats 4000000 in
theorem T_X5_isSo_63 (k6 : Int32 → Int32 → Int32 → Int32 → Int32 → Int32 → XM → Option (Int32 × XM)) (hk6 : ∀ (v1 : Int32) (v2 : Int32) (v3 : Int32) (v4 : Int32) (v5 : Int32) (v6 : Int32) (u : XM), GF E0 YY 4 yX5_isSo cX5_isSo 7 (some .boolean) 6 [some (.ref 35), some (.int v1), some (.int v2), some (.int v3), some (.int v4), some (.int v5), some (.int v6)] [] u emI (k6 v1 v2 v3 v4 v5 v6 u)) (v1 : Int32) (v2 : Int32) (v3 : Int32) (v4 : Int32) (v6 : Int32) (u : XM) : GF E0 YY 4 yX5_isSo cX5_isSo 7 (some .boolean) 63 [some (.ref 35), some (.int v1), some (.int v2), some (.int v3), some (.int v4), none, some (.int v6)] [] u emI (F_X5_isSo_63 k6 v1 v2 v3 v4 v6 u) := by
  unfold F_X5_isSo_63
  refine gf_iconst (q := 64) dX5_isSo_63 ki_0 rfl ?_
  exact (T_X5_isSo_64 (k6) hk6 v1 v2 v3 v4 v6 0 u)
def F_X5_isSo_6 : Nat → Int32 → Int32 → Int32 → Int32 → Int32 → Int32 → XM → Option (Int32 × XM)
  | 0, _, _, _, _, _, _, _ => none
  | n + 1, v1, v2, v3, v4, v5, v6, u => (if ain YY 0 36 v1 = true then (if (mi u 36 (Int32.toNatClampNeg v1)) ≤ v6 then (if vp_nar .boolean v5 = v5 then some (v5, u) else none) else (if v5 = 0 then F_X5_isSo_63 (F_X5_isSo_6 n) v1 v2 v3 v4 v6 u else (if ain YY 0 37 ((40 * v1) + v6) = true then (Option.bind (F_X5_after v2 v3 v4 (mi u 37 (Int32.toNatClampNeg ((40 * v1) + v6))) u) (fun x1 => (if ain YY 0 37 (((40 * v1) + v6) + 1) = true then (if x1.1 = (mi x1.2 37 (Int32.toNatClampNeg (((40 * v1) + v6) + 1))) then F_X5_isSo_64 (F_X5_isSo_6 n) v1 v2 v3 v4 v6 1 x1.2 else F_X5_isSo_63 (F_X5_isSo_6 n) v1 v2 v3 v4 v6 x1.2) else none))) else none))) else none)
set_option maxRecDepth 20000 in
set_option maxHeartbeats 4000000 in
theorem T_X5_isSo_6 : ∀ (n : Nat) (v1 : Int32) (v2 : Int32) (v3 : Int32) (v4 : Int32) (v5 : Int32) (v6 : Int32) (u : XM), GF E0 YY 4 yX5_isSo cX5_isSo 7 (some .boolean) 6 [some (.ref 35), some (.int v1), some (.int v2), some (.int v3), some (.int v4), some (.int v5), some (.int v6)] [] u emI (F_X5_isSo_6 n v1 v2 v3 v4 v5 v6 u) := by
  intro n
  induction n with
  | zero => intro v1 v2 v3 v4 v5 v6 u; exact gf_none
  | succ n ih =>
    intro v1 v2 v3 v4 v5 v6 u
    unfold F_X5_isSo_6
    refine gf_iload (q := 8) dX5_isSo_6 rfl rfl ?_
    refine gf_aload_n (i := 0) (q := 9) dX5_isSo_8 rfl rfl rfl ?_
    refine gf_getA (C := RX5) (T := TX5) (N := 33) (ci := 5) (k := 35) (j := 0) (t := 36) (q := 12) dX5_isSo_9 rfl rfl kin5 (by decide) kw604 rfl rfl ?_
    refine gf_iload_n (i := 1) (q := 13) dX5_isSo_12 rfl rfl rfl ?_
    refine gf_iald (q := 14) dX5_isSo_13 rfl ?_
    refine gf_icmp_ge (t := 72) (q := 17) dX5_isSo_14 (by decide) rfl ?_ ?_
    · refine gf_iload (q := 74) dX5_isSo_72 rfl rfl ?_
      exact gf_retb dX5_isSo_74 rfl
    · refine gf_iload (q := 19) dX5_isSo_17 rfl rfl ?_
      refine gf_if_eq (t := 63) (q := 22) dX5_isSo_19 (by decide) rfl ?_ ?_
      · exact gf_mask (b := [true, true, true, true, true, false, true]) rfl (T_X5_isSo_63 (F_X5_isSo_6 n) ih v1 v2 v3 v4 v6 u)
      · refine gf_aload_n (i := 0) (q := 23) dX5_isSo_22 rfl rfl rfl ?_
        refine gf_iload_n (i := 2) (q := 24) dX5_isSo_23 rfl rfl rfl ?_
        refine gf_iload_n (i := 3) (q := 25) dX5_isSo_24 rfl rfl rfl ?_
        refine gf_iload (q := 27) dX5_isSo_25 rfl rfl ?_
        refine gf_aload_n (i := 0) (q := 28) dX5_isSo_27 rfl rfl rfl ?_
        refine gf_getA (C := RX5) (T := TX5) (N := 33) (ci := 5) (k := 35) (j := 1) (t := 37) (q := 31) dX5_isSo_28 rfl rfl kin5 (by decide) kw605 rfl rfl ?_
        refine gf_bipush (q := 33) dX5_isSo_31 kb_40 rfl ?_
        refine gf_iload_n (i := 1) (q := 34) dX5_isSo_33 rfl rfl rfl ?_
        refine gf_imul (q := 35) dX5_isSo_34 rfl ?_
        refine gf_iload (q := 37) dX5_isSo_35 rfl rfl ?_
        refine gf_iadd (q := 38) dX5_isSo_37 rfl ?_
        refine gf_iald (q := 39) dX5_isSo_38 rfl ?_
        refine gf_callV_i (n2 := 4) (As := [.int v2, .int v3, .int v4, .int (mi u 37 (Int32.toNatClampNeg ((40 * v1) + v6)))]) (st := []) (b := 35) (ci := 5) (C := RX5) (q := 42) (hlen := rfl) rfl rfl kw861 kw863 kp30 dX5_isSo_39 kw864 kw7 (by decide +kernel) (by decide) (Nat.le_of_ble_eq_true rfl) (C_X5_after v2 v3 v4 (mi u 37 (Int32.toNatClampNeg ((40 * v1) + v6))) u) rfl rfl (fun x1 => ?_)
        refine gf_aload_n (i := 0) (q := 43) dX5_isSo_42 rfl rfl rfl ?_
        refine gf_getA (C := RX5) (T := TX5) (N := 33) (ci := 5) (k := 35) (j := 1) (t := 37) (q := 46) dX5_isSo_43 rfl rfl kin5 (by decide) kw605 rfl rfl ?_
        refine gf_bipush (q := 48) dX5_isSo_46 kb_40 rfl ?_
        refine gf_iload_n (i := 1) (q := 49) dX5_isSo_48 rfl rfl rfl ?_
        refine gf_imul (q := 50) dX5_isSo_49 rfl ?_
        refine gf_iload (q := 52) dX5_isSo_50 rfl rfl ?_
        refine gf_iadd (q := 53) dX5_isSo_52 rfl ?_
        refine gf_iconst (q := 54) dX5_isSo_53 ki_1 rfl ?_
        refine gf_iadd (q := 55) dX5_isSo_54 rfl ?_
        refine gf_iald (q := 56) dX5_isSo_55 rfl ?_
        refine gf_icmp_ne (t := 63) (q := 59) dX5_isSo_56 (by decide) rfl ?_ ?_
        · refine gf_iconst (q := 60) dX5_isSo_59 ki_1 rfl ?_
          refine gf_goto (q := 64) dX5_isSo_60 (by decide) ?_
          exact gf_mask (b := [true, true, true, true, true, false, true]) rfl (T_X5_isSo_64 (F_X5_isSo_6 n) ih v1 v2 v3 v4 v6 1 x1.2)
        · exact gf_mask (b := [true, true, true, true, true, false, true]) rfl (T_X5_isSo_63 (F_X5_isSo_6 n) ih v1 v2 v3 v4 v6 x1.2)
def F_X5_isSo (v1 : Int32) (v2 : Int32) (v3 : Int32) (v4 : Int32) (u : XM) : Option (Int32 × XM) := F_X5_isSo_6 FU v1 v2 v3 v4 1 0 u
set_option maxRecDepth 20000 in
set_option maxHeartbeats 4000000 in
theorem T_X5_isSo (v1 : Int32) (v2 : Int32) (v3 : Int32) (v4 : Int32) (u : XM) : GF E0 YY 4 yX5_isSo cX5_isSo 7 (some .boolean) 0 [some (.ref 35), some (.int v1), some (.int v2), some (.int v3), some (.int v4), none, none] [] u emI (F_X5_isSo v1 v2 v3 v4 u) := by
  unfold F_X5_isSo
  refine gf_iconst (q := 1) dX5_isSo_0 ki_1 rfl ?_
  refine gf_istore (lv2 := [some (.ref 35), some (.int v1), some (.int v2), some (.int v3), some (.int v4), some (.int 1), none]) (q := 3) dX5_isSo_1 (by decide) rfl rfl ?_
  refine gf_iconst (q := 4) dX5_isSo_3 ki_0 rfl ?_
  refine gf_istore (lv2 := [some (.ref 35), some (.int v1), some (.int v2), some (.int v3), some (.int v4), some (.int 1), some (.int 0)]) (q := 6) dX5_isSo_4 (by decide) rfl rfl ?_
  exact (T_X5_isSo_6 FU v1 v2 v3 v4 1 0 u)
theorem C_X5_isSo (v1 : Int32) (v2 : Int32) (v3 : Int32) (v4 : Int32) (u : XM) : CF YY 4 yX5_isSo cX5_isSo 7 (some .boolean) [.ref 35, .int v1, .int v2, .int v3, .int v4] u emI (F_X5_isSo v1 v2 v3 v4 u) := cf_of (by decide +kernel) (Nat.le_of_ble_eq_true rfl) rfl (T_X5_isSo v1 v2 v3 v4 u)
def F_X5_starts_78 (k39 : Int32 → Int32 → Int32 → Int32 → XM → Option (Int32 × XM)) (v1 : Int32) (v2 : Int32) (v5 : Int32) (s0 : Int32) (s1 : Int32) (u : XM) : Option (Int32 × XM) := k39 v1 v2 (s1 ||| s0) (v5 + 1) u
set_option maxRecDepth 20000 in
set_option maxHeartbeats 4000000 in
theorem T_X5_starts_78 (k39 : Int32 → Int32 → Int32 → Int32 → XM → Option (Int32 × XM)) (hk39 : ∀ (v1 : Int32) (v2 : Int32) (v4 : Int32) (v5 : Int32) (u : XM), GF E0 YY 5 yX5_starts cX5_starts 6 (some .int) 39 [some (.ref 35), some (.int v1), some (.int v2), none, some (.int v4), some (.int v5)] [] u emI (k39 v1 v2 v4 v5 u)) (v1 : Int32) (v2 : Int32) (v5 : Int32) (s0 : Int32) (s1 : Int32) (u : XM) : GF E0 YY 5 yX5_starts cX5_starts 6 (some .int) 78 [some (.ref 35), some (.int v1), some (.int v2), none, none, some (.int v5)] [.int s0, .int s1] u emI (F_X5_starts_78 k39 v1 v2 v5 s0 s1 u) := by
  unfold F_X5_starts_78
  refine gf_ior (q := 79) dX5_starts_78 rfl ?_
  refine gf_istore (lv2 := [some (.ref 35), some (.int v1), some (.int v2), none, some (.int (s1 ||| s0)), some (.int v5)]) (q := 81) dX5_starts_79 (by decide) rfl rfl ?_
  refine gf_iinc (v := (v5 + 1)) (lv2 := [some (.ref 35), some (.int v1), some (.int v2), none, some (.int (s1 ||| s0)), some (.int (v5 + 1))]) (q := 84) dX5_starts_81 rfl (congrArg _ ki_1) (by decide) rfl rfl ?_
  refine gf_goto (q := 39) dX5_starts_84 (by decide) ?_
  exact (hk39 v1 v2 (s1 ||| s0) (v5 + 1) u)
def F_X5_starts_39 : Nat → Int32 → Int32 → Int32 → Int32 → XM → Option (Int32 × XM)
  | 0, _, _, _, _, _ => none
  | n + 1, v1, v2, v4, v5, u => (if 8 ≤ v5 then some (v4, u) else (if ain YY 0 40 v1 = true then (if ain YY 0 41 v1 = true then (Option.bind (F_X5_isSo v2 (mi u 40 (Int32.toNatClampNeg v1)) (mi u 41 (Int32.toNatClampNeg v1)) v5 u) (fun x1 => (if x1.1 = 0 then F_X5_starts_78 (F_X5_starts_39 n) v1 v2 v5 0 v4 x1.2 else F_X5_starts_78 (F_X5_starts_39 n) v1 v2 v5 (1 <<< (v5 &&& 31)) v4 x1.2))) else none) else none))
set_option maxRecDepth 20000 in
set_option maxHeartbeats 4000000 in
theorem T_X5_starts_39 : ∀ (n : Nat) (v1 : Int32) (v2 : Int32) (v4 : Int32) (v5 : Int32) (u : XM), GF E0 YY 5 yX5_starts cX5_starts 6 (some .int) 39 [some (.ref 35), some (.int v1), some (.int v2), none, some (.int v4), some (.int v5)] [] u emI (F_X5_starts_39 n v1 v2 v4 v5 u) := by
  intro n
  induction n with
  | zero => intro v1 v2 v4 v5 u; exact gf_none
  | succ n ih =>
    intro v1 v2 v4 v5 u
    unfold F_X5_starts_39
    refine gf_iload (q := 41) dX5_starts_39 rfl rfl ?_
    refine gf_bipush (q := 43) dX5_starts_41 kb_8 rfl ?_
    refine gf_icmp_ge (t := 87) (q := 46) dX5_starts_43 (by decide) rfl ?_ ?_
    · refine gf_iload (q := 89) dX5_starts_87 rfl rfl ?_
      exact gf_reti dX5_starts_89 rfl
    · refine gf_iload (q := 48) dX5_starts_46 rfl rfl ?_
      refine gf_aload_n (i := 0) (q := 49) dX5_starts_48 rfl rfl rfl ?_
      refine gf_iload_n (i := 2) (q := 50) dX5_starts_49 rfl rfl rfl ?_
      refine gf_aload_n (i := 0) (q := 51) dX5_starts_50 rfl rfl rfl ?_
      refine gf_getA (C := RX5) (T := TX5) (N := 33) (ci := 5) (k := 35) (j := 6) (t := 40) (q := 54) dX5_starts_51 rfl rfl kin5 (by decide) kw610 rfl rfl ?_
      refine gf_iload_n (i := 1) (q := 55) dX5_starts_54 rfl rfl rfl ?_
      refine gf_iald (q := 56) dX5_starts_55 rfl ?_
      refine gf_aload_n (i := 0) (q := 57) dX5_starts_56 rfl rfl rfl ?_
      refine gf_getA (C := RX5) (T := TX5) (N := 33) (ci := 5) (k := 35) (j := 7) (t := 41) (q := 60) dX5_starts_57 rfl rfl kin5 (by decide) kw611 rfl rfl ?_
      refine gf_iload_n (i := 1) (q := 61) dX5_starts_60 rfl rfl rfl ?_
      refine gf_iald (q := 62) dX5_starts_61 rfl ?_
      refine gf_iload (q := 64) dX5_starts_62 rfl rfl ?_
      refine gf_callV_i (n2 := 4) (As := [.int v2, .int (mi u 40 (Int32.toNatClampNeg v1)), .int (mi u 41 (Int32.toNatClampNeg v1)), .int v5]) (st := [.int v4]) (b := 35) (ci := 5) (C := RX5) (q := 67) (hlen := rfl) rfl rfl kw1006 kw1008 kp46 dX5_starts_64 kw1009 kw7 (by decide +kernel) (by decide) (Nat.le_of_ble_eq_true rfl) (C_X5_isSo v2 (mi u 40 (Int32.toNatClampNeg v1)) (mi u 41 (Int32.toNatClampNeg v1)) v5 u) rfl rfl (fun x1 => ?_)
      refine gf_if_eq (t := 77) (q := 70) dX5_starts_67 (by decide) rfl ?_ ?_
      · refine gf_iconst (q := 78) dX5_starts_77 ki_0 rfl ?_
        exact gf_mask (b := [true, true, true, false, false, true]) rfl (T_X5_starts_78 (F_X5_starts_39 n) ih v1 v2 v5 0 v4 x1.2)
      · refine gf_iconst (q := 71) dX5_starts_70 ki_1 rfl ?_
        refine gf_iload (q := 73) dX5_starts_71 rfl rfl ?_
        refine gf_ishl (q := 74) dX5_starts_73 rfl ?_
        refine gf_goto (q := 78) dX5_starts_74 (by decide) ?_
        exact gf_mask (b := [true, true, true, false, false, true]) rfl (T_X5_starts_78 (F_X5_starts_39 n) ih v1 v2 v5 (1 <<< (v5 &&& 31)) v4 x1.2)
def F_X5_starts (v1 : Int32) (v2 : Int32) (u : XM) : Option (Int32 × XM) := (Option.bind (F_X5_isThing v1 u) (fun x2 => (if x2.1 = 0 then some ((-1), x2.2) else (Option.bind (F_X5_isRow v2 x2.2) (fun x3 => (if x3.1 = 0 then some ((-1), x3.2) else (Option.bind (F_X5_wrongPairs v2 x3.2) (fun x4 => (if x4.1 = 0 then F_X5_starts_39 FU v1 v2 0 0 x4.2 else (Option.bind (F_X5_found x4.1 x4.2) (fun x5 => some (x5.1, x5.2))))))))))))
set_option maxRecDepth 20000 in
set_option maxHeartbeats 4000000 in
theorem T_X5_starts (v1 : Int32) (v2 : Int32) (u : XM) : GF E0 YY 5 yX5_starts cX5_starts 6 (some .int) 0 [some (.ref 35), some (.int v1), some (.int v2), none, none, none] [] u emI (F_X5_starts v1 v2 u) := by
  unfold F_X5_starts
  refine gf_aload_n (i := 0) (q := 1) dX5_starts_0 rfl rfl rfl ?_
  refine gf_iload_n (i := 1) (q := 2) dX5_starts_1 rfl rfl rfl ?_
  refine gf_callV_i (n2 := 1) (As := [.int v1]) (st := []) (b := 35) (ci := 5) (C := RX5) (q := 5) (hlen := rfl) rfl rfl kw795 kw797 kp20 dX5_starts_2 kw798 kw7 (by decide +kernel) (by decide) (Nat.le_of_ble_eq_true rfl) (C_X5_isThing v1 u) rfl rfl (fun x2 => ?_)
  refine gf_if_eq (t := 15) (q := 8) dX5_starts_5 (by decide) rfl ?_ ?_
  · refine gf_iconst (q := 16) dX5_starts_15 ki_m1 rfl ?_
    exact gf_reti dX5_starts_16 rfl
  · refine gf_iload_n (i := 2) (q := 9) dX5_starts_8 rfl rfl rfl ?_
    refine gf_callS_i (n2 := 1) (As := [.int v2]) (st := []) (q := 12) (hlen := rfl) kw709 kw710 dX5_starts_9 kw711 kw7 (by decide +kernel) (by decide) (Nat.le_of_ble_eq_true rfl) (C_X5_isRow v2 x2.2) rfl rfl (fun x3 => ?_)
    refine gf_if_ne (t := 17) (q := 15) dX5_starts_12 (by decide) rfl ?_ ?_
    · refine gf_iconst (q := 16) dX5_starts_15 ki_m1 rfl ?_
      exact gf_reti dX5_starts_16 rfl
    · refine gf_aload_n (i := 0) (q := 18) dX5_starts_17 rfl rfl rfl ?_
      refine gf_iload_n (i := 2) (q := 19) dX5_starts_18 rfl rfl rfl ?_
      refine gf_callV_i (n2 := 1) (As := [.int v2]) (st := []) (b := 35) (ci := 5) (C := RX5) (q := 22) (hlen := rfl) rfl rfl kw1002 kw1004 kp45 dX5_starts_19 kw1005 kw7 (by decide +kernel) (by decide) (Nat.le_of_ble_eq_true rfl) (C_X5_wrongPairs v2 x3.2) rfl rfl (fun x4 => ?_)
      refine gf_istore_n (i := 3) (lv2 := [some (.ref 35), some (.int v1), some (.int v2), some (.int x4.1), none, none]) (q := 23) dX5_starts_22 rfl (by decide) rfl rfl ?_
      refine gf_iload_n (i := 3) (q := 24) dX5_starts_23 rfl rfl rfl ?_
      refine gf_if_eq (t := 33) (q := 27) dX5_starts_24 (by decide) rfl ?_ ?_
      · refine gf_iconst (q := 34) dX5_starts_33 ki_0 rfl ?_
        refine gf_istore (lv2 := [some (.ref 35), some (.int v1), some (.int v2), some (.int x4.1), some (.int 0), none]) (q := 36) dX5_starts_34 (by decide) rfl rfl ?_
        refine gf_iconst (q := 37) dX5_starts_36 ki_0 rfl ?_
        refine gf_istore (lv2 := [some (.ref 35), some (.int v1), some (.int v2), some (.int x4.1), some (.int 0), some (.int 0)]) (q := 39) dX5_starts_37 (by decide) rfl rfl ?_
        exact gf_mask (b := [true, true, true, false, true, true]) rfl (T_X5_starts_39 FU v1 v2 0 0 x4.2)
      · refine gf_aload_n (i := 0) (q := 28) dX5_starts_27 rfl rfl rfl ?_
        refine gf_iload_n (i := 3) (q := 29) dX5_starts_28 rfl rfl rfl ?_
        refine gf_callV_i (n2 := 1) (As := [.int x4.1]) (st := []) (b := 35) (ci := 5) (C := RX5) (q := 32) (hlen := rfl) rfl rfl kw716 kw718 kp12 dX5_starts_29 kw719 kw7 (by decide +kernel) (by decide) (Nat.le_of_ble_eq_true rfl) (C_X5_found x4.1 x4.2) rfl rfl (fun x5 => ?_)
        exact gf_reti dX5_starts_32 rfl
theorem C_X5_starts (v1 : Int32) (v2 : Int32) (u : XM) : CF YY 5 yX5_starts cX5_starts 6 (some .int) [.ref 35, .int v1, .int v2] u emI (F_X5_starts v1 v2 u) := cf_of (by decide +kernel) (Nat.le_of_ble_eq_true rfl) rfl (T_X5_starts v1 v2 u)
def F_X5_weights_91 (k50 : Int32 → Int32 → Int32 → Int32 → XM → Option (Int32 × XM)) (v1 : Int32) (v2 : Int32) (v5 : Int32) (s0 : Int32) (s1 : Int32) (u : XM) : Option (Int32 × XM) := k50 v1 v2 (s1 ||| s0) (v5 + 1) u
set_option maxRecDepth 20000 in
set_option maxHeartbeats 4000000 in
theorem T_X5_weights_91 (k50 : Int32 → Int32 → Int32 → Int32 → XM → Option (Int32 × XM)) (hk50 : ∀ (v1 : Int32) (v2 : Int32) (v4 : Int32) (v5 : Int32) (u : XM), GF E0 YY 5 yX5_weights cX5_weights 6 (some .int) 50 [some (.ref 35), some (.int v1), some (.int v2), none, some (.int v4), some (.int v5)] [] u emI (k50 v1 v2 v4 v5 u)) (v1 : Int32) (v2 : Int32) (v5 : Int32) (s0 : Int32) (s1 : Int32) (u : XM) : GF E0 YY 5 yX5_weights cX5_weights 6 (some .int) 91 [some (.ref 35), some (.int v1), some (.int v2), none, none, some (.int v5)] [.int s0, .int s1] u emI (F_X5_weights_91 k50 v1 v2 v5 s0 s1 u) := by
  unfold F_X5_weights_91
  refine gf_ior (q := 92) dX5_weights_91 rfl ?_
  refine gf_istore (lv2 := [some (.ref 35), some (.int v1), some (.int v2), none, some (.int (s1 ||| s0)), some (.int v5)]) (q := 94) dX5_weights_92 (by decide) rfl rfl ?_
  refine gf_iinc (v := (v5 + 1)) (lv2 := [some (.ref 35), some (.int v1), some (.int v2), none, some (.int (s1 ||| s0)), some (.int (v5 + 1))]) (q := 97) dX5_weights_94 rfl (congrArg _ ki_1) (by decide) rfl rfl ?_
  refine gf_goto (q := 50) dX5_weights_97 (by decide) ?_
  exact (hk50 v1 v2 (s1 ||| s0) (v5 + 1) u)
def F_X5_weights_50 : Nat → Int32 → Int32 → Int32 → Int32 → XM → Option (Int32 × XM)
  | 0, _, _, _, _, _ => none
  | n + 1, v1, v2, v4, v5, u => (if 10 ≤ v5 then some (v4, u) else (if ain YY 0 40 v1 = true then (if ain YY 0 43 (0 + v1) = true then (Option.bind (F_X5_isSo v2 (mi u 40 (Int32.toNatClampNeg v1)) v5 (mi u 43 (Int32.toNatClampNeg (0 + v1))) u) (fun x1 => (if x1.1 = 0 then F_X5_weights_91 (F_X5_weights_50 n) v1 v2 v5 0 v4 x1.2 else F_X5_weights_91 (F_X5_weights_50 n) v1 v2 v5 (1 <<< (v5 &&& 31)) v4 x1.2))) else none) else none))
set_option maxRecDepth 20000 in
set_option maxHeartbeats 4000000 in
theorem T_X5_weights_50 : ∀ (n : Nat) (v1 : Int32) (v2 : Int32) (v4 : Int32) (v5 : Int32) (u : XM), GF E0 YY 5 yX5_weights cX5_weights 6 (some .int) 50 [some (.ref 35), some (.int v1), some (.int v2), none, some (.int v4), some (.int v5)] [] u emI (F_X5_weights_50 n v1 v2 v4 v5 u) := by
  intro n
  induction n with
  | zero => intro v1 v2 v4 v5 u; exact gf_none
  | succ n ih =>
    intro v1 v2 v4 v5 u
    unfold F_X5_weights_50
    refine gf_iload (q := 52) dX5_weights_50 rfl rfl ?_
    refine gf_bipush (q := 54) dX5_weights_52 kb_10 rfl ?_
    refine gf_icmp_ge (t := 100) (q := 57) dX5_weights_54 (by decide) rfl ?_ ?_
    · refine gf_iload (q := 102) dX5_weights_100 rfl rfl ?_
      exact gf_reti dX5_weights_102 rfl
    · refine gf_iload (q := 59) dX5_weights_57 rfl rfl ?_
      refine gf_aload_n (i := 0) (q := 60) dX5_weights_59 rfl rfl rfl ?_
      refine gf_iload_n (i := 2) (q := 61) dX5_weights_60 rfl rfl rfl ?_
      refine gf_aload_n (i := 0) (q := 62) dX5_weights_61 rfl rfl rfl ?_
      refine gf_getA (C := RX5) (T := TX5) (N := 33) (ci := 5) (k := 35) (j := 6) (t := 40) (q := 65) dX5_weights_62 rfl rfl kin5 (by decide) kw610 rfl rfl ?_
      refine gf_iload_n (i := 1) (q := 66) dX5_weights_65 rfl rfl rfl ?_
      refine gf_iald (q := 67) dX5_weights_66 rfl ?_
      refine gf_iload (q := 69) dX5_weights_67 rfl rfl ?_
      refine gf_aload_n (i := 0) (q := 70) dX5_weights_69 rfl rfl rfl ?_
      refine gf_getA (C := RX5) (T := TX5) (N := 33) (ci := 5) (k := 35) (j := 9) (t := 43) (q := 73) dX5_weights_70 rfl rfl kin5 (by decide) kw613 rfl rfl ?_
      refine gf_iconst (q := 74) dX5_weights_73 ki_0 rfl ?_
      refine gf_iload_n (i := 1) (q := 75) dX5_weights_74 rfl rfl rfl ?_
      refine gf_iadd (q := 76) dX5_weights_75 rfl ?_
      refine gf_iald (q := 77) dX5_weights_76 rfl ?_
      refine gf_callV_i (n2 := 4) (As := [.int v2, .int (mi u 40 (Int32.toNatClampNeg v1)), .int v5, .int (mi u 43 (Int32.toNatClampNeg (0 + v1)))]) (st := [.int v4]) (b := 35) (ci := 5) (C := RX5) (q := 80) (hlen := rfl) rfl rfl kw1006 kw1008 kp46 dX5_weights_77 kw1009 kw7 (by decide +kernel) (by decide) (Nat.le_of_ble_eq_true rfl) (C_X5_isSo v2 (mi u 40 (Int32.toNatClampNeg v1)) v5 (mi u 43 (Int32.toNatClampNeg (0 + v1))) u) rfl rfl (fun x1 => ?_)
      refine gf_if_eq (t := 90) (q := 83) dX5_weights_80 (by decide) rfl ?_ ?_
      · refine gf_iconst (q := 91) dX5_weights_90 ki_0 rfl ?_
        exact gf_mask (b := [true, true, true, false, false, true]) rfl (T_X5_weights_91 (F_X5_weights_50 n) ih v1 v2 v5 0 v4 x1.2)
      · refine gf_iconst (q := 84) dX5_weights_83 ki_1 rfl ?_
        refine gf_iload (q := 86) dX5_weights_84 rfl rfl ?_
        refine gf_ishl (q := 87) dX5_weights_86 rfl ?_
        refine gf_goto (q := 91) dX5_weights_87 (by decide) ?_
        exact gf_mask (b := [true, true, true, false, false, true]) rfl (T_X5_weights_91 (F_X5_weights_50 n) ih v1 v2 v5 (1 <<< (v5 &&& 31)) v4 x1.2)
def F_X5_weights (v1 : Int32) (v2 : Int32) (u : XM) : Option (Int32 × XM) := (Option.bind (F_X5_isThing v1 u) (fun x2 => (if x2.1 = 0 then some ((-1), x2.2) else (Option.bind (F_X5_isRow v2 x2.2) (fun x3 => (if x3.1 = 0 then some ((-1), x3.2) else (Option.bind (F_X5_wrongPairs v2 x3.2) (fun x4 => (if x4.1 = 0 then (Option.bind (F_X5_isTaken v1 x4.2) (fun x5 => (if x5.1 = 0 then F_X5_weights_50 FU v1 v2 0 0 x5.2 else some ((-4), x5.2)))) else (Option.bind (F_X5_found x4.1 x4.2) (fun x6 => some (x6.1, x6.2))))))))))))
set_option maxRecDepth 20000 in
set_option maxHeartbeats 4000000 in
theorem T_X5_weights (v1 : Int32) (v2 : Int32) (u : XM) : GF E0 YY 5 yX5_weights cX5_weights 6 (some .int) 0 [some (.ref 35), some (.int v1), some (.int v2), none, none, none] [] u emI (F_X5_weights v1 v2 u) := by
  unfold F_X5_weights
  refine gf_aload_n (i := 0) (q := 1) dX5_weights_0 rfl rfl rfl ?_
  refine gf_iload_n (i := 1) (q := 2) dX5_weights_1 rfl rfl rfl ?_
  refine gf_callV_i (n2 := 1) (As := [.int v1]) (st := []) (b := 35) (ci := 5) (C := RX5) (q := 5) (hlen := rfl) rfl rfl kw795 kw797 kp20 dX5_weights_2 kw798 kw7 (by decide +kernel) (by decide) (Nat.le_of_ble_eq_true rfl) (C_X5_isThing v1 u) rfl rfl (fun x2 => ?_)
  refine gf_if_eq (t := 15) (q := 8) dX5_weights_5 (by decide) rfl ?_ ?_
  · refine gf_iconst (q := 16) dX5_weights_15 ki_m1 rfl ?_
    exact gf_reti dX5_weights_16 rfl
  · refine gf_iload_n (i := 2) (q := 9) dX5_weights_8 rfl rfl rfl ?_
    refine gf_callS_i (n2 := 1) (As := [.int v2]) (st := []) (q := 12) (hlen := rfl) kw709 kw710 dX5_weights_9 kw711 kw7 (by decide +kernel) (by decide) (Nat.le_of_ble_eq_true rfl) (C_X5_isRow v2 x2.2) rfl rfl (fun x3 => ?_)
    refine gf_if_ne (t := 17) (q := 15) dX5_weights_12 (by decide) rfl ?_ ?_
    · refine gf_iconst (q := 16) dX5_weights_15 ki_m1 rfl ?_
      exact gf_reti dX5_weights_16 rfl
    · refine gf_aload_n (i := 0) (q := 18) dX5_weights_17 rfl rfl rfl ?_
      refine gf_iload_n (i := 2) (q := 19) dX5_weights_18 rfl rfl rfl ?_
      refine gf_callV_i (n2 := 1) (As := [.int v2]) (st := []) (b := 35) (ci := 5) (C := RX5) (q := 22) (hlen := rfl) rfl rfl kw1002 kw1004 kp45 dX5_weights_19 kw1005 kw7 (by decide +kernel) (by decide) (Nat.le_of_ble_eq_true rfl) (C_X5_wrongPairs v2 x3.2) rfl rfl (fun x4 => ?_)
      refine gf_istore_n (i := 3) (lv2 := [some (.ref 35), some (.int v1), some (.int v2), some (.int x4.1), none, none]) (q := 23) dX5_weights_22 rfl (by decide) rfl rfl ?_
      refine gf_iload_n (i := 3) (q := 24) dX5_weights_23 rfl rfl rfl ?_
      refine gf_if_eq (t := 33) (q := 27) dX5_weights_24 (by decide) rfl ?_ ?_
      · refine gf_aload_n (i := 0) (q := 34) dX5_weights_33 rfl rfl rfl ?_
        refine gf_iload_n (i := 1) (q := 35) dX5_weights_34 rfl rfl rfl ?_
        refine gf_callV_i (n2 := 1) (As := [.int v1]) (st := []) (b := 35) (ci := 5) (C := RX5) (q := 38) (hlen := rfl) rfl rfl kw815 kw817 kp23 dX5_weights_35 kw818 kw7 (by decide +kernel) (by decide) (Nat.le_of_ble_eq_true rfl) (C_X5_isTaken v1 x4.2) rfl rfl (fun x5 => ?_)
        refine gf_if_eq (t := 44) (q := 41) dX5_weights_38 (by decide) rfl ?_ ?_
        · refine gf_iconst (q := 45) dX5_weights_44 ki_0 rfl ?_
          refine gf_istore (lv2 := [some (.ref 35), some (.int v1), some (.int v2), some (.int x4.1), some (.int 0), none]) (q := 47) dX5_weights_45 (by decide) rfl rfl ?_
          refine gf_iconst (q := 48) dX5_weights_47 ki_0 rfl ?_
          refine gf_istore (lv2 := [some (.ref 35), some (.int v1), some (.int v2), some (.int x4.1), some (.int 0), some (.int 0)]) (q := 50) dX5_weights_48 (by decide) rfl rfl ?_
          exact gf_mask (b := [true, true, true, false, true, true]) rfl (T_X5_weights_50 FU v1 v2 0 0 x5.2)
        · refine gf_bipush (q := 43) dX5_weights_41 kb_m4 rfl ?_
          exact gf_reti dX5_weights_43 rfl
      · refine gf_aload_n (i := 0) (q := 28) dX5_weights_27 rfl rfl rfl ?_
        refine gf_iload_n (i := 3) (q := 29) dX5_weights_28 rfl rfl rfl ?_
        refine gf_callV_i (n2 := 1) (As := [.int x4.1]) (st := []) (b := 35) (ci := 5) (C := RX5) (q := 32) (hlen := rfl) rfl rfl kw716 kw718 kp12 dX5_weights_29 kw719 kw7 (by decide +kernel) (by decide) (Nat.le_of_ble_eq_true rfl) (C_X5_found x4.1 x4.2) rfl rfl (fun x6 => ?_)
        exact gf_reti dX5_weights_32 rfl
theorem C_X5_weights (v1 : Int32) (v2 : Int32) (u : XM) : CF YY 5 yX5_weights cX5_weights 6 (some .int) [.ref 35, .int v1, .int v2] u emI (F_X5_weights v1 v2 u) := cf_of (by decide +kernel) (Nat.le_of_ble_eq_true rfl) rfl (T_X5_weights v1 v2 u)
def F_X5_kinds_91 (k50 : Int32 → Int32 → Int32 → Int32 → XM → Option (Int32 × XM)) (v1 : Int32) (v2 : Int32) (v5 : Int32) (s0 : Int32) (s1 : Int32) (u : XM) : Option (Int32 × XM) := k50 v1 v2 (s1 ||| s0) (v5 + 1) u
set_option maxRecDepth 20000 in
set_option maxHeartbeats 4000000 in
theorem T_X5_kinds_91 (k50 : Int32 → Int32 → Int32 → Int32 → XM → Option (Int32 × XM)) (hk50 : ∀ (v1 : Int32) (v2 : Int32) (v4 : Int32) (v5 : Int32) (u : XM), GF E0 YY 5 yX5_kinds cX5_kinds 6 (some .int) 50 [some (.ref 35), some (.int v1), some (.int v2), none, some (.int v4), some (.int v5)] [] u emI (k50 v1 v2 v4 v5 u)) (v1 : Int32) (v2 : Int32) (v5 : Int32) (s0 : Int32) (s1 : Int32) (u : XM) : GF E0 YY 5 yX5_kinds cX5_kinds 6 (some .int) 91 [some (.ref 35), some (.int v1), some (.int v2), none, none, some (.int v5)] [.int s0, .int s1] u emI (F_X5_kinds_91 k50 v1 v2 v5 s0 s1 u) := by
  unfold F_X5_kinds_91
  refine gf_ior (q := 92) dX5_kinds_91 rfl ?_
  refine gf_istore (lv2 := [some (.ref 35), some (.int v1), some (.int v2), none, some (.int (s1 ||| s0)), some (.int v5)]) (q := 94) dX5_kinds_92 (by decide) rfl rfl ?_
  refine gf_iinc (v := (v5 + 1)) (lv2 := [some (.ref 35), some (.int v1), some (.int v2), none, some (.int (s1 ||| s0)), some (.int (v5 + 1))]) (q := 97) dX5_kinds_94 rfl (congrArg _ ki_1) (by decide) rfl rfl ?_
  refine gf_goto (q := 50) dX5_kinds_97 (by decide) ?_
  exact (hk50 v1 v2 (s1 ||| s0) (v5 + 1) u)
def F_X5_kinds_50 : Nat → Int32 → Int32 → Int32 → Int32 → XM → Option (Int32 × XM)
  | 0, _, _, _, _, _ => none
  | n + 1, v1, v2, v4, v5, u => (if 6 ≤ v5 then some (v4, u) else (if ain YY 0 41 v1 = true then (if ain YY 0 43 (0 + v1) = true then (Option.bind (F_X5_isSo v2 v5 (mi u 41 (Int32.toNatClampNeg v1)) (mi u 43 (Int32.toNatClampNeg (0 + v1))) u) (fun x1 => (if x1.1 = 0 then F_X5_kinds_91 (F_X5_kinds_50 n) v1 v2 v5 0 v4 x1.2 else F_X5_kinds_91 (F_X5_kinds_50 n) v1 v2 v5 (1 <<< (v5 &&& 31)) v4 x1.2))) else none) else none))
set_option maxRecDepth 20000 in
set_option maxHeartbeats 4000000 in
theorem T_X5_kinds_50 : ∀ (n : Nat) (v1 : Int32) (v2 : Int32) (v4 : Int32) (v5 : Int32) (u : XM), GF E0 YY 5 yX5_kinds cX5_kinds 6 (some .int) 50 [some (.ref 35), some (.int v1), some (.int v2), none, some (.int v4), some (.int v5)] [] u emI (F_X5_kinds_50 n v1 v2 v4 v5 u) := by
  intro n
  induction n with
  | zero => intro v1 v2 v4 v5 u; exact gf_none
  | succ n ih =>
    intro v1 v2 v4 v5 u
    unfold F_X5_kinds_50
    refine gf_iload (q := 52) dX5_kinds_50 rfl rfl ?_
    refine gf_bipush (q := 54) dX5_kinds_52 kb_6 rfl ?_
    refine gf_icmp_ge (t := 100) (q := 57) dX5_kinds_54 (by decide) rfl ?_ ?_
    · refine gf_iload (q := 102) dX5_kinds_100 rfl rfl ?_
      exact gf_reti dX5_kinds_102 rfl
    · refine gf_iload (q := 59) dX5_kinds_57 rfl rfl ?_
      refine gf_aload_n (i := 0) (q := 60) dX5_kinds_59 rfl rfl rfl ?_
      refine gf_iload_n (i := 2) (q := 61) dX5_kinds_60 rfl rfl rfl ?_
      refine gf_iload (q := 63) dX5_kinds_61 rfl rfl ?_
      refine gf_aload_n (i := 0) (q := 64) dX5_kinds_63 rfl rfl rfl ?_
      refine gf_getA (C := RX5) (T := TX5) (N := 33) (ci := 5) (k := 35) (j := 7) (t := 41) (q := 67) dX5_kinds_64 rfl rfl kin5 (by decide) kw611 rfl rfl ?_
      refine gf_iload_n (i := 1) (q := 68) dX5_kinds_67 rfl rfl rfl ?_
      refine gf_iald (q := 69) dX5_kinds_68 rfl ?_
      refine gf_aload_n (i := 0) (q := 70) dX5_kinds_69 rfl rfl rfl ?_
      refine gf_getA (C := RX5) (T := TX5) (N := 33) (ci := 5) (k := 35) (j := 9) (t := 43) (q := 73) dX5_kinds_70 rfl rfl kin5 (by decide) kw613 rfl rfl ?_
      refine gf_iconst (q := 74) dX5_kinds_73 ki_0 rfl ?_
      refine gf_iload_n (i := 1) (q := 75) dX5_kinds_74 rfl rfl rfl ?_
      refine gf_iadd (q := 76) dX5_kinds_75 rfl ?_
      refine gf_iald (q := 77) dX5_kinds_76 rfl ?_
      refine gf_callV_i (n2 := 4) (As := [.int v2, .int v5, .int (mi u 41 (Int32.toNatClampNeg v1)), .int (mi u 43 (Int32.toNatClampNeg (0 + v1)))]) (st := [.int v4]) (b := 35) (ci := 5) (C := RX5) (q := 80) (hlen := rfl) rfl rfl kw1006 kw1008 kp46 dX5_kinds_77 kw1009 kw7 (by decide +kernel) (by decide) (Nat.le_of_ble_eq_true rfl) (C_X5_isSo v2 v5 (mi u 41 (Int32.toNatClampNeg v1)) (mi u 43 (Int32.toNatClampNeg (0 + v1))) u) rfl rfl (fun x1 => ?_)
      refine gf_if_eq (t := 90) (q := 83) dX5_kinds_80 (by decide) rfl ?_ ?_
      · refine gf_iconst (q := 91) dX5_kinds_90 ki_0 rfl ?_
        exact gf_mask (b := [true, true, true, false, false, true]) rfl (T_X5_kinds_91 (F_X5_kinds_50 n) ih v1 v2 v5 0 v4 x1.2)
      · refine gf_iconst (q := 84) dX5_kinds_83 ki_1 rfl ?_
        refine gf_iload (q := 86) dX5_kinds_84 rfl rfl ?_
        refine gf_ishl (q := 87) dX5_kinds_86 rfl ?_
        refine gf_goto (q := 91) dX5_kinds_87 (by decide) ?_
        exact gf_mask (b := [true, true, true, false, false, true]) rfl (T_X5_kinds_91 (F_X5_kinds_50 n) ih v1 v2 v5 (1 <<< (v5 &&& 31)) v4 x1.2)
def F_X5_kinds (v1 : Int32) (v2 : Int32) (u : XM) : Option (Int32 × XM) := (Option.bind (F_X5_isThing v1 u) (fun x2 => (if x2.1 = 0 then some ((-1), x2.2) else (Option.bind (F_X5_isRow v2 x2.2) (fun x3 => (if x3.1 = 0 then some ((-1), x3.2) else (Option.bind (F_X5_wrongPairs v2 x3.2) (fun x4 => (if x4.1 = 0 then (Option.bind (F_X5_isTaken v1 x4.2) (fun x5 => (if x5.1 = 0 then F_X5_kinds_50 FU v1 v2 0 0 x5.2 else some ((-4), x5.2)))) else (Option.bind (F_X5_found x4.1 x4.2) (fun x6 => some (x6.1, x6.2))))))))))))
set_option maxRecDepth 20000 in
set_option maxHeartbeats 4000000 in
theorem T_X5_kinds (v1 : Int32) (v2 : Int32) (u : XM) : GF E0 YY 5 yX5_kinds cX5_kinds 6 (some .int) 0 [some (.ref 35), some (.int v1), some (.int v2), none, none, none] [] u emI (F_X5_kinds v1 v2 u) := by
  unfold F_X5_kinds
  refine gf_aload_n (i := 0) (q := 1) dX5_kinds_0 rfl rfl rfl ?_
  refine gf_iload_n (i := 1) (q := 2) dX5_kinds_1 rfl rfl rfl ?_
  refine gf_callV_i (n2 := 1) (As := [.int v1]) (st := []) (b := 35) (ci := 5) (C := RX5) (q := 5) (hlen := rfl) rfl rfl kw795 kw797 kp20 dX5_kinds_2 kw798 kw7 (by decide +kernel) (by decide) (Nat.le_of_ble_eq_true rfl) (C_X5_isThing v1 u) rfl rfl (fun x2 => ?_)
  refine gf_if_eq (t := 15) (q := 8) dX5_kinds_5 (by decide) rfl ?_ ?_
  · refine gf_iconst (q := 16) dX5_kinds_15 ki_m1 rfl ?_
    exact gf_reti dX5_kinds_16 rfl
  · refine gf_iload_n (i := 2) (q := 9) dX5_kinds_8 rfl rfl rfl ?_
    refine gf_callS_i (n2 := 1) (As := [.int v2]) (st := []) (q := 12) (hlen := rfl) kw709 kw710 dX5_kinds_9 kw711 kw7 (by decide +kernel) (by decide) (Nat.le_of_ble_eq_true rfl) (C_X5_isRow v2 x2.2) rfl rfl (fun x3 => ?_)
    refine gf_if_ne (t := 17) (q := 15) dX5_kinds_12 (by decide) rfl ?_ ?_
    · refine gf_iconst (q := 16) dX5_kinds_15 ki_m1 rfl ?_
      exact gf_reti dX5_kinds_16 rfl
    · refine gf_aload_n (i := 0) (q := 18) dX5_kinds_17 rfl rfl rfl ?_
      refine gf_iload_n (i := 2) (q := 19) dX5_kinds_18 rfl rfl rfl ?_
      refine gf_callV_i (n2 := 1) (As := [.int v2]) (st := []) (b := 35) (ci := 5) (C := RX5) (q := 22) (hlen := rfl) rfl rfl kw1002 kw1004 kp45 dX5_kinds_19 kw1005 kw7 (by decide +kernel) (by decide) (Nat.le_of_ble_eq_true rfl) (C_X5_wrongPairs v2 x3.2) rfl rfl (fun x4 => ?_)
      refine gf_istore_n (i := 3) (lv2 := [some (.ref 35), some (.int v1), some (.int v2), some (.int x4.1), none, none]) (q := 23) dX5_kinds_22 rfl (by decide) rfl rfl ?_
      refine gf_iload_n (i := 3) (q := 24) dX5_kinds_23 rfl rfl rfl ?_
      refine gf_if_eq (t := 33) (q := 27) dX5_kinds_24 (by decide) rfl ?_ ?_
      · refine gf_aload_n (i := 0) (q := 34) dX5_kinds_33 rfl rfl rfl ?_
        refine gf_iload_n (i := 1) (q := 35) dX5_kinds_34 rfl rfl rfl ?_
        refine gf_callV_i (n2 := 1) (As := [.int v1]) (st := []) (b := 35) (ci := 5) (C := RX5) (q := 38) (hlen := rfl) rfl rfl kw815 kw817 kp23 dX5_kinds_35 kw818 kw7 (by decide +kernel) (by decide) (Nat.le_of_ble_eq_true rfl) (C_X5_isTaken v1 x4.2) rfl rfl (fun x5 => ?_)
        refine gf_if_eq (t := 44) (q := 41) dX5_kinds_38 (by decide) rfl ?_ ?_
        · refine gf_iconst (q := 45) dX5_kinds_44 ki_0 rfl ?_
          refine gf_istore (lv2 := [some (.ref 35), some (.int v1), some (.int v2), some (.int x4.1), some (.int 0), none]) (q := 47) dX5_kinds_45 (by decide) rfl rfl ?_
          refine gf_iconst (q := 48) dX5_kinds_47 ki_0 rfl ?_
          refine gf_istore (lv2 := [some (.ref 35), some (.int v1), some (.int v2), some (.int x4.1), some (.int 0), some (.int 0)]) (q := 50) dX5_kinds_48 (by decide) rfl rfl ?_
          exact gf_mask (b := [true, true, true, false, true, true]) rfl (T_X5_kinds_50 FU v1 v2 0 0 x5.2)
        · refine gf_bipush (q := 43) dX5_kinds_41 kb_m4 rfl ?_
          exact gf_reti dX5_kinds_43 rfl
      · refine gf_aload_n (i := 0) (q := 28) dX5_kinds_27 rfl rfl rfl ?_
        refine gf_iload_n (i := 3) (q := 29) dX5_kinds_28 rfl rfl rfl ?_
        refine gf_callV_i (n2 := 1) (As := [.int x4.1]) (st := []) (b := 35) (ci := 5) (C := RX5) (q := 32) (hlen := rfl) rfl rfl kw716 kw718 kp12 dX5_kinds_29 kw719 kw7 (by decide +kernel) (by decide) (Nat.le_of_ble_eq_true rfl) (C_X5_found x4.1 x4.2) rfl rfl (fun x6 => ?_)
        exact gf_reti dX5_kinds_32 rfl
theorem C_X5_kinds (v1 : Int32) (v2 : Int32) (u : XM) : CF YY 5 yX5_kinds cX5_kinds 6 (some .int) [.ref 35, .int v1, .int v2] u emI (F_X5_kinds v1 v2 u) := cf_of (by decide +kernel) (Nat.le_of_ble_eq_true rfl) rfl (T_X5_kinds v1 v2 u)
def F_X5_night_225 (k107 : Int32 → Int32 → Int32 → XM → Option (Int32 × XM)) (v1 : Int32) (v5 : Int32) (v6 : Int32) (v9 : Int32) (u : XM) : Option (Int32 × XM) := (if ain YY 0 55 v6 = true then k107 v1 v5 (v6 + 1) (wi u 55 (Int32.toNatClampNeg v6) v9) else none)
set_option maxRecDepth 20000 in
set_option maxHeartbeats 4000000 in
theorem T_X5_night_225 (k107 : Int32 → Int32 → Int32 → XM → Option (Int32 × XM)) (hk107 : ∀ (v1 : Int32) (v5 : Int32) (v6 : Int32) (u : XM), GF E0 YY 3 yX5_night cX5_night 10 (some .int) 107 [some (.ref 35), some (.int v1), none, none, none, some (.int v5), some (.int v6), none, none, none] [] u emI (k107 v1 v5 v6 u)) (v1 : Int32) (v5 : Int32) (v6 : Int32) (v9 : Int32) (u : XM) : GF E0 YY 3 yX5_night cX5_night 10 (some .int) 225 [some (.ref 35), some (.int v1), none, none, none, some (.int v5), some (.int v6), none, none, some (.int v9)] [] u emI (F_X5_night_225 k107 v1 v5 v6 v9 u) := by
  unfold F_X5_night_225
  refine gf_aload_n (i := 0) (q := 226) dX5_night_225 rfl rfl rfl ?_
  refine gf_getA (C := RX5) (T := TX5) (N := 33) (ci := 5) (k := 35) (j := 32) (t := 55) (q := 229) dX5_night_226 rfl rfl kin5 (by decide) kw636 rfl rfl ?_
  refine gf_iload (q := 231) dX5_night_229 rfl rfl ?_
  refine gf_iload (q := 233) dX5_night_231 rfl rfl ?_
  refine gf_iast (q := 234) dX5_night_233 rfl ?_
  refine gf_iinc (v := (v6 + 1)) (lv2 := [some (.ref 35), some (.int v1), none, none, none, some (.int v5), some (.int (v6 + 1)), none, none, some (.int v9)]) (q := 237) dX5_night_234 rfl (congrArg _ ki_1) (by decide) rfl rfl ?_
  refine gf_goto (q := 107) dX5_night_237 (by decide) ?_
  exact gf_mask (b := [true, true, false, false, false, true, true, false, false, false]) rfl (hk107 v1 v5 (v6 + 1) (wi u 55 (Int32.toNatClampNeg v6) v9))
def F_X5_night_223 (k107 : Int32 → Int32 → Int32 → XM → Option (Int32 × XM)) (v1 : Int32) (v5 : Int32) (v6 : Int32) (s0 : Int32) (u : XM) : Option (Int32 × XM) := F_X5_night_225 (k107) v1 v5 v6 s0 u
set_option maxRecDepth 20000 in
set_option maxHeartbeats 4000000 in
theorem T_X5_night_223 (k107 : Int32 → Int32 → Int32 → XM → Option (Int32 × XM)) (hk107 : ∀ (v1 : Int32) (v5 : Int32) (v6 : Int32) (u : XM), GF E0 YY 3 yX5_night cX5_night 10 (some .int) 107 [some (.ref 35), some (.int v1), none, none, none, some (.int v5), some (.int v6), none, none, none] [] u emI (k107 v1 v5 v6 u)) (v1 : Int32) (v5 : Int32) (v6 : Int32) (s0 : Int32) (u : XM) : GF E0 YY 3 yX5_night cX5_night 10 (some .int) 223 [some (.ref 35), some (.int v1), none, none, none, some (.int v5), some (.int v6), none, none, none] [.int s0] u emI (F_X5_night_223 k107 v1 v5 v6 s0 u) := by
  unfold F_X5_night_223
  refine gf_istore (lv2 := [some (.ref 35), some (.int v1), none, none, none, some (.int v5), some (.int v6), none, none, some (.int s0)]) (q := 225) dX5_night_223 (by decide) rfl rfl ?_
  exact (T_X5_night_225 (k107) hk107 v1 v5 v6 s0 u)
def F_X5_night_207 (k107 : Int32 → Int32 → Int32 → XM → Option (Int32 × XM)) (v1 : Int32) (v5 : Int32) (v6 : Int32) (v8 : Int32) (s0 : Int32) (u : XM) : Option (Int32 × XM) := (if s0 ≤ v8 then F_X5_night_223 (k107) v1 v5 v6 s0 u else F_X5_night_223 (k107) v1 v5 v6 v8 u)
set_option maxRecDepth 20000 in
set_option maxHeartbeats 4000000 in
theorem T_X5_night_207 (k107 : Int32 → Int32 → Int32 → XM → Option (Int32 × XM)) (hk107 : ∀ (v1 : Int32) (v5 : Int32) (v6 : Int32) (u : XM), GF E0 YY 3 yX5_night cX5_night 10 (some .int) 107 [some (.ref 35), some (.int v1), none, none, none, some (.int v5), some (.int v6), none, none, none] [] u emI (k107 v1 v5 v6 u)) (v1 : Int32) (v5 : Int32) (v6 : Int32) (v8 : Int32) (s0 : Int32) (u : XM) : GF E0 YY 3 yX5_night cX5_night 10 (some .int) 207 [some (.ref 35), some (.int v1), none, none, none, some (.int v5), some (.int v6), none, some (.int v8), none] [.int s0] u emI (F_X5_night_207 k107 v1 v5 v6 v8 s0 u) := by
  unfold F_X5_night_207
  refine gf_istore (lv2 := [some (.ref 35), some (.int v1), none, none, none, some (.int v5), some (.int v6), none, some (.int v8), some (.int s0)]) (q := 209) dX5_night_207 (by decide) rfl rfl ?_
  refine gf_iload (q := 211) dX5_night_209 rfl rfl ?_
  refine gf_iload (q := 213) dX5_night_211 rfl rfl ?_
  refine gf_icmp_ge (t := 221) (q := 216) dX5_night_213 (by decide) rfl ?_ ?_
  · refine gf_iload (q := 223) dX5_night_221 rfl rfl ?_
    exact gf_mask (b := [true, true, false, false, false, true, true, false, false, false]) rfl (T_X5_night_223 (k107) hk107 v1 v5 v6 s0 u)
  · refine gf_iload (q := 218) dX5_night_216 rfl rfl ?_
    refine gf_goto (q := 223) dX5_night_218 (by decide) ?_
    exact gf_mask (b := [true, true, false, false, false, true, true, false, false, false]) rfl (T_X5_night_223 (k107) hk107 v1 v5 v6 v8 u)
def F_X5_night_188 (k107 : Int32 → Int32 → Int32 → XM → Option (Int32 × XM)) (v1 : Int32) (v5 : Int32) (v6 : Int32) (s0 : Int32) (u : XM) : Option (Int32 × XM) := F_X5_night_225 (k107) v1 v5 v6 s0 u
set_option maxRecDepth 20000 in
set_option maxHeartbeats 4000000 in
theorem T_X5_night_188 (k107 : Int32 → Int32 → Int32 → XM → Option (Int32 × XM)) (hk107 : ∀ (v1 : Int32) (v5 : Int32) (v6 : Int32) (u : XM), GF E0 YY 3 yX5_night cX5_night 10 (some .int) 107 [some (.ref 35), some (.int v1), none, none, none, some (.int v5), some (.int v6), none, none, none] [] u emI (k107 v1 v5 v6 u)) (v1 : Int32) (v5 : Int32) (v6 : Int32) (s0 : Int32) (u : XM) : GF E0 YY 3 yX5_night cX5_night 10 (some .int) 188 [some (.ref 35), some (.int v1), none, none, none, some (.int v5), some (.int v6), none, none, none] [.int s0] u emI (F_X5_night_188 k107 v1 v5 v6 s0 u) := by
  unfold F_X5_night_188
  refine gf_istore (lv2 := [some (.ref 35), some (.int v1), none, none, none, some (.int v5), some (.int v6), none, none, some (.int s0)]) (q := 190) dX5_night_188 (by decide) rfl rfl ?_
  refine gf_goto (q := 225) dX5_night_190 (by decide) ?_
  exact (T_X5_night_225 (k107) hk107 v1 v5 v6 s0 u)
def F_X5_night_172 (k107 : Int32 → Int32 → Int32 → XM → Option (Int32 × XM)) (v1 : Int32) (v5 : Int32) (v6 : Int32) (v8 : Int32) (s0 : Int32) (u : XM) : Option (Int32 × XM) := (if v8 ≤ s0 then F_X5_night_188 (k107) v1 v5 v6 s0 u else F_X5_night_188 (k107) v1 v5 v6 v8 u)
set_option maxRecDepth 20000 in
set_option maxHeartbeats 4000000 in
theorem T_X5_night_172 (k107 : Int32 → Int32 → Int32 → XM → Option (Int32 × XM)) (hk107 : ∀ (v1 : Int32) (v5 : Int32) (v6 : Int32) (u : XM), GF E0 YY 3 yX5_night cX5_night 10 (some .int) 107 [some (.ref 35), some (.int v1), none, none, none, some (.int v5), some (.int v6), none, none, none] [] u emI (k107 v1 v5 v6 u)) (v1 : Int32) (v5 : Int32) (v6 : Int32) (v8 : Int32) (s0 : Int32) (u : XM) : GF E0 YY 3 yX5_night cX5_night 10 (some .int) 172 [some (.ref 35), some (.int v1), none, none, none, some (.int v5), some (.int v6), none, some (.int v8), none] [.int s0] u emI (F_X5_night_172 k107 v1 v5 v6 v8 s0 u) := by
  unfold F_X5_night_172
  refine gf_istore (lv2 := [some (.ref 35), some (.int v1), none, none, none, some (.int v5), some (.int v6), none, some (.int v8), some (.int s0)]) (q := 174) dX5_night_172 (by decide) rfl rfl ?_
  refine gf_iload (q := 176) dX5_night_174 rfl rfl ?_
  refine gf_iload (q := 178) dX5_night_176 rfl rfl ?_
  refine gf_icmp_le (t := 186) (q := 181) dX5_night_178 (by decide) rfl ?_ ?_
  · refine gf_iload (q := 188) dX5_night_186 rfl rfl ?_
    exact gf_mask (b := [true, true, false, false, false, true, true, false, false, false]) rfl (T_X5_night_188 (k107) hk107 v1 v5 v6 s0 u)
  · refine gf_iload (q := 183) dX5_night_181 rfl rfl ?_
    refine gf_goto (q := 188) dX5_night_183 (by decide) ?_
    exact gf_mask (b := [true, true, false, false, false, true, true, false, false, false]) rfl (T_X5_night_188 (k107) hk107 v1 v5 v6 v8 u)
def F_X5_night_107 (k99 : Int32 → Int32 → XM → Option (Int32 × XM)) : Nat → Int32 → Int32 → Int32 → XM → Option (Int32 × XM)
  | 0, _, _, _, _ => none
  | n + 1, v1, v5, v6, u => (if 8 ≤ v6 then (Option.bind (F_X5_copies 55 0 54 0 8 u) (fun x1 => k99 v1 (v5 + (-1)) x1.2)) else (Option.bind (F_X5_bound (v6 + 1) u) (fun x2 => (if ain YY 0 54 x2.1 = true then (Option.bind (F_X5_bound (v6 - 1) x2.2) (fun x3 => (if ain YY 0 54 x3.1 = true then (if ain YY 0 54 v6 = true then (if (v5 - v5 / 2 * 2) = 0 then (if (mi x2.2 54 (Int32.toNatClampNeg x2.1)) ≤ (mi x3.2 54 (Int32.toNatClampNeg v6)) then F_X5_night_172 (F_X5_night_107 k99 n) v1 v5 v6 (mi x3.2 54 (Int32.toNatClampNeg x3.1)) (mi x3.2 54 (Int32.toNatClampNeg v6)) x3.2 else F_X5_night_172 (F_X5_night_107 k99 n) v1 v5 v6 (mi x3.2 54 (Int32.toNatClampNeg x3.1)) (mi x2.2 54 (Int32.toNatClampNeg x2.1)) x3.2) else (if (mi x3.2 54 (Int32.toNatClampNeg v6)) ≤ (mi x2.2 54 (Int32.toNatClampNeg x2.1)) then F_X5_night_207 (F_X5_night_107 k99 n) v1 v5 v6 (mi x3.2 54 (Int32.toNatClampNeg x3.1)) (mi x3.2 54 (Int32.toNatClampNeg v6)) x3.2 else F_X5_night_207 (F_X5_night_107 k99 n) v1 v5 v6 (mi x3.2 54 (Int32.toNatClampNeg x3.1)) (mi x2.2 54 (Int32.toNatClampNeg x2.1)) x3.2)) else none) else none))) else none))))
set_option maxRecDepth 20000 in
set_option maxHeartbeats 4000000 in
theorem T_X5_night_107 (k99 : Int32 → Int32 → XM → Option (Int32 × XM)) (hk99 : ∀ (v1 : Int32) (v5 : Int32) (u : XM), GF E0 YY 3 yX5_night cX5_night 10 (some .int) 99 [some (.ref 35), some (.int v1), none, none, none, some (.int v5), none, none, none, none] [] u emI (k99 v1 v5 u)) : ∀ (n : Nat) (v1 : Int32) (v5 : Int32) (v6 : Int32) (u : XM), GF E0 YY 3 yX5_night cX5_night 10 (some .int) 107 [some (.ref 35), some (.int v1), none, none, none, some (.int v5), some (.int v6), none, none, none] [] u emI (F_X5_night_107 k99 n v1 v5 v6 u) := by
  intro n
  induction n with
  | zero => intro v1 v5 v6 u; exact gf_none
  | succ n ih =>
    intro v1 v5 v6 u
    unfold F_X5_night_107
    refine gf_iload (q := 109) dX5_night_107 rfl rfl ?_
    refine gf_bipush (q := 111) dX5_night_109 kb_8 rfl ?_
    refine gf_icmp_ge (t := 240) (q := 114) dX5_night_111 (by decide) rfl ?_ ?_
    · refine gf_aload_n (i := 0) (q := 241) dX5_night_240 rfl rfl rfl ?_
      refine gf_getA (C := RX5) (T := TX5) (N := 33) (ci := 5) (k := 35) (j := 32) (t := 55) (q := 244) dX5_night_241 rfl rfl kin5 (by decide) kw636 rfl rfl ?_
      refine gf_iconst (q := 245) dX5_night_244 ki_0 rfl ?_
      refine gf_aload_n (i := 0) (q := 246) dX5_night_245 rfl rfl rfl ?_
      refine gf_getA (C := RX5) (T := TX5) (N := 33) (ci := 5) (k := 35) (j := 31) (t := 54) (q := 249) dX5_night_246 rfl rfl kin5 (by decide) kw635 rfl rfl ?_
      refine gf_iconst (q := 250) dX5_night_249 ki_0 rfl ?_
      refine gf_bipush (q := 252) dX5_night_250 kb_8 rfl ?_
      refine gf_callS_v (n2 := 5) (As := [.ref 55, .int 0, .ref 54, .int 0, .int 8]) (st := []) (q := 255) (hlen := rfl) kw854 kw855 dX5_night_252 kw856 kw7 (by decide +kernel) (by decide) (Nat.le_of_ble_eq_true rfl) (C_X5_copies 55 0 54 0 8 u) rfl rfl (fun x1 => ?_)
      refine gf_iinc (v := (v5 + (-1))) (lv2 := [some (.ref 35), some (.int v1), none, none, none, some (.int (v5 + (-1))), some (.int v6), none, none, none]) (q := 258) dX5_night_255 rfl (congrArg _ ki_m1) (by decide) rfl rfl ?_
      refine gf_goto (q := 99) dX5_night_258 (by decide) ?_
      exact gf_mask (b := [true, true, false, false, false, true, false, false, false, false]) rfl (hk99 v1 (v5 + (-1)) x1.2)
    · refine gf_aload_n (i := 0) (q := 115) dX5_night_114 rfl rfl rfl ?_
      refine gf_getA (C := RX5) (T := TX5) (N := 33) (ci := 5) (k := 35) (j := 31) (t := 54) (q := 118) dX5_night_115 rfl rfl kin5 (by decide) kw635 rfl rfl ?_
      refine gf_iload (q := 120) dX5_night_118 rfl rfl ?_
      refine gf_iconst (q := 121) dX5_night_120 ki_1 rfl ?_
      refine gf_iadd (q := 122) dX5_night_121 rfl ?_
      refine gf_callS_i (n2 := 1) (As := [.int (v6 + 1)]) (st := [.ref 54]) (q := 125) (hlen := rfl) kw869 kw870 dX5_night_122 kw871 kw7 (by decide +kernel) (by decide) (Nat.le_of_ble_eq_true rfl) (C_X5_bound (v6 + 1) u) rfl rfl (fun x2 => ?_)
      refine gf_iald (q := 126) dX5_night_125 rfl ?_
      refine gf_istore (lv2 := [some (.ref 35), some (.int v1), none, none, none, some (.int v5), some (.int v6), some (.int (mi x2.2 54 (Int32.toNatClampNeg x2.1))), none, none]) (q := 128) dX5_night_126 (by decide) rfl rfl ?_
      refine gf_aload_n (i := 0) (q := 129) dX5_night_128 rfl rfl rfl ?_
      refine gf_getA (C := RX5) (T := TX5) (N := 33) (ci := 5) (k := 35) (j := 31) (t := 54) (q := 132) dX5_night_129 rfl rfl kin5 (by decide) kw635 rfl rfl ?_
      refine gf_iload (q := 134) dX5_night_132 rfl rfl ?_
      refine gf_iconst (q := 135) dX5_night_134 ki_1 rfl ?_
      refine gf_isub (q := 136) dX5_night_135 rfl ?_
      refine gf_callS_i (n2 := 1) (As := [.int (v6 - 1)]) (st := [.ref 54]) (q := 139) (hlen := rfl) kw869 kw870 dX5_night_136 kw871 kw7 (by decide +kernel) (by decide) (Nat.le_of_ble_eq_true rfl) (C_X5_bound (v6 - 1) x2.2) rfl rfl (fun x3 => ?_)
      refine gf_iald (q := 140) dX5_night_139 rfl ?_
      refine gf_istore (lv2 := [some (.ref 35), some (.int v1), none, none, none, some (.int v5), some (.int v6), some (.int (mi x2.2 54 (Int32.toNatClampNeg x2.1))), some (.int (mi x3.2 54 (Int32.toNatClampNeg x3.1))), none]) (q := 142) dX5_night_140 (by decide) rfl rfl ?_
      refine gf_aload_n (i := 0) (q := 143) dX5_night_142 rfl rfl rfl ?_
      refine gf_getA (C := RX5) (T := TX5) (N := 33) (ci := 5) (k := 35) (j := 31) (t := 54) (q := 146) dX5_night_143 rfl rfl kin5 (by decide) kw635 rfl rfl ?_
      refine gf_iload (q := 148) dX5_night_146 rfl rfl ?_
      refine gf_iald (q := 149) dX5_night_148 rfl ?_
      refine gf_istore (lv2 := [some (.ref 35), some (.int v1), none, none, none, some (.int v5), some (.int v6), some (.int (mi x2.2 54 (Int32.toNatClampNeg x2.1))), some (.int (mi x3.2 54 (Int32.toNatClampNeg x3.1))), some (.int (mi x3.2 54 (Int32.toNatClampNeg v6)))]) (q := 151) dX5_night_149 (by decide) rfl rfl ?_
      refine gf_iload (q := 153) dX5_night_151 rfl rfl ?_
      refine gf_iconst (q := 154) dX5_night_153 ki_2 rfl ?_
      refine gf_irem_c (q := 155) dX5_night_154 (by decide) rfl ?_
      refine gf_if_ne (t := 193) (q := 158) dX5_night_155 (by decide) rfl ?_ ?_
      · refine gf_iload (q := 160) dX5_night_158 rfl rfl ?_
        refine gf_iload (q := 162) dX5_night_160 rfl rfl ?_
        refine gf_icmp_le (t := 170) (q := 165) dX5_night_162 (by decide) rfl ?_ ?_
        · refine gf_iload (q := 172) dX5_night_170 rfl rfl ?_
          exact gf_mask (b := [true, true, false, false, false, true, true, false, true, false]) rfl (T_X5_night_172 (F_X5_night_107 k99 n) ih v1 v5 v6 (mi x3.2 54 (Int32.toNatClampNeg x3.1)) (mi x3.2 54 (Int32.toNatClampNeg v6)) x3.2)
        · refine gf_iload (q := 167) dX5_night_165 rfl rfl ?_
          refine gf_goto (q := 172) dX5_night_167 (by decide) ?_
          exact gf_mask (b := [true, true, false, false, false, true, true, false, true, false]) rfl (T_X5_night_172 (F_X5_night_107 k99 n) ih v1 v5 v6 (mi x3.2 54 (Int32.toNatClampNeg x3.1)) (mi x2.2 54 (Int32.toNatClampNeg x2.1)) x3.2)
      · refine gf_iload (q := 195) dX5_night_193 rfl rfl ?_
        refine gf_iload (q := 197) dX5_night_195 rfl rfl ?_
        refine gf_icmp_ge (t := 205) (q := 200) dX5_night_197 (by decide) rfl ?_ ?_
        · refine gf_iload (q := 207) dX5_night_205 rfl rfl ?_
          exact gf_mask (b := [true, true, false, false, false, true, true, false, true, false]) rfl (T_X5_night_207 (F_X5_night_107 k99 n) ih v1 v5 v6 (mi x3.2 54 (Int32.toNatClampNeg x3.1)) (mi x3.2 54 (Int32.toNatClampNeg v6)) x3.2)
        · refine gf_iload (q := 202) dX5_night_200 rfl rfl ?_
          refine gf_goto (q := 207) dX5_night_202 (by decide) ?_
          exact gf_mask (b := [true, true, false, false, false, true, true, false, true, false]) rfl (T_X5_night_207 (F_X5_night_107 k99 n) ih v1 v5 v6 (mi x3.2 54 (Int32.toNatClampNeg x3.1)) (mi x2.2 54 (Int32.toNatClampNeg x2.1)) x3.2)
def F_X5_night_99 : Nat → Int32 → Int32 → XM → Option (Int32 × XM)
  | 0, _, _, _ => none
  | n + 1, v1, v5, u => (if v5 < 0 then (if ain YY 0 43 (0 + v1) = true then (if ain YY 0 54 (mi u 43 (Int32.toNatClampNeg (0 + v1))) = true then (Option.bind (F_X5_tell (mi u 54 (Int32.toNatClampNeg (mi u 43 (Int32.toNatClampNeg (0 + v1))))) u) (fun x4 => some (x4.1, x4.2))) else none) else none) else F_X5_night_107 (F_X5_night_99 n) FU v1 v5 0 u)
set_option maxRecDepth 20000 in
set_option maxHeartbeats 4000000 in
theorem T_X5_night_99 : ∀ (n : Nat) (v1 : Int32) (v5 : Int32) (u : XM), GF E0 YY 3 yX5_night cX5_night 10 (some .int) 99 [some (.ref 35), some (.int v1), none, none, none, some (.int v5), none, none, none, none] [] u emI (F_X5_night_99 n v1 v5 u) := by
  intro n
  induction n with
  | zero => intro v1 v5 u; exact gf_none
  | succ n ih =>
    intro v1 v5 u
    unfold F_X5_night_99
    refine gf_iload (q := 101) dX5_night_99 rfl rfl ?_
    refine gf_if_lt (t := 261) (q := 104) dX5_night_101 (by decide) rfl ?_ ?_
    · refine gf_aload_n (i := 0) (q := 262) dX5_night_261 rfl rfl rfl ?_
      refine gf_aload_n (i := 0) (q := 263) dX5_night_262 rfl rfl rfl ?_
      refine gf_getA (C := RX5) (T := TX5) (N := 33) (ci := 5) (k := 35) (j := 31) (t := 54) (q := 266) dX5_night_263 rfl rfl kin5 (by decide) kw635 rfl rfl ?_
      refine gf_aload_n (i := 0) (q := 267) dX5_night_266 rfl rfl rfl ?_
      refine gf_getA (C := RX5) (T := TX5) (N := 33) (ci := 5) (k := 35) (j := 9) (t := 43) (q := 270) dX5_night_267 rfl rfl kin5 (by decide) kw613 rfl rfl ?_
      refine gf_iconst (q := 271) dX5_night_270 ki_0 rfl ?_
      refine gf_iload_n (i := 1) (q := 272) dX5_night_271 rfl rfl rfl ?_
      refine gf_iadd (q := 273) dX5_night_272 rfl ?_
      refine gf_iald (q := 274) dX5_night_273 rfl ?_
      refine gf_iald (q := 275) dX5_night_274 rfl ?_
      refine gf_callV_i (n2 := 1) (As := [.int (mi u 54 (Int32.toNatClampNeg (mi u 43 (Int32.toNatClampNeg (0 + v1)))))]) (st := []) (b := 35) (ci := 5) (C := RX5) (q := 278) (hlen := rfl) rfl rfl kw724 kw726 kp13 dX5_night_275 kw727 kw7 (by decide +kernel) (by decide) (Nat.le_of_ble_eq_true rfl) (C_X5_tell (mi u 54 (Int32.toNatClampNeg (mi u 43 (Int32.toNatClampNeg (0 + v1))))) u) rfl rfl (fun x4 => ?_)
      exact gf_reti dX5_night_278 rfl
    · refine gf_iconst (q := 105) dX5_night_104 ki_0 rfl ?_
      refine gf_istore (lv2 := [some (.ref 35), some (.int v1), none, none, none, some (.int v5), some (.int 0), none, none, none]) (q := 107) dX5_night_105 (by decide) rfl rfl ?_
      exact (T_X5_night_107 (F_X5_night_99 n) ih FU v1 v5 0 u)
def F_X5_night_56 : Nat → Int32 → Int32 → Int32 → Int32 → Int32 → XM → Option (Int32 × XM)
  | 0, _, _, _, _, _, _ => none
  | n + 1, v1, v2, v3, v4, v5, u => (if 8 ≤ v5 then F_X5_night_99 FU v1 ((2 * v4) - 1) u else (Option.bind (F_X5_abs (v5 - v2) u) (fun x5 => (Option.bind (F_X5_abs (v5 - v3) x5.2) (fun x6 => (if ain YY 0 54 v5 = true then F_X5_night_56 n v1 v2 v3 v4 (v5 + 1) (wi x6.2 54 (Int32.toNatClampNeg v5) (x5.1 - x6.1)) else none))))))
set_option maxRecDepth 20000 in
set_option maxHeartbeats 4000000 in
theorem T_X5_night_56 : ∀ (n : Nat) (v1 : Int32) (v2 : Int32) (v3 : Int32) (v4 : Int32) (v5 : Int32) (u : XM), GF E0 YY 3 yX5_night cX5_night 10 (some .int) 56 [some (.ref 35), some (.int v1), some (.int v2), some (.int v3), some (.int v4), some (.int v5), none, none, none, none] [] u emI (F_X5_night_56 n v1 v2 v3 v4 v5 u) := by
  intro n
  induction n with
  | zero => intro v1 v2 v3 v4 v5 u; exact gf_none
  | succ n ih =>
    intro v1 v2 v3 v4 v5 u
    unfold F_X5_night_56
    refine gf_iload (q := 58) dX5_night_56 rfl rfl ?_
    refine gf_bipush (q := 60) dX5_night_58 kb_8 rfl ?_
    refine gf_icmp_ge (t := 91) (q := 63) dX5_night_60 (by decide) rfl ?_ ?_
    · refine gf_iconst (q := 92) dX5_night_91 ki_2 rfl ?_
      refine gf_iload (q := 94) dX5_night_92 rfl rfl ?_
      refine gf_imul (q := 95) dX5_night_94 rfl ?_
      refine gf_iconst (q := 96) dX5_night_95 ki_1 rfl ?_
      refine gf_isub (q := 97) dX5_night_96 rfl ?_
      refine gf_istore (lv2 := [some (.ref 35), some (.int v1), some (.int v2), some (.int v3), some (.int v4), some (.int ((2 * v4) - 1)), none, none, none, none]) (q := 99) dX5_night_97 (by decide) rfl rfl ?_
      exact gf_mask (b := [true, true, false, false, false, true, false, false, false, false]) rfl (T_X5_night_99 FU v1 ((2 * v4) - 1) u)
    · refine gf_aload_n (i := 0) (q := 64) dX5_night_63 rfl rfl rfl ?_
      refine gf_getA (C := RX5) (T := TX5) (N := 33) (ci := 5) (k := 35) (j := 31) (t := 54) (q := 67) dX5_night_64 rfl rfl kin5 (by decide) kw635 rfl rfl ?_
      refine gf_iload (q := 69) dX5_night_67 rfl rfl ?_
      refine gf_iload (q := 71) dX5_night_69 rfl rfl ?_
      refine gf_iload_n (i := 2) (q := 72) dX5_night_71 rfl rfl rfl ?_
      refine gf_isub (q := 73) dX5_night_72 rfl ?_
      refine gf_callS_i (n2 := 1) (As := [.int (v5 - v2)]) (st := [.int v5, .ref 54]) (q := 76) (hlen := rfl) kw903 kw904 dX5_night_73 kw905 kw7 (by decide +kernel) (by decide) (Nat.le_of_ble_eq_true rfl) (C_X5_abs (v5 - v2) u) rfl rfl (fun x5 => ?_)
      refine gf_iload (q := 78) dX5_night_76 rfl rfl ?_
      refine gf_iload_n (i := 3) (q := 79) dX5_night_78 rfl rfl rfl ?_
      refine gf_isub (q := 80) dX5_night_79 rfl ?_
      refine gf_callS_i (n2 := 1) (As := [.int (v5 - v3)]) (st := [.int x5.1, .int v5, .ref 54]) (q := 83) (hlen := rfl) kw903 kw904 dX5_night_80 kw905 kw7 (by decide +kernel) (by decide) (Nat.le_of_ble_eq_true rfl) (C_X5_abs (v5 - v3) x5.2) rfl rfl (fun x6 => ?_)
      refine gf_isub (q := 84) dX5_night_83 rfl ?_
      refine gf_iast (q := 85) dX5_night_84 rfl ?_
      refine gf_iinc (v := (v5 + 1)) (lv2 := [some (.ref 35), some (.int v1), some (.int v2), some (.int v3), some (.int v4), some (.int (v5 + 1)), none, none, none, none]) (q := 88) dX5_night_85 rfl (congrArg _ ki_1) (by decide) rfl rfl ?_
      refine gf_goto (q := 56) dX5_night_88 (by decide) ?_
      exact (ih v1 v2 v3 v4 (v5 + 1) (wi x6.2 54 (Int32.toNatClampNeg v5) (x5.1 - x6.1)))
def F_X5_night (v1 : Int32) (v2 : Int32) (v3 : Int32) (v4 : Int32) (u : XM) : Option (Int32 × XM) := (Option.bind (F_X5_isThing v1 u) (fun x7 => (if x7.1 = 0 then some ((-1), x7.2) else (Option.bind (F_X5_isCell v2 x7.2) (fun x8 => (if x8.1 = 0 then some ((-1), x8.2) else (Option.bind (F_X5_isCell v3 x8.2) (fun x9 => (if x9.1 = 0 then some ((-1), x9.2) else (if v2 = v3 then some ((-1), x9.2) else (Option.bind (F_X5_in (Int32.toInt64 v4) 0 3 x9.2) (fun x10 => (if x10.1 = 0 then some ((-1), x10.2) else (Option.bind (F_X5_isTaken v1 x10.2) (fun x11 => (if x11.1 = 0 then F_X5_night_56 FU v1 v2 v3 v4 0 x11.2 else some ((-4), x11.2)))))))))))))))))
set_option maxRecDepth 20000 in
set_option maxHeartbeats 4000000 in
theorem T_X5_night (v1 : Int32) (v2 : Int32) (v3 : Int32) (v4 : Int32) (u : XM) : GF E0 YY 3 yX5_night cX5_night 10 (some .int) 0 [some (.ref 35), some (.int v1), some (.int v2), some (.int v3), some (.int v4), none, none, none, none, none] [] u emI (F_X5_night v1 v2 v3 v4 u) := by
  unfold F_X5_night
  refine gf_aload_n (i := 0) (q := 1) dX5_night_0 rfl rfl rfl ?_
  refine gf_iload_n (i := 1) (q := 2) dX5_night_1 rfl rfl rfl ?_
  refine gf_callV_i (n2 := 1) (As := [.int v1]) (st := []) (b := 35) (ci := 5) (C := RX5) (q := 5) (hlen := rfl) rfl rfl kw795 kw797 kp20 dX5_night_2 kw798 kw7 (by decide +kernel) (by decide) (Nat.le_of_ble_eq_true rfl) (C_X5_isThing v1 u) rfl rfl (fun x7 => ?_)
  refine gf_if_eq (t := 40) (q := 8) dX5_night_5 (by decide) rfl ?_ ?_
  · refine gf_iconst (q := 41) dX5_night_40 ki_m1 rfl ?_
    exact gf_reti dX5_night_41 rfl
  · refine gf_iload_n (i := 2) (q := 9) dX5_night_8 rfl rfl rfl ?_
    refine gf_callS_i (n2 := 1) (As := [.int v2]) (st := []) (q := 12) (hlen := rfl) kw834 kw835 dX5_night_9 kw836 kw7 (by decide +kernel) (by decide) (Nat.le_of_ble_eq_true rfl) (C_X5_isCell v2 x7.2) rfl rfl (fun x8 => ?_)
    refine gf_if_eq (t := 40) (q := 15) dX5_night_12 (by decide) rfl ?_ ?_
    · refine gf_iconst (q := 41) dX5_night_40 ki_m1 rfl ?_
      exact gf_reti dX5_night_41 rfl
    · refine gf_iload_n (i := 3) (q := 16) dX5_night_15 rfl rfl rfl ?_
      refine gf_callS_i (n2 := 1) (As := [.int v3]) (st := []) (q := 19) (hlen := rfl) kw834 kw835 dX5_night_16 kw836 kw7 (by decide +kernel) (by decide) (Nat.le_of_ble_eq_true rfl) (C_X5_isCell v3 x8.2) rfl rfl (fun x9 => ?_)
      refine gf_if_eq (t := 40) (q := 22) dX5_night_19 (by decide) rfl ?_ ?_
      · refine gf_iconst (q := 41) dX5_night_40 ki_m1 rfl ?_
        exact gf_reti dX5_night_41 rfl
      · refine gf_iload_n (i := 2) (q := 23) dX5_night_22 rfl rfl rfl ?_
        refine gf_iload_n (i := 3) (q := 24) dX5_night_23 rfl rfl rfl ?_
        refine gf_icmp_eq (t := 40) (q := 27) dX5_night_24 (by decide) rfl ?_ ?_
        · refine gf_iconst (q := 41) dX5_night_40 ki_m1 rfl ?_
          exact gf_reti dX5_night_41 rfl
        · refine gf_iload (q := 29) dX5_night_27 rfl rfl ?_
          refine gf_i2l (q := 30) dX5_night_29 rfl ?_
          refine gf_lconst (v := 0) (q := 31) dX5_night_30 rfl rfl ?_
          refine gf_ldc2 (q := 34) dX5_night_31 kw751 rfl ?_
          refine gf_callS_i (n2 := 3) (As := [.long (Int32.toInt64 v4), .long 0, .long 3]) (st := []) (q := 37) (hlen := rfl) kw713 kw714 dX5_night_34 kw715 kw7 (by decide +kernel) (by decide) (Nat.le_of_ble_eq_true rfl) (C_X5_in (Int32.toInt64 v4) 0 3 x9.2) rfl rfl (fun x10 => ?_)
          refine gf_if_ne (t := 42) (q := 40) dX5_night_37 (by decide) rfl ?_ ?_
          · refine gf_iconst (q := 41) dX5_night_40 ki_m1 rfl ?_
            exact gf_reti dX5_night_41 rfl
          · refine gf_aload_n (i := 0) (q := 43) dX5_night_42 rfl rfl rfl ?_
            refine gf_iload_n (i := 1) (q := 44) dX5_night_43 rfl rfl rfl ?_
            refine gf_callV_i (n2 := 1) (As := [.int v1]) (st := []) (b := 35) (ci := 5) (C := RX5) (q := 47) (hlen := rfl) rfl rfl kw815 kw817 kp23 dX5_night_44 kw818 kw7 (by decide +kernel) (by decide) (Nat.le_of_ble_eq_true rfl) (C_X5_isTaken v1 x10.2) rfl rfl (fun x11 => ?_)
            refine gf_if_eq (t := 53) (q := 50) dX5_night_47 (by decide) rfl ?_ ?_
            · refine gf_iconst (q := 54) dX5_night_53 ki_0 rfl ?_
              refine gf_istore (lv2 := [some (.ref 35), some (.int v1), some (.int v2), some (.int v3), some (.int v4), some (.int 0), none, none, none, none]) (q := 56) dX5_night_54 (by decide) rfl rfl ?_
              exact (T_X5_night_56 FU v1 v2 v3 v4 0 x11.2)
            · refine gf_bipush (q := 52) dX5_night_50 kb_m4 rfl ?_
              exact gf_reti dX5_night_52 rfl
theorem C_X5_night (v1 : Int32) (v2 : Int32) (v3 : Int32) (v4 : Int32) (u : XM) : CF YY 3 yX5_night cX5_night 10 (some .int) [.ref 35, .int v1, .int v2, .int v3, .int v4] u emI (F_X5_night v1 v2 v3 v4 u) := cf_of (by decide +kernel) (Nat.le_of_ble_eq_true rfl) rfl (T_X5_night v1 v2 v3 v4 u)
def F_X5_fraction_6 : Nat → Int64 → Int64 → Int64 → Int64 → XM → Option (Int32 × XM)
  | 0, _, _, _, _, _ => none
  | n + 1, v1, v3, v5, v7, u => (if (lg_cmp v7 0) = 0 then (if v5 = 0 then none else (if v5 = 0 then none else some (1, (wl (wl u 35 15 (v1 / v5)) 35 16 (v3 / v5))))) else (if v7 = 0 then none else F_X5_fraction_6 n v1 v3 v7 (v5 - v5 / v7 * v7) u))
set_option maxRecDepth 20000 in
set_option maxHeartbeats 4000000 in
theorem T_X5_fraction_6 : ∀ (n : Nat) (v1 : Int64) (v3 : Int64) (v5 : Int64) (v7 : Int64) (u : XM), GF E0 YY 1 yX5_fraction cX5_fraction 11 (some .int) 6 [some (.ref 35), some (.long v1), none, some (.long v3), none, some (.long v5), none, some (.long v7), none, none, none] [] u emI (F_X5_fraction_6 n v1 v3 v5 v7 u) := by
  intro n
  induction n with
  | zero => intro v1 v3 v5 v7 u; exact gf_none
  | succ n ih =>
    intro v1 v3 v5 v7 u
    unfold F_X5_fraction_6
    refine gf_lload (q := 8) dX5_fraction_6 rfl rfl ?_
    refine gf_lconst (v := 0) (q := 9) dX5_fraction_8 rfl rfl ?_
    refine gf_lcmp (q := 10) dX5_fraction_9 rfl ?_
    refine gf_if_eq (t := 31) (q := 13) dX5_fraction_10 (by decide) rfl ?_ ?_
    · refine gf_aload_n (i := 0) (q := 32) dX5_fraction_31 rfl rfl rfl ?_
      refine gf_lload_n (i := 1) (q := 33) dX5_fraction_32 rfl rfl rfl ?_
      refine gf_lload (q := 35) dX5_fraction_33 rfl rfl ?_
      refine gf_ldiv (q := 36) dX5_fraction_35 rfl ?_
      refine gf_putL (C := RX5) (T := TX5) (N := 33) (ci := 5) (k := 35) (j := 15) (q := 39) dX5_fraction_36 rfl rfl kin5 tyX5 tyX5_ok nmX5 (by decide) kw619 rfl rfl rfl rfl ?_
      refine gf_aload_n (i := 0) (q := 40) dX5_fraction_39 rfl rfl rfl ?_
      refine gf_lload_n (i := 3) (q := 41) dX5_fraction_40 rfl rfl rfl ?_
      refine gf_lload (q := 43) dX5_fraction_41 rfl rfl ?_
      refine gf_ldiv (q := 44) dX5_fraction_43 rfl ?_
      refine gf_putL (C := RX5) (T := TX5) (N := 33) (ci := 5) (k := 35) (j := 16) (q := 47) dX5_fraction_44 rfl rfl kin5 tyX5 tyX5_ok nmX5 (by decide) kw620 rfl rfl rfl rfl ?_
      refine gf_iconst (q := 48) dX5_fraction_47 ki_1 rfl ?_
      exact gf_reti dX5_fraction_48 rfl
    · refine gf_lload (q := 15) dX5_fraction_13 rfl rfl ?_
      refine gf_lload (q := 17) dX5_fraction_15 rfl rfl ?_
      refine gf_lrem (q := 18) dX5_fraction_17 rfl ?_
      refine gf_lstore (lv2 := [some (.ref 35), some (.long v1), none, some (.long v3), none, some (.long v5), none, some (.long v7), none, some (.long (v5 - v5 / v7 * v7)), none]) (q := 20) dX5_fraction_18 (by decide) rfl rfl ?_
      refine gf_lload (q := 22) dX5_fraction_20 rfl rfl ?_
      refine gf_lstore (lv2 := [some (.ref 35), some (.long v1), none, some (.long v3), none, some (.long v7), none, some (.long v7), none, some (.long (v5 - v5 / v7 * v7)), none]) (q := 24) dX5_fraction_22 (by decide) rfl rfl ?_
      refine gf_lload (q := 26) dX5_fraction_24 rfl rfl ?_
      refine gf_lstore (lv2 := [some (.ref 35), some (.long v1), none, some (.long v3), none, some (.long v7), none, some (.long (v5 - v5 / v7 * v7)), none, some (.long (v5 - v5 / v7 * v7)), none]) (q := 28) dX5_fraction_26 (by decide) rfl rfl ?_
      refine gf_goto (q := 6) dX5_fraction_28 (by decide) ?_
      exact gf_mask (b := [true, true, false, true, false, true, false, true, false, false, false]) rfl (ih v1 v3 v7 (v5 - v5 / v7 * v7) u)
def F_X5_fraction (v1 : Int64) (v3 : Int64) (u : XM) : Option (Int32 × XM) := F_X5_fraction_6 FU v1 v3 v1 v3 u
set_option maxRecDepth 20000 in
set_option maxHeartbeats 4000000 in
theorem T_X5_fraction (v1 : Int64) (v3 : Int64) (u : XM) : GF E0 YY 1 yX5_fraction cX5_fraction 11 (some .int) 0 [some (.ref 35), some (.long v1), none, some (.long v3), none, none, none, none, none, none, none] [] u emI (F_X5_fraction v1 v3 u) := by
  unfold F_X5_fraction
  refine gf_lload_n (i := 1) (q := 1) dX5_fraction_0 rfl rfl rfl ?_
  refine gf_lstore (lv2 := [some (.ref 35), some (.long v1), none, some (.long v3), none, some (.long v1), none, none, none, none, none]) (q := 3) dX5_fraction_1 (by decide) rfl rfl ?_
  refine gf_lload_n (i := 3) (q := 4) dX5_fraction_3 rfl rfl rfl ?_
  refine gf_lstore (lv2 := [some (.ref 35), some (.long v1), none, some (.long v3), none, some (.long v1), none, some (.long v3), none, none, none]) (q := 6) dX5_fraction_4 (by decide) rfl rfl ?_
  exact (T_X5_fraction_6 FU v1 v3 v1 v3 u)
theorem C_X5_fraction (v1 : Int64) (v3 : Int64) (u : XM) : CF YY 1 yX5_fraction cX5_fraction 11 (some .int) [.ref 35, .long v1, .long v3] u emI (F_X5_fraction v1 v3 u) := cf_of (by decide +kernel) (Nat.le_of_ble_eq_true rfl) rfl (T_X5_fraction v1 v3 u)
def F_X5_weighed_157 : Nat → Int32 → Int64 → Int64 → Int32 → XM → Option (Int32 × XM)
  | 0, _, _, _, _, _ => none
  | n + 1, v3, v5, v7, v9, u => (if v3 ≤ v9 then (Option.bind (F_X5_fraction v5 v7 u) (fun x1 => some (x1.1, x1.2))) else F_X5_weighed_157 n v3 v5 (v7 * 12) (v9 + 1) u)
set_option maxRecDepth 20000 in
set_option maxHeartbeats 4000000 in
theorem T_X5_weighed_157 : ∀ (n : Nat) (v3 : Int32) (v5 : Int64) (v7 : Int64) (v9 : Int32) (u : XM), GF E0 YY 3 yX5_weighed cX5_weighed 14 (some .int) 157 [some (.ref 35), none, none, some (.int v3), none, some (.long v5), none, some (.long v7), none, some (.int v9), none, none, none, none] [] u emI (F_X5_weighed_157 n v3 v5 v7 v9 u) := by
  intro n
  induction n with
  | zero => intro v3 v5 v7 v9 u; exact gf_none
  | succ n ih =>
    intro v3 v5 v7 v9 u
    unfold F_X5_weighed_157
    refine gf_iload (q := 159) dX5_weighed_157 rfl rfl ?_
    refine gf_iload_n (i := 3) (q := 160) dX5_weighed_159 rfl rfl rfl ?_
    refine gf_icmp_ge (t := 177) (q := 163) dX5_weighed_160 (by decide) rfl ?_ ?_
    · refine gf_aload_n (i := 0) (q := 178) dX5_weighed_177 rfl rfl rfl ?_
      refine gf_lload (q := 180) dX5_weighed_178 rfl rfl ?_
      refine gf_lload (q := 182) dX5_weighed_180 rfl rfl ?_
      refine gf_callV_i (n2 := 2) (As := [.long v5, .long v7]) (st := []) (b := 35) (ci := 5) (C := RX5) (q := 185) (hlen := rfl) rfl rfl kw1032 kw1034 kp48 dX5_weighed_182 kw1035 kw7 (by decide +kernel) (by decide) (Nat.le_of_ble_eq_true rfl) (C_X5_fraction v5 v7 u) rfl rfl (fun x1 => ?_)
      exact gf_reti dX5_weighed_185 rfl
    · refine gf_lload (q := 165) dX5_weighed_163 rfl rfl ?_
      refine gf_ldc2 (q := 168) dX5_weighed_165 kw1027 rfl ?_
      refine gf_lmul (q := 169) dX5_weighed_168 rfl ?_
      refine gf_lstore (lv2 := [some (.ref 35), none, none, some (.int v3), none, some (.long v5), none, some (.long (v7 * 12)), none, some (.int v9), none, none, none, none]) (q := 171) dX5_weighed_169 (by decide) rfl rfl ?_
      refine gf_iinc (v := (v9 + 1)) (lv2 := [some (.ref 35), none, none, some (.int v3), none, some (.long v5), none, some (.long (v7 * 12)), none, some (.int (v9 + 1)), none, none, none, none]) (q := 174) dX5_weighed_171 rfl (congrArg _ ki_1) (by decide) rfl rfl ?_
      refine gf_goto (q := 157) dX5_weighed_174 (by decide) ?_
      exact (ih v3 v5 (v7 * 12) (v9 + 1) u)
def F_X5_weighed_143 (k9 : Int32 → Int32 → Int32 → Int32 → Int64 → Int64 → Int32 → XM → Option (Int32 × XM)) (v1 : Int32) (v2 : Int32) (v3 : Int32) (v4 : Int32) (v7 : Int64) (v9 : Int32) (s0 : Int32) (s1 : Int64) (s2 : Int64) (u : XM) : Option (Int32 × XM) := k9 v1 v2 v3 v4 (s2 + (s1 * (Int32.toInt64 s0))) v7 (v9 + 1) u
set_option maxRecDepth 20000 in
set_option maxHeartbeats 4000000 in
theorem T_X5_weighed_143 (k9 : Int32 → Int32 → Int32 → Int32 → Int64 → Int64 → Int32 → XM → Option (Int32 × XM)) (hk9 : ∀ (v1 : Int32) (v2 : Int32) (v3 : Int32) (v4 : Int32) (v5 : Int64) (v7 : Int64) (v9 : Int32) (u : XM), GF E0 YY 3 yX5_weighed cX5_weighed 14 (some .int) 9 [some (.ref 35), some (.int v1), some (.int v2), some (.int v3), some (.int v4), some (.long v5), none, some (.long v7), none, some (.int v9), none, none, none, none] [] u emI (k9 v1 v2 v3 v4 v5 v7 v9 u)) (v1 : Int32) (v2 : Int32) (v3 : Int32) (v4 : Int32) (v7 : Int64) (v9 : Int32) (s0 : Int32) (s1 : Int64) (s2 : Int64) (u : XM) : GF E0 YY 3 yX5_weighed cX5_weighed 14 (some .int) 143 [some (.ref 35), some (.int v1), some (.int v2), some (.int v3), some (.int v4), none, none, some (.long v7), none, some (.int v9), none, none, none, none] [.int s0, .long s1, .long s2] u emI (F_X5_weighed_143 k9 v1 v2 v3 v4 v7 v9 s0 s1 s2 u) := by
  unfold F_X5_weighed_143
  refine gf_i2l (q := 144) dX5_weighed_143 rfl ?_
  refine gf_lmul (q := 145) dX5_weighed_144 rfl ?_
  refine gf_ladd (q := 146) dX5_weighed_145 rfl ?_
  refine gf_lstore (lv2 := [some (.ref 35), some (.int v1), some (.int v2), some (.int v3), some (.int v4), some (.long (s2 + (s1 * (Int32.toInt64 s0)))), none, some (.long v7), none, some (.int v9), none, none, none, none]) (q := 148) dX5_weighed_146 (by decide) rfl rfl ?_
  refine gf_iinc (v := (v9 + 1)) (lv2 := [some (.ref 35), some (.int v1), some (.int v2), some (.int v3), some (.int v4), some (.long (s2 + (s1 * (Int32.toInt64 s0)))), none, some (.long v7), none, some (.int (v9 + 1)), none, none, none, none]) (q := 151) dX5_weighed_148 rfl (congrArg _ ki_1) (by decide) rfl rfl ?_
  refine gf_goto (q := 9) dX5_weighed_151 (by decide) ?_
  exact (hk9 v1 v2 v3 v4 (s2 + (s1 * (Int32.toInt64 s0))) v7 (v9 + 1) u)
def F_X5_weighed_109 (k33 : Int32 → Int32 → Int32 → Int32 → Int64 → Int64 → Int32 → Int64 → Int32 → Int32 → XM → Option (Int32 × XM)) (v1 : Int32) (v2 : Int32) (v3 : Int32) (v4 : Int32) (v5 : Int64) (v7 : Int64) (v9 : Int32) (v10 : Int64) (v13 : Int32) (s0 : Int32) (u : XM) : Option (Int32 × XM) := k33 v1 v2 v3 v4 v5 v7 v9 v10 s0 (v13 + 1) u
set_option maxRecDepth 20000 in
set_option maxHeartbeats 4000000 in
theorem T_X5_weighed_109 (k33 : Int32 → Int32 → Int32 → Int32 → Int64 → Int64 → Int32 → Int64 → Int32 → Int32 → XM → Option (Int32 × XM)) (hk33 : ∀ (v1 : Int32) (v2 : Int32) (v3 : Int32) (v4 : Int32) (v5 : Int64) (v7 : Int64) (v9 : Int32) (v10 : Int64) (v12 : Int32) (v13 : Int32) (u : XM), GF E0 YY 3 yX5_weighed cX5_weighed 14 (some .int) 33 [some (.ref 35), some (.int v1), some (.int v2), some (.int v3), some (.int v4), some (.long v5), none, some (.long v7), none, some (.int v9), some (.long v10), none, some (.int v12), some (.int v13)] [] u emI (k33 v1 v2 v3 v4 v5 v7 v9 v10 v12 v13 u)) (v1 : Int32) (v2 : Int32) (v3 : Int32) (v4 : Int32) (v5 : Int64) (v7 : Int64) (v9 : Int32) (v10 : Int64) (v13 : Int32) (s0 : Int32) (u : XM) : GF E0 YY 3 yX5_weighed cX5_weighed 14 (some .int) 109 [some (.ref 35), some (.int v1), some (.int v2), some (.int v3), some (.int v4), some (.long v5), none, some (.long v7), none, some (.int v9), some (.long v10), none, none, some (.int v13)] [.int s0] u emI (F_X5_weighed_109 k33 v1 v2 v3 v4 v5 v7 v9 v10 v13 s0 u) := by
  unfold F_X5_weighed_109
  refine gf_istore (lv2 := [some (.ref 35), some (.int v1), some (.int v2), some (.int v3), some (.int v4), some (.long v5), none, some (.long v7), none, some (.int v9), some (.long v10), none, some (.int s0), some (.int v13)]) (q := 111) dX5_weighed_109 (by decide) rfl rfl ?_
  refine gf_iinc (v := (v13 + 1)) (lv2 := [some (.ref 35), some (.int v1), some (.int v2), some (.int v3), some (.int v4), some (.long v5), none, some (.long v7), none, some (.int v9), some (.long v10), none, some (.int s0), some (.int (v13 + 1))]) (q := 114) dX5_weighed_111 rfl (congrArg _ ki_1) (by decide) rfl rfl ?_
  refine gf_goto (q := 33) dX5_weighed_114 (by decide) ?_
  exact (hk33 v1 v2 v3 v4 v5 v7 v9 v10 s0 (v13 + 1) u)
def F_X5_weighed_63 (k33 : Int32 → Int32 → Int32 → Int32 → Int64 → Int64 → Int32 → Int64 → Int32 → Int32 → XM → Option (Int32 × XM)) (v1 : Int32) (v2 : Int32) (v3 : Int32) (v4 : Int32) (v5 : Int64) (v7 : Int64) (v9 : Int32) (v12 : Int32) (v13 : Int32) (s0 : Int64) (s1 : Int64) (u : XM) : Option (Int32 × XM) := (Option.bind (F_X5_has v9 v13 u) (fun x2 => (if x2.1 = 0 then (if ain YY 0 40 v1 = true then (if ain YY 0 41 v1 = true then (if ain YY 0 43 7 = true then (Option.bind (F_X5_next (mi x2.2 40 (Int32.toNatClampNeg v1)) (mi x2.2 41 (Int32.toNatClampNeg v1)) v12 ((mi x2.2 43 (Int32.toNatClampNeg 7)) + v13) x2.2) (fun x3 => F_X5_weighed_109 (k33) v1 v2 v3 v4 v5 v7 v9 (s1 * s0) v13 x3.1 x3.2)) else none) else none) else none) else F_X5_weighed_109 (k33) v1 v2 v3 v4 v5 v7 v9 (s1 * s0) v13 v12 x2.2)))
set_option maxRecDepth 20000 in
set_option maxHeartbeats 4000000 in
theorem T_X5_weighed_63 (k33 : Int32 → Int32 → Int32 → Int32 → Int64 → Int64 → Int32 → Int64 → Int32 → Int32 → XM → Option (Int32 × XM)) (hk33 : ∀ (v1 : Int32) (v2 : Int32) (v3 : Int32) (v4 : Int32) (v5 : Int64) (v7 : Int64) (v9 : Int32) (v10 : Int64) (v12 : Int32) (v13 : Int32) (u : XM), GF E0 YY 3 yX5_weighed cX5_weighed 14 (some .int) 33 [some (.ref 35), some (.int v1), some (.int v2), some (.int v3), some (.int v4), some (.long v5), none, some (.long v7), none, some (.int v9), some (.long v10), none, some (.int v12), some (.int v13)] [] u emI (k33 v1 v2 v3 v4 v5 v7 v9 v10 v12 v13 u)) (v1 : Int32) (v2 : Int32) (v3 : Int32) (v4 : Int32) (v5 : Int64) (v7 : Int64) (v9 : Int32) (v12 : Int32) (v13 : Int32) (s0 : Int64) (s1 : Int64) (u : XM) : GF E0 YY 3 yX5_weighed cX5_weighed 14 (some .int) 63 [some (.ref 35), some (.int v1), some (.int v2), some (.int v3), some (.int v4), some (.long v5), none, some (.long v7), none, some (.int v9), none, none, some (.int v12), some (.int v13)] [.long s0, .long s1] u emI (F_X5_weighed_63 k33 v1 v2 v3 v4 v5 v7 v9 v12 v13 s0 s1 u) := by
  unfold F_X5_weighed_63
  refine gf_lmul (q := 64) dX5_weighed_63 rfl ?_
  refine gf_lstore (lv2 := [some (.ref 35), some (.int v1), some (.int v2), some (.int v3), some (.int v4), some (.long v5), none, some (.long v7), none, some (.int v9), some (.long (s1 * s0)), none, some (.int v12), some (.int v13)]) (q := 66) dX5_weighed_64 (by decide) rfl rfl ?_
  refine gf_iload (q := 68) dX5_weighed_66 rfl rfl ?_
  refine gf_iload (q := 70) dX5_weighed_68 rfl rfl ?_
  refine gf_callS_i (n2 := 2) (As := [.int v9, .int v13]) (st := []) (q := 73) (hlen := rfl) kw987 kw988 dX5_weighed_70 kw989 kw7 (by decide +kernel) (by decide) (Nat.le_of_ble_eq_true rfl) (C_X5_has v9 v13 u) rfl rfl (fun x2 => ?_)
  refine gf_if_eq (t := 81) (q := 76) dX5_weighed_73 (by decide) rfl ?_ ?_
  · refine gf_aload_n (i := 0) (q := 82) dX5_weighed_81 rfl rfl rfl ?_
    refine gf_aload_n (i := 0) (q := 83) dX5_weighed_82 rfl rfl rfl ?_
    refine gf_getA (C := RX5) (T := TX5) (N := 33) (ci := 5) (k := 35) (j := 6) (t := 40) (q := 86) dX5_weighed_83 rfl rfl kin5 (by decide) kw610 rfl rfl ?_
    refine gf_iload_n (i := 1) (q := 87) dX5_weighed_86 rfl rfl rfl ?_
    refine gf_iald (q := 88) dX5_weighed_87 rfl ?_
    refine gf_aload_n (i := 0) (q := 89) dX5_weighed_88 rfl rfl rfl ?_
    refine gf_getA (C := RX5) (T := TX5) (N := 33) (ci := 5) (k := 35) (j := 7) (t := 41) (q := 92) dX5_weighed_89 rfl rfl kin5 (by decide) kw611 rfl rfl ?_
    refine gf_iload_n (i := 1) (q := 93) dX5_weighed_92 rfl rfl rfl ?_
    refine gf_iald (q := 94) dX5_weighed_93 rfl ?_
    refine gf_iload (q := 96) dX5_weighed_94 rfl rfl ?_
    refine gf_aload_n (i := 0) (q := 97) dX5_weighed_96 rfl rfl rfl ?_
    refine gf_getA (C := RX5) (T := TX5) (N := 33) (ci := 5) (k := 35) (j := 9) (t := 43) (q := 100) dX5_weighed_97 rfl rfl kin5 (by decide) kw613 rfl rfl ?_
    refine gf_bipush (q := 102) dX5_weighed_100 kb_7 rfl ?_
    refine gf_iald (q := 103) dX5_weighed_102 rfl ?_
    refine gf_iload (q := 105) dX5_weighed_103 rfl rfl ?_
    refine gf_iadd (q := 106) dX5_weighed_105 rfl ?_
    refine gf_callV_i (n2 := 4) (As := [.int (mi x2.2 40 (Int32.toNatClampNeg v1)), .int (mi x2.2 41 (Int32.toNatClampNeg v1)), .int v12, .int ((mi x2.2 43 (Int32.toNatClampNeg 7)) + v13)]) (st := []) (b := 35) (ci := 5) (C := RX5) (q := 109) (hlen := rfl) rfl rfl kw865 kw867 kp31 dX5_weighed_106 kw868 kw7 (by decide +kernel) (by decide) (Nat.le_of_ble_eq_true rfl) (C_X5_next (mi x2.2 40 (Int32.toNatClampNeg v1)) (mi x2.2 41 (Int32.toNatClampNeg v1)) v12 ((mi x2.2 43 (Int32.toNatClampNeg 7)) + v13) x2.2) rfl rfl (fun x3 => ?_)
    exact gf_mask (b := [true, true, true, true, true, true, false, true, false, true, true, false, false, true]) rfl (T_X5_weighed_109 (k33) hk33 v1 v2 v3 v4 v5 v7 v9 (s1 * s0) v13 x3.1 x3.2)
  · refine gf_iload (q := 78) dX5_weighed_76 rfl rfl ?_
    refine gf_goto (q := 109) dX5_weighed_78 (by decide) ?_
    exact gf_mask (b := [true, true, true, true, true, true, false, true, false, true, true, false, false, true]) rfl (T_X5_weighed_109 (k33) hk33 v1 v2 v3 v4 v5 v7 v9 (s1 * s0) v13 v12 x2.2)
def F_X5_weighed_33 (k9 : Int32 → Int32 → Int32 → Int32 → Int64 → Int64 → Int32 → XM → Option (Int32 × XM)) : Nat → Int32 → Int32 → Int32 → Int32 → Int64 → Int64 → Int32 → Int64 → Int32 → Int32 → XM → Option (Int32 × XM)
  | 0, _, _, _, _, _, _, _, _, _, _, _ => none
  | n + 1, v1, v2, v3, v4, v5, v7, v9, v10, v12, v13, u => (if v3 ≤ v13 then (if v2 = (-9) then F_X5_weighed_143 (k9) v1 v2 v3 v4 v7 v9 v12 v10 v5 u else (if v12 = v2 then F_X5_weighed_143 (k9) v1 v2 v3 v4 v7 v9 1 v10 v5 u else F_X5_weighed_143 (k9) v1 v2 v3 v4 v7 v9 0 v10 v5 u)) else (Option.bind (F_X5_has v9 v13 u) (fun x4 => (if x4.1 = 0 then F_X5_weighed_63 (F_X5_weighed_33 k9 n) v1 v2 v3 v4 v5 v7 v9 v12 v13 (Int32.toInt64 (12 - v4)) v10 x4.2 else F_X5_weighed_63 (F_X5_weighed_33 k9 n) v1 v2 v3 v4 v5 v7 v9 v12 v13 (Int32.toInt64 v4) v10 x4.2))))
set_option maxRecDepth 20000 in
set_option maxHeartbeats 4000000 in
theorem T_X5_weighed_33 (k9 : Int32 → Int32 → Int32 → Int32 → Int64 → Int64 → Int32 → XM → Option (Int32 × XM)) (hk9 : ∀ (v1 : Int32) (v2 : Int32) (v3 : Int32) (v4 : Int32) (v5 : Int64) (v7 : Int64) (v9 : Int32) (u : XM), GF E0 YY 3 yX5_weighed cX5_weighed 14 (some .int) 9 [some (.ref 35), some (.int v1), some (.int v2), some (.int v3), some (.int v4), some (.long v5), none, some (.long v7), none, some (.int v9), none, none, none, none] [] u emI (k9 v1 v2 v3 v4 v5 v7 v9 u)) : ∀ (n : Nat) (v1 : Int32) (v2 : Int32) (v3 : Int32) (v4 : Int32) (v5 : Int64) (v7 : Int64) (v9 : Int32) (v10 : Int64) (v12 : Int32) (v13 : Int32) (u : XM), GF E0 YY 3 yX5_weighed cX5_weighed 14 (some .int) 33 [some (.ref 35), some (.int v1), some (.int v2), some (.int v3), some (.int v4), some (.long v5), none, some (.long v7), none, some (.int v9), some (.long v10), none, some (.int v12), some (.int v13)] [] u emI (F_X5_weighed_33 k9 n v1 v2 v3 v4 v5 v7 v9 v10 v12 v13 u) := by
  intro n
  induction n with
  | zero => intro v1 v2 v3 v4 v5 v7 v9 v10 v12 v13 u; exact gf_none
  | succ n ih =>
    intro v1 v2 v3 v4 v5 v7 v9 v10 v12 v13 u
    unfold F_X5_weighed_33
    refine gf_iload (q := 35) dX5_weighed_33 rfl rfl ?_
    refine gf_iload_n (i := 3) (q := 36) dX5_weighed_35 rfl rfl rfl ?_
    refine gf_icmp_ge (t := 117) (q := 39) dX5_weighed_36 (by decide) rfl ?_ ?_
    · refine gf_lload (q := 119) dX5_weighed_117 rfl rfl ?_
      refine gf_lload (q := 121) dX5_weighed_119 rfl rfl ?_
      refine gf_iload_n (i := 2) (q := 122) dX5_weighed_121 rfl rfl rfl ?_
      refine gf_bipush (q := 124) dX5_weighed_122 kb_m9 rfl ?_
      refine gf_icmp_ne (t := 132) (q := 127) dX5_weighed_124 (by decide) rfl ?_ ?_
      · refine gf_iload (q := 129) dX5_weighed_127 rfl rfl ?_
        refine gf_goto (q := 143) dX5_weighed_129 (by decide) ?_
        exact gf_mask (b := [true, true, true, true, true, false, false, true, false, true, false, false, false, false]) rfl (T_X5_weighed_143 (k9) hk9 v1 v2 v3 v4 v7 v9 v12 v10 v5 u)
      · refine gf_iload (q := 134) dX5_weighed_132 rfl rfl ?_
        refine gf_iload_n (i := 2) (q := 135) dX5_weighed_134 rfl rfl rfl ?_
        refine gf_icmp_ne (t := 142) (q := 138) dX5_weighed_135 (by decide) rfl ?_ ?_
        · refine gf_iconst (q := 139) dX5_weighed_138 ki_1 rfl ?_
          refine gf_goto (q := 143) dX5_weighed_139 (by decide) ?_
          exact gf_mask (b := [true, true, true, true, true, false, false, true, false, true, false, false, false, false]) rfl (T_X5_weighed_143 (k9) hk9 v1 v2 v3 v4 v7 v9 1 v10 v5 u)
        · refine gf_iconst (q := 143) dX5_weighed_142 ki_0 rfl ?_
          exact gf_mask (b := [true, true, true, true, true, false, false, true, false, true, false, false, false, false]) rfl (T_X5_weighed_143 (k9) hk9 v1 v2 v3 v4 v7 v9 0 v10 v5 u)
    · refine gf_lload (q := 41) dX5_weighed_39 rfl rfl ?_
      refine gf_iload (q := 43) dX5_weighed_41 rfl rfl ?_
      refine gf_iload (q := 45) dX5_weighed_43 rfl rfl ?_
      refine gf_callS_i (n2 := 2) (As := [.int v9, .int v13]) (st := [.long v10]) (q := 48) (hlen := rfl) kw987 kw988 dX5_weighed_45 kw989 kw7 (by decide +kernel) (by decide) (Nat.le_of_ble_eq_true rfl) (C_X5_has v9 v13 u) rfl rfl (fun x4 => ?_)
      refine gf_if_eq (t := 57) (q := 51) dX5_weighed_48 (by decide) rfl ?_ ?_
      · refine gf_bipush (q := 59) dX5_weighed_57 kb_12 rfl ?_
        refine gf_iload (q := 61) dX5_weighed_59 rfl rfl ?_
        refine gf_isub (q := 62) dX5_weighed_61 rfl ?_
        refine gf_i2l (q := 63) dX5_weighed_62 rfl ?_
        exact gf_mask (b := [true, true, true, true, true, true, false, true, false, true, false, false, true, true]) rfl (T_X5_weighed_63 (F_X5_weighed_33 k9 n) ih v1 v2 v3 v4 v5 v7 v9 v12 v13 (Int32.toInt64 (12 - v4)) v10 x4.2)
      · refine gf_iload (q := 53) dX5_weighed_51 rfl rfl ?_
        refine gf_i2l (q := 54) dX5_weighed_53 rfl ?_
        refine gf_goto (q := 63) dX5_weighed_54 (by decide) ?_
        exact gf_mask (b := [true, true, true, true, true, true, false, true, false, true, false, false, true, true]) rfl (T_X5_weighed_63 (F_X5_weighed_33 k9 n) ih v1 v2 v3 v4 v5 v7 v9 v12 v13 (Int32.toInt64 v4) v10 x4.2)
def F_X5_weighed_9 : Nat → Int32 → Int32 → Int32 → Int32 → Int64 → Int64 → Int32 → XM → Option (Int32 × XM)
  | 0, _, _, _, _, _, _, _, _ => none
  | n + 1, v1, v2, v3, v4, v5, v7, v9, u => (if (1 <<< (v3 &&& 31)) ≤ v9 then F_X5_weighed_157 FU v3 v5 v7 0 u else (if ain YY 0 43 (0 + v1) = true then F_X5_weighed_33 (F_X5_weighed_9 n) FU v1 v2 v3 v4 v5 v7 v9 1 (mi u 43 (Int32.toNatClampNeg (0 + v1))) 0 u else none))
set_option maxRecDepth 20000 in
set_option maxHeartbeats 4000000 in
theorem T_X5_weighed_9 : ∀ (n : Nat) (v1 : Int32) (v2 : Int32) (v3 : Int32) (v4 : Int32) (v5 : Int64) (v7 : Int64) (v9 : Int32) (u : XM), GF E0 YY 3 yX5_weighed cX5_weighed 14 (some .int) 9 [some (.ref 35), some (.int v1), some (.int v2), some (.int v3), some (.int v4), some (.long v5), none, some (.long v7), none, some (.int v9), none, none, none, none] [] u emI (F_X5_weighed_9 n v1 v2 v3 v4 v5 v7 v9 u) := by
  intro n
  induction n with
  | zero => intro v1 v2 v3 v4 v5 v7 v9 u; exact gf_none
  | succ n ih =>
    intro v1 v2 v3 v4 v5 v7 v9 u
    unfold F_X5_weighed_9
    refine gf_iload (q := 11) dX5_weighed_9 rfl rfl ?_
    refine gf_iconst (q := 12) dX5_weighed_11 ki_1 rfl ?_
    refine gf_iload_n (i := 3) (q := 13) dX5_weighed_12 rfl rfl rfl ?_
    refine gf_ishl (q := 14) dX5_weighed_13 rfl ?_
    refine gf_icmp_ge (t := 154) (q := 17) dX5_weighed_14 (by decide) rfl ?_ ?_
    · refine gf_iconst (q := 155) dX5_weighed_154 ki_0 rfl ?_
      refine gf_istore (lv2 := [some (.ref 35), some (.int v1), some (.int v2), some (.int v3), some (.int v4), some (.long v5), none, some (.long v7), none, some (.int 0), none, none, none, none]) (q := 157) dX5_weighed_155 (by decide) rfl rfl ?_
      exact gf_mask (b := [true, false, false, true, false, true, false, true, false, true, false, false, false, false]) rfl (T_X5_weighed_157 FU v3 v5 v7 0 u)
    · refine gf_lconst (v := 1) (q := 18) dX5_weighed_17 rfl rfl ?_
      refine gf_lstore (lv2 := [some (.ref 35), some (.int v1), some (.int v2), some (.int v3), some (.int v4), some (.long v5), none, some (.long v7), none, some (.int v9), some (.long 1), none, none, none]) (q := 20) dX5_weighed_18 (by decide) rfl rfl ?_
      refine gf_aload_n (i := 0) (q := 21) dX5_weighed_20 rfl rfl rfl ?_
      refine gf_getA (C := RX5) (T := TX5) (N := 33) (ci := 5) (k := 35) (j := 9) (t := 43) (q := 24) dX5_weighed_21 rfl rfl kin5 (by decide) kw613 rfl rfl ?_
      refine gf_iconst (q := 25) dX5_weighed_24 ki_0 rfl ?_
      refine gf_iload_n (i := 1) (q := 26) dX5_weighed_25 rfl rfl rfl ?_
      refine gf_iadd (q := 27) dX5_weighed_26 rfl ?_
      refine gf_iald (q := 28) dX5_weighed_27 rfl ?_
      refine gf_istore (lv2 := [some (.ref 35), some (.int v1), some (.int v2), some (.int v3), some (.int v4), some (.long v5), none, some (.long v7), none, some (.int v9), some (.long 1), none, some (.int (mi u 43 (Int32.toNatClampNeg (0 + v1)))), none]) (q := 30) dX5_weighed_28 (by decide) rfl rfl ?_
      refine gf_iconst (q := 31) dX5_weighed_30 ki_0 rfl ?_
      refine gf_istore (lv2 := [some (.ref 35), some (.int v1), some (.int v2), some (.int v3), some (.int v4), some (.long v5), none, some (.long v7), none, some (.int v9), some (.long 1), none, some (.int (mi u 43 (Int32.toNatClampNeg (0 + v1)))), some (.int 0)]) (q := 33) dX5_weighed_31 (by decide) rfl rfl ?_
      exact (T_X5_weighed_33 (F_X5_weighed_9 n) ih FU v1 v2 v3 v4 v5 v7 v9 1 (mi u 43 (Int32.toNatClampNeg (0 + v1))) 0 u)
def F_X5_weighed (v1 : Int32) (v2 : Int32) (v3 : Int32) (v4 : Int32) (u : XM) : Option (Int32 × XM) := F_X5_weighed_9 FU v1 v2 v3 v4 0 1 0 u
set_option maxRecDepth 20000 in
set_option maxHeartbeats 4000000 in
theorem T_X5_weighed (v1 : Int32) (v2 : Int32) (v3 : Int32) (v4 : Int32) (u : XM) : GF E0 YY 3 yX5_weighed cX5_weighed 14 (some .int) 0 [some (.ref 35), some (.int v1), some (.int v2), some (.int v3), some (.int v4), none, none, none, none, none, none, none, none, none] [] u emI (F_X5_weighed v1 v2 v3 v4 u) := by
  unfold F_X5_weighed
  refine gf_lconst (v := 0) (q := 1) dX5_weighed_0 rfl rfl ?_
  refine gf_lstore (lv2 := [some (.ref 35), some (.int v1), some (.int v2), some (.int v3), some (.int v4), some (.long 0), none, none, none, none, none, none, none, none]) (q := 3) dX5_weighed_1 (by decide) rfl rfl ?_
  refine gf_lconst (v := 1) (q := 4) dX5_weighed_3 rfl rfl ?_
  refine gf_lstore (lv2 := [some (.ref 35), some (.int v1), some (.int v2), some (.int v3), some (.int v4), some (.long 0), none, some (.long 1), none, none, none, none, none, none]) (q := 6) dX5_weighed_4 (by decide) rfl rfl ?_
  refine gf_iconst (q := 7) dX5_weighed_6 ki_0 rfl ?_
  refine gf_istore (lv2 := [some (.ref 35), some (.int v1), some (.int v2), some (.int v3), some (.int v4), some (.long 0), none, some (.long 1), none, some (.int 0), none, none, none, none]) (q := 9) dX5_weighed_7 (by decide) rfl rfl ?_
  exact (T_X5_weighed_9 FU v1 v2 v3 v4 0 1 0 u)
theorem C_X5_weighed (v1 : Int32) (v2 : Int32) (v3 : Int32) (v4 : Int32) (u : XM) : CF YY 3 yX5_weighed cX5_weighed 14 (some .int) [.ref 35, .int v1, .int v2, .int v3, .int v4] u emI (F_X5_weighed v1 v2 v3 v4 u) := cf_of (by decide +kernel) (Nat.le_of_ble_eq_true rfl) rfl (T_X5_weighed v1 v2 v3 v4 u)
def F_X5_odds (v1 : Int32) (v2 : Int32) (v3 : Int32) (v4 : Int32) (u : XM) : Option (Int32 × XM) := (Option.bind (F_X5_isThing v1 u) (fun x1 => (if x1.1 = 0 then some ((-1), x1.2) else (Option.bind (F_X5_isCell v2 x1.2) (fun x2 => (if x2.1 = 0 then some ((-1), x2.2) else (Option.bind (F_X5_in (Int32.toInt64 v3) 0 6 x2.2) (fun x3 => (if x3.1 = 0 then some ((-1), x3.2) else (Option.bind (F_X5_in (Int32.toInt64 v4) 0 12 x3.2) (fun x4 => (if x4.1 = 0 then some ((-1), x4.2) else (Option.bind (F_X5_isTaken v1 x4.2) (fun x5 => (if x5.1 = 0 then (Option.bind (F_X5_weighed v1 v2 v3 v4 x5.2) (fun x6 => some (x6.1, x6.2))) else some ((-4), x5.2))))))))))))))))
set_option maxRecDepth 20000 in
set_option maxHeartbeats 4000000 in
theorem T_X5_odds (v1 : Int32) (v2 : Int32) (v3 : Int32) (v4 : Int32) (u : XM) : GF E0 YY 4 yX5_odds cX5_odds 5 (some .int) 0 [some (.ref 35), some (.int v1), some (.int v2), some (.int v3), some (.int v4)] [] u emI (F_X5_odds v1 v2 v3 v4 u) := by
  unfold F_X5_odds
  refine gf_aload_n (i := 0) (q := 1) dX5_odds_0 rfl rfl rfl ?_
  refine gf_iload_n (i := 1) (q := 2) dX5_odds_1 rfl rfl rfl ?_
  refine gf_callV_i (n2 := 1) (As := [.int v1]) (st := []) (b := 35) (ci := 5) (C := RX5) (q := 5) (hlen := rfl) rfl rfl kw795 kw797 kp20 dX5_odds_2 kw798 kw7 (by decide +kernel) (by decide) (Nat.le_of_ble_eq_true rfl) (C_X5_isThing v1 u) rfl rfl (fun x1 => ?_)
  refine gf_if_eq (t := 40) (q := 8) dX5_odds_5 (by decide) rfl ?_ ?_
  · refine gf_iconst (q := 41) dX5_odds_40 ki_m1 rfl ?_
    exact gf_reti dX5_odds_41 rfl
  · refine gf_iload_n (i := 2) (q := 9) dX5_odds_8 rfl rfl rfl ?_
    refine gf_callS_i (n2 := 1) (As := [.int v2]) (st := []) (q := 12) (hlen := rfl) kw834 kw835 dX5_odds_9 kw836 kw7 (by decide +kernel) (by decide) (Nat.le_of_ble_eq_true rfl) (C_X5_isCell v2 x1.2) rfl rfl (fun x2 => ?_)
    refine gf_if_eq (t := 40) (q := 15) dX5_odds_12 (by decide) rfl ?_ ?_
    · refine gf_iconst (q := 41) dX5_odds_40 ki_m1 rfl ?_
      exact gf_reti dX5_odds_41 rfl
    · refine gf_iload_n (i := 3) (q := 16) dX5_odds_15 rfl rfl rfl ?_
      refine gf_i2l (q := 17) dX5_odds_16 rfl ?_
      refine gf_lconst (v := 0) (q := 18) dX5_odds_17 rfl rfl ?_
      refine gf_ldc2 (q := 21) dX5_odds_18 kw1026 rfl ?_
      refine gf_callS_i (n2 := 3) (As := [.long (Int32.toInt64 v3), .long 0, .long 6]) (st := []) (q := 24) (hlen := rfl) kw713 kw714 dX5_odds_21 kw715 kw7 (by decide +kernel) (by decide) (Nat.le_of_ble_eq_true rfl) (C_X5_in (Int32.toInt64 v3) 0 6 x2.2) rfl rfl (fun x3 => ?_)
      refine gf_if_eq (t := 40) (q := 27) dX5_odds_24 (by decide) rfl ?_ ?_
      · refine gf_iconst (q := 41) dX5_odds_40 ki_m1 rfl ?_
        exact gf_reti dX5_odds_41 rfl
      · refine gf_iload (q := 29) dX5_odds_27 rfl rfl ?_
        refine gf_i2l (q := 30) dX5_odds_29 rfl ?_
        refine gf_lconst (v := 0) (q := 31) dX5_odds_30 rfl rfl ?_
        refine gf_ldc2 (q := 34) dX5_odds_31 kw1027 rfl ?_
        refine gf_callS_i (n2 := 3) (As := [.long (Int32.toInt64 v4), .long 0, .long 12]) (st := []) (q := 37) (hlen := rfl) kw713 kw714 dX5_odds_34 kw715 kw7 (by decide +kernel) (by decide) (Nat.le_of_ble_eq_true rfl) (C_X5_in (Int32.toInt64 v4) 0 12 x3.2) rfl rfl (fun x4 => ?_)
        refine gf_if_ne (t := 42) (q := 40) dX5_odds_37 (by decide) rfl ?_ ?_
        · refine gf_iconst (q := 41) dX5_odds_40 ki_m1 rfl ?_
          exact gf_reti dX5_odds_41 rfl
        · refine gf_aload_n (i := 0) (q := 43) dX5_odds_42 rfl rfl rfl ?_
          refine gf_iload_n (i := 1) (q := 44) dX5_odds_43 rfl rfl rfl ?_
          refine gf_callV_i (n2 := 1) (As := [.int v1]) (st := []) (b := 35) (ci := 5) (C := RX5) (q := 47) (hlen := rfl) rfl rfl kw815 kw817 kp23 dX5_odds_44 kw818 kw7 (by decide +kernel) (by decide) (Nat.le_of_ble_eq_true rfl) (C_X5_isTaken v1 x4.2) rfl rfl (fun x5 => ?_)
          refine gf_if_eq (t := 55) (q := 50) dX5_odds_47 (by decide) rfl ?_ ?_
          · refine gf_aload_n (i := 0) (q := 56) dX5_odds_55 rfl rfl rfl ?_
            refine gf_iload_n (i := 1) (q := 57) dX5_odds_56 rfl rfl rfl ?_
            refine gf_iload_n (i := 2) (q := 58) dX5_odds_57 rfl rfl rfl ?_
            refine gf_iload_n (i := 3) (q := 59) dX5_odds_58 rfl rfl rfl ?_
            refine gf_iload (q := 61) dX5_odds_59 rfl rfl ?_
            refine gf_callV_i (n2 := 4) (As := [.int v1, .int v2, .int v3, .int v4]) (st := []) (b := 35) (ci := 5) (C := RX5) (q := 64) (hlen := rfl) rfl rfl kw1028 kw1030 kp47 dX5_odds_61 kw1031 kw7 (by decide +kernel) (by decide) (Nat.le_of_ble_eq_true rfl) (C_X5_weighed v1 v2 v3 v4 x5.2) rfl rfl (fun x6 => ?_)
            exact gf_reti dX5_odds_64 rfl
          · refine gf_bipush (q := 52) dX5_odds_50 kb_m4 rfl ?_
            refine gf_goto (q := 64) dX5_odds_52 (by decide) ?_
            exact gf_reti dX5_odds_64 rfl
theorem C_X5_odds (v1 : Int32) (v2 : Int32) (v3 : Int32) (v4 : Int32) (u : XM) : CF YY 4 yX5_odds cX5_odds 5 (some .int) [.ref 35, .int v1, .int v2, .int v3, .int v4] u emI (F_X5_odds v1 v2 v3 v4 u) := cf_of (by decide +kernel) (Nat.le_of_ble_eq_true rfl) rfl (T_X5_odds v1 v2 v3 v4 u)
def F_X5_mid (v1 : Int32) (v2 : Int32) (v3 : Int32) (u : XM) : Option (Int32 × XM) := (Option.bind (F_X5_isThing v1 u) (fun x1 => (if x1.1 = 0 then some ((-1), x1.2) else (Option.bind (F_X5_in (Int32.toInt64 v2) 0 6 x1.2) (fun x2 => (if x2.1 = 0 then some ((-1), x2.2) else (Option.bind (F_X5_in (Int32.toInt64 v3) 0 12 x2.2) (fun x3 => (if x3.1 = 0 then some ((-1), x3.2) else (Option.bind (F_X5_isTaken v1 x3.2) (fun x4 => (if x4.1 = 0 then (Option.bind (F_X5_weighed v1 (-9) v2 v3 x4.2) (fun x5 => some (x5.1, x5.2))) else some ((-4), x4.2)))))))))))))
set_option maxRecDepth 20000 in
set_option maxHeartbeats 4000000 in
theorem T_X5_mid (v1 : Int32) (v2 : Int32) (v3 : Int32) (u : XM) : GF E0 YY 4 yX5_mid cX5_mid 4 (some .int) 0 [some (.ref 35), some (.int v1), some (.int v2), some (.int v3)] [] u emI (F_X5_mid v1 v2 v3 u) := by
  unfold F_X5_mid
  refine gf_aload_n (i := 0) (q := 1) dX5_mid_0 rfl rfl rfl ?_
  refine gf_iload_n (i := 1) (q := 2) dX5_mid_1 rfl rfl rfl ?_
  refine gf_callV_i (n2 := 1) (As := [.int v1]) (st := []) (b := 35) (ci := 5) (C := RX5) (q := 5) (hlen := rfl) rfl rfl kw795 kw797 kp20 dX5_mid_2 kw798 kw7 (by decide +kernel) (by decide) (Nat.le_of_ble_eq_true rfl) (C_X5_isThing v1 u) rfl rfl (fun x1 => ?_)
  refine gf_if_eq (t := 32) (q := 8) dX5_mid_5 (by decide) rfl ?_ ?_
  · refine gf_iconst (q := 33) dX5_mid_32 ki_m1 rfl ?_
    exact gf_reti dX5_mid_33 rfl
  · refine gf_iload_n (i := 2) (q := 9) dX5_mid_8 rfl rfl rfl ?_
    refine gf_i2l (q := 10) dX5_mid_9 rfl ?_
    refine gf_lconst (v := 0) (q := 11) dX5_mid_10 rfl rfl ?_
    refine gf_ldc2 (q := 14) dX5_mid_11 kw1026 rfl ?_
    refine gf_callS_i (n2 := 3) (As := [.long (Int32.toInt64 v2), .long 0, .long 6]) (st := []) (q := 17) (hlen := rfl) kw713 kw714 dX5_mid_14 kw715 kw7 (by decide +kernel) (by decide) (Nat.le_of_ble_eq_true rfl) (C_X5_in (Int32.toInt64 v2) 0 6 x1.2) rfl rfl (fun x2 => ?_)
    refine gf_if_eq (t := 32) (q := 20) dX5_mid_17 (by decide) rfl ?_ ?_
    · refine gf_iconst (q := 33) dX5_mid_32 ki_m1 rfl ?_
      exact gf_reti dX5_mid_33 rfl
    · refine gf_iload_n (i := 3) (q := 21) dX5_mid_20 rfl rfl rfl ?_
      refine gf_i2l (q := 22) dX5_mid_21 rfl ?_
      refine gf_lconst (v := 0) (q := 23) dX5_mid_22 rfl rfl ?_
      refine gf_ldc2 (q := 26) dX5_mid_23 kw1027 rfl ?_
      refine gf_callS_i (n2 := 3) (As := [.long (Int32.toInt64 v3), .long 0, .long 12]) (st := []) (q := 29) (hlen := rfl) kw713 kw714 dX5_mid_26 kw715 kw7 (by decide +kernel) (by decide) (Nat.le_of_ble_eq_true rfl) (C_X5_in (Int32.toInt64 v3) 0 12 x2.2) rfl rfl (fun x3 => ?_)
      refine gf_if_ne (t := 34) (q := 32) dX5_mid_29 (by decide) rfl ?_ ?_
      · refine gf_iconst (q := 33) dX5_mid_32 ki_m1 rfl ?_
        exact gf_reti dX5_mid_33 rfl
      · refine gf_aload_n (i := 0) (q := 35) dX5_mid_34 rfl rfl rfl ?_
        refine gf_iload_n (i := 1) (q := 36) dX5_mid_35 rfl rfl rfl ?_
        refine gf_callV_i (n2 := 1) (As := [.int v1]) (st := []) (b := 35) (ci := 5) (C := RX5) (q := 39) (hlen := rfl) rfl rfl kw815 kw817 kp23 dX5_mid_36 kw818 kw7 (by decide +kernel) (by decide) (Nat.le_of_ble_eq_true rfl) (C_X5_isTaken v1 x3.2) rfl rfl (fun x4 => ?_)
        refine gf_if_eq (t := 47) (q := 42) dX5_mid_39 (by decide) rfl ?_ ?_
        · refine gf_aload_n (i := 0) (q := 48) dX5_mid_47 rfl rfl rfl ?_
          refine gf_iload_n (i := 1) (q := 49) dX5_mid_48 rfl rfl rfl ?_
          refine gf_bipush (q := 51) dX5_mid_49 kb_m9 rfl ?_
          refine gf_iload_n (i := 2) (q := 52) dX5_mid_51 rfl rfl rfl ?_
          refine gf_iload_n (i := 3) (q := 53) dX5_mid_52 rfl rfl rfl ?_
          refine gf_callV_i (n2 := 4) (As := [.int v1, .int (-9), .int v2, .int v3]) (st := []) (b := 35) (ci := 5) (C := RX5) (q := 56) (hlen := rfl) rfl rfl kw1028 kw1030 kp47 dX5_mid_53 kw1031 kw7 (by decide +kernel) (by decide) (Nat.le_of_ble_eq_true rfl) (C_X5_weighed v1 (-9) v2 v3 x4.2) rfl rfl (fun x5 => ?_)
          exact gf_reti dX5_mid_56 rfl
        · refine gf_bipush (q := 44) dX5_mid_42 kb_m4 rfl ?_
          refine gf_goto (q := 56) dX5_mid_44 (by decide) ?_
          exact gf_reti dX5_mid_56 rfl
theorem C_X5_mid (v1 : Int32) (v2 : Int32) (v3 : Int32) (u : XM) : CF YY 4 yX5_mid cX5_mid 4 (some .int) [.ref 35, .int v1, .int v2, .int v3] u emI (F_X5_mid v1 v2 v3 u) := cf_of (by decide +kernel) (Nat.le_of_ble_eq_true rfl) rfl (T_X5_mid v1 v2 v3 u)
def F_X5_plays_56 (v1 : Int32) (u : XM) : Option (Unit × XM) := (if v1 = 3 then (Option.bind (F_X5_yearGoes u) (fun x2 => some ((), x2.2))) else (Option.bind (F_X5_turns 1 u) (fun x1 => some ((), x1.2))))
set_option maxRecDepth 20000 in
set_option maxHeartbeats 4000000 in
theorem T_X5_plays_56 (v1 : Int32) (u : XM) : GF E0 YY 6 yX5_plays cX5_plays 3 none 56 [some (.ref 35), some (.int v1), none] [] u emV (F_X5_plays_56 v1 u) := by
  unfold F_X5_plays_56
  refine gf_iload_n (i := 1) (q := 57) dX5_plays_56 rfl rfl rfl ?_
  refine gf_iconst (q := 58) dX5_plays_57 ki_3 rfl ?_
  refine gf_icmp_ne (t := 68) (q := 61) dX5_plays_58 (by decide) rfl ?_ ?_
  · refine gf_aload_n (i := 0) (q := 62) dX5_plays_61 rfl rfl rfl ?_
    refine gf_callV_v (n2 := 0) (As := []) (st := []) (b := 35) (ci := 5) (C := RX5) (q := 65) (hlen := rfl) rfl rfl kw846 kw848 kp27 dX5_plays_62 kw849 kw7 (by decide +kernel) (by decide) (Nat.le_of_ble_eq_true rfl) (C_X5_yearGoes u) rfl rfl (fun x2 => ?_)
    refine gf_goto (q := 73) dX5_plays_65 (by decide) ?_
    exact gf_retv dX5_plays_73 rfl
  · refine gf_aload_n (i := 0) (q := 69) dX5_plays_68 rfl rfl rfl ?_
    refine gf_iconst (q := 70) dX5_plays_69 ki_1 rfl ?_
    refine gf_callV_v (n2 := 1) (As := [.int 1]) (st := []) (b := 35) (ci := 5) (C := RX5) (q := 73) (hlen := rfl) rfl rfl kw876 kw878 kp32 dX5_plays_70 kw879 kw7 (by decide +kernel) (by decide) (Nat.le_of_ble_eq_true rfl) (C_X5_turns 1 u) rfl rfl (fun x1 => ?_)
    exact gf_retv dX5_plays_73 rfl
def F_X5_plays_35 (v1 : Int32) (v2 : Int32) (u : XM) : Option (Unit × XM) := (if v1 = 2 then (Option.bind (F_X5_mayTake v2 u) (fun x3 => (if x3.1 = 0 then F_X5_plays_56 v1 x3.2 else (Option.bind (F_X5_takesHome v2 x3.2) (fun x4 => some ((), x4.2)))))) else F_X5_plays_56 v1 u)
set_option maxRecDepth 20000 in
set_option maxHeartbeats 4000000 in
theorem T_X5_plays_35 (v1 : Int32) (v2 : Int32) (u : XM) : GF E0 YY 6 yX5_plays cX5_plays 3 none 35 [some (.ref 35), some (.int v1), some (.int v2)] [] u emV (F_X5_plays_35 v1 v2 u) := by
  unfold F_X5_plays_35
  refine gf_iload_n (i := 1) (q := 36) dX5_plays_35 rfl rfl rfl ?_
  refine gf_iconst (q := 37) dX5_plays_36 ki_2 rfl ?_
  refine gf_icmp_ne (t := 56) (q := 40) dX5_plays_37 (by decide) rfl ?_ ?_
  · refine gf_aload_n (i := 0) (q := 41) dX5_plays_40 rfl rfl rfl ?_
    refine gf_iload_n (i := 2) (q := 42) dX5_plays_41 rfl rfl rfl ?_
    refine gf_callV_i (n2 := 1) (As := [.int v2]) (st := []) (b := 35) (ci := 5) (C := RX5) (q := 45) (hlen := rfl) rfl rfl kw899 kw901 kp35 dX5_plays_42 kw902 kw7 (by decide +kernel) (by decide) (Nat.le_of_ble_eq_true rfl) (C_X5_mayTake v2 u) rfl rfl (fun x3 => ?_)
    refine gf_if_eq (t := 56) (q := 48) dX5_plays_45 (by decide) rfl ?_ ?_
    · exact gf_mask (b := [true, true, false]) rfl (T_X5_plays_56 v1 x3.2)
    · refine gf_aload_n (i := 0) (q := 49) dX5_plays_48 rfl rfl rfl ?_
      refine gf_iload_n (i := 2) (q := 50) dX5_plays_49 rfl rfl rfl ?_
      refine gf_callV_v (n2 := 1) (As := [.int v2]) (st := []) (b := 35) (ci := 5) (C := RX5) (q := 53) (hlen := rfl) rfl rfl kw906 kw908 kp36 dX5_plays_50 kw909 kw7 (by decide +kernel) (by decide) (Nat.le_of_ble_eq_true rfl) (C_X5_takesHome v2 x3.2) rfl rfl (fun x4 => ?_)
      refine gf_goto (q := 73) dX5_plays_53 (by decide) ?_
      exact gf_retv dX5_plays_73 rfl
  · exact gf_mask (b := [true, true, false]) rfl (T_X5_plays_56 v1 u)
def F_X5_plays (v1 : Int32) (v2 : Int32) (u : XM) : Option (Unit × XM) := (if v1 = 0 then (Option.bind (F_X5_turns 0 u) (fun x7 => some ((), x7.2))) else (if v1 = 1 then (Option.bind (F_X5_mayMove v2 1 u) (fun x5 => (if x5.1 = 0 then F_X5_plays_35 v1 v2 x5.2 else (Option.bind (F_X5_goes v2 1 x5.2) (fun x6 => some ((), x6.2)))))) else F_X5_plays_35 v1 v2 u))
set_option maxRecDepth 20000 in
set_option maxHeartbeats 4000000 in
theorem T_X5_plays (v1 : Int32) (v2 : Int32) (u : XM) : GF E0 YY 6 yX5_plays cX5_plays 3 none 0 [some (.ref 35), some (.int v1), some (.int v2)] [] u emV (F_X5_plays v1 v2 u) := by
  unfold F_X5_plays
  refine gf_iload_n (i := 1) (q := 1) dX5_plays_0 rfl rfl rfl ?_
  refine gf_if_ne (t := 12) (q := 4) dX5_plays_1 (by decide) rfl ?_ ?_
  · refine gf_aload_n (i := 0) (q := 5) dX5_plays_4 rfl rfl rfl ?_
    refine gf_iconst (q := 6) dX5_plays_5 ki_0 rfl ?_
    refine gf_callV_v (n2 := 1) (As := [.int 0]) (st := []) (b := 35) (ci := 5) (C := RX5) (q := 9) (hlen := rfl) rfl rfl kw876 kw878 kp32 dX5_plays_6 kw879 kw7 (by decide +kernel) (by decide) (Nat.le_of_ble_eq_true rfl) (C_X5_turns 0 u) rfl rfl (fun x7 => ?_)
    refine gf_goto (q := 73) dX5_plays_9 (by decide) ?_
    exact gf_retv dX5_plays_73 rfl
  · refine gf_iload_n (i := 1) (q := 13) dX5_plays_12 rfl rfl rfl ?_
    refine gf_iconst (q := 14) dX5_plays_13 ki_1 rfl ?_
    refine gf_icmp_ne (t := 35) (q := 17) dX5_plays_14 (by decide) rfl ?_ ?_
    · refine gf_aload_n (i := 0) (q := 18) dX5_plays_17 rfl rfl rfl ?_
      refine gf_iload_n (i := 2) (q := 19) dX5_plays_18 rfl rfl rfl ?_
      refine gf_iconst (q := 20) dX5_plays_19 ki_1 rfl ?_
      refine gf_callV_i (n2 := 2) (As := [.int v2, .int 1]) (st := []) (b := 35) (ci := 5) (C := RX5) (q := 23) (hlen := rfl) rfl rfl kw887 kw889 kp33 dX5_plays_20 kw890 kw7 (by decide +kernel) (by decide) (Nat.le_of_ble_eq_true rfl) (C_X5_mayMove v2 1 u) rfl rfl (fun x5 => ?_)
      refine gf_if_eq (t := 35) (q := 26) dX5_plays_23 (by decide) rfl ?_ ?_
      · exact (T_X5_plays_35 v1 v2 x5.2)
      · refine gf_aload_n (i := 0) (q := 27) dX5_plays_26 rfl rfl rfl ?_
        refine gf_iload_n (i := 2) (q := 28) dX5_plays_27 rfl rfl rfl ?_
        refine gf_iconst (q := 29) dX5_plays_28 ki_1 rfl ?_
        refine gf_callV_v (n2 := 2) (As := [.int v2, .int 1]) (st := []) (b := 35) (ci := 5) (C := RX5) (q := 32) (hlen := rfl) rfl rfl kw891 kw893 kp34 dX5_plays_29 kw894 kw7 (by decide +kernel) (by decide) (Nat.le_of_ble_eq_true rfl) (C_X5_goes v2 1 x5.2) rfl rfl (fun x6 => ?_)
        refine gf_goto (q := 73) dX5_plays_32 (by decide) ?_
        exact gf_retv dX5_plays_73 rfl
    · exact (T_X5_plays_35 v1 v2 u)
theorem C_X5_plays (v1 : Int32) (v2 : Int32) (u : XM) : CF YY 6 yX5_plays cX5_plays 3 none [.ref 35, .int v1, .int v2] u emV (F_X5_plays v1 v2 u) := cf_of (by decide +kernel) (Nat.le_of_ble_eq_true rfl) rfl (T_X5_plays v1 v2 u)
def F_X5_lots_56 : Nat → Int32 → Int64 → Int32 → XM → Option (Int32 × XM)
  | 0, _, _, _, _ => none
  | n + 1, v1, v3, v5, u => (if v1 ≤ v5 then (if ain YY 0 43 6 = true then some ((mi u 43 (Int32.toNatClampNeg 6)), u) else none) else (if (Int32.toInt64 (mi u 35 4)) = 0 then none else (Option.bind (F_X5_plays (Int64.toInt32 ((((48271 * v3) - (48271 * v3) / 2147483647 * 2147483647) / 8) - (((48271 * v3) - (48271 * v3) / 2147483647 * 2147483647) / 8) / 4 * 4)) (Int64.toInt32 (((48271 * v3) - (48271 * v3) / 2147483647 * 2147483647) - ((48271 * v3) - (48271 * v3) / 2147483647 * 2147483647) / (Int32.toInt64 (mi u 35 4)) * (Int32.toInt64 (mi u 35 4)))) u) (fun x1 => F_X5_lots_56 n v1 ((48271 * v3) - (48271 * v3) / 2147483647 * 2147483647) (v5 + 1) x1.2))))
set_option maxRecDepth 20000 in
set_option maxHeartbeats 4000000 in
theorem T_X5_lots_56 : ∀ (n : Nat) (v1 : Int32) (v3 : Int64) (v5 : Int32) (u : XM), GF E0 YY 7 yX5_lots cX5_lots 6 (some .int) 56 [some (.ref 35), some (.int v1), none, some (.long v3), none, some (.int v5)] [] u emI (F_X5_lots_56 n v1 v3 v5 u) := by
  intro n
  induction n with
  | zero => intro v1 v3 v5 u; exact gf_none
  | succ n ih =>
    intro v1 v3 v5 u
    unfold F_X5_lots_56
    refine gf_iload (q := 58) dX5_lots_56 rfl rfl ?_
    refine gf_iload_n (i := 1) (q := 59) dX5_lots_58 rfl rfl rfl ?_
    refine gf_icmp_ge (t := 100) (q := 62) dX5_lots_59 (by decide) rfl ?_ ?_
    · refine gf_aload_n (i := 0) (q := 101) dX5_lots_100 rfl rfl rfl ?_
      refine gf_getA (C := RX5) (T := TX5) (N := 33) (ci := 5) (k := 35) (j := 9) (t := 43) (q := 104) dX5_lots_101 rfl rfl kin5 (by decide) kw613 rfl rfl ?_
      refine gf_bipush (q := 106) dX5_lots_104 kb_6 rfl ?_
      refine gf_iald (q := 107) dX5_lots_106 rfl ?_
      exact gf_reti dX5_lots_107 rfl
    · refine gf_ldc2 (q := 65) dX5_lots_62 kw1045 rfl ?_
      refine gf_lload_n (i := 3) (q := 66) dX5_lots_65 rfl rfl rfl ?_
      refine gf_lmul (q := 67) dX5_lots_66 rfl ?_
      refine gf_ldc2 (q := 70) dX5_lots_67 kw1046 rfl ?_
      refine gf_lrem_c (q := 71) dX5_lots_70 (by decide) rfl ?_
      refine gf_lstore_n (i := 3) (lv2 := [some (.ref 35), some (.int v1), none, some (.long ((48271 * v3) - (48271 * v3) / 2147483647 * 2147483647)), none, some (.int v5)]) (q := 72) dX5_lots_71 rfl (by decide) rfl rfl ?_
      refine gf_aload_n (i := 0) (q := 73) dX5_lots_72 rfl rfl rfl ?_
      refine gf_lload_n (i := 3) (q := 74) dX5_lots_73 rfl rfl rfl ?_
      refine gf_ldc2 (q := 77) dX5_lots_74 kw1047 rfl ?_
      refine gf_ldiv_c (q := 78) dX5_lots_77 (by decide) rfl ?_
      refine gf_ldc2 (q := 81) dX5_lots_78 kw799 rfl ?_
      refine gf_lrem_c (q := 82) dX5_lots_81 (by decide) rfl ?_
      refine gf_l2i (q := 83) dX5_lots_82 rfl ?_
      refine gf_lload_n (i := 3) (q := 84) dX5_lots_83 rfl rfl rfl ?_
      refine gf_aload_n (i := 0) (q := 85) dX5_lots_84 rfl rfl rfl ?_
      refine gf_getI (C := RX5) (T := TX5) (N := 33) (ci := 5) (k := 35) (j := 4) (q := 88) dX5_lots_85 rfl rfl kin5 (by decide) kw608 rfl rfl ?_
      refine gf_i2l (q := 89) dX5_lots_88 rfl ?_
      refine gf_lrem (q := 90) dX5_lots_89 rfl ?_
      refine gf_l2i (q := 91) dX5_lots_90 rfl ?_
      refine gf_callV_v (n2 := 2) (As := [.int (Int64.toInt32 ((((48271 * v3) - (48271 * v3) / 2147483647 * 2147483647) / 8) - (((48271 * v3) - (48271 * v3) / 2147483647 * 2147483647) / 8) / 4 * 4)), .int (Int64.toInt32 (((48271 * v3) - (48271 * v3) / 2147483647 * 2147483647) - ((48271 * v3) - (48271 * v3) / 2147483647 * 2147483647) / (Int32.toInt64 (mi u 35 4)) * (Int32.toInt64 (mi u 35 4))))]) (st := []) (b := 35) (ci := 5) (C := RX5) (q := 94) (hlen := rfl) rfl rfl kw1048 kw1050 kp49 dX5_lots_91 kw1051 kw7 (by decide +kernel) (by decide) (Nat.le_of_ble_eq_true rfl) (C_X5_plays (Int64.toInt32 ((((48271 * v3) - (48271 * v3) / 2147483647 * 2147483647) / 8) - (((48271 * v3) - (48271 * v3) / 2147483647 * 2147483647) / 8) / 4 * 4)) (Int64.toInt32 (((48271 * v3) - (48271 * v3) / 2147483647 * 2147483647) - ((48271 * v3) - (48271 * v3) / 2147483647 * 2147483647) / (Int32.toInt64 (mi u 35 4)) * (Int32.toInt64 (mi u 35 4)))) u) rfl rfl (fun x1 => ?_)
      refine gf_iinc (v := (v5 + 1)) (lv2 := [some (.ref 35), some (.int v1), none, some (.long ((48271 * v3) - (48271 * v3) / 2147483647 * 2147483647)), none, some (.int (v5 + 1))]) (q := 97) dX5_lots_94 rfl (congrArg _ ki_1) (by decide) rfl rfl ?_
      refine gf_goto (q := 56) dX5_lots_97 (by decide) ?_
      exact (ih v1 ((48271 * v3) - (48271 * v3) / 2147483647 * 2147483647) (v5 + 1) x1.2)
def F_X5_lots (v1 : Int32) (v2 : Int32) (u : XM) : Option (Int32 × XM) := (Option.bind (F_X5_in (Int32.toInt64 v1) 1 20 u) (fun x2 => (if x2.1 = 0 then some ((-1), x2.2) else (Option.bind (F_X5_in (Int32.toInt64 v2) 1 2147483646 x2.2) (fun x3 => (if x3.1 = 0 then some ((-1), x3.2) else (if (mi x3.2 35 4) = 0 then some ((-4), x3.2) else (if ((mi x3.2 35 10) + v1) ≤ 40 then F_X5_lots_56 FU v1 (Int32.toInt64 v2) 0 x3.2 else some ((-2), x3.2)))))))))
set_option maxRecDepth 20000 in
set_option maxHeartbeats 4000000 in
theorem T_X5_lots (v1 : Int32) (v2 : Int32) (u : XM) : GF E0 YY 7 yX5_lots cX5_lots 6 (some .int) 0 [some (.ref 35), some (.int v1), some (.int v2), none, none, none] [] u emI (F_X5_lots v1 v2 u) := by
  unfold F_X5_lots
  refine gf_iload_n (i := 1) (q := 1) dX5_lots_0 rfl rfl rfl ?_
  refine gf_i2l (q := 2) dX5_lots_1 rfl ?_
  refine gf_lconst (v := 1) (q := 3) dX5_lots_2 rfl rfl ?_
  refine gf_ldc2 (q := 6) dX5_lots_3 kw940 rfl ?_
  refine gf_callS_i (n2 := 3) (As := [.long (Int32.toInt64 v1), .long 1, .long 20]) (st := []) (q := 9) (hlen := rfl) kw713 kw714 dX5_lots_6 kw715 kw7 (by decide +kernel) (by decide) (Nat.le_of_ble_eq_true rfl) (C_X5_in (Int32.toInt64 v1) 1 20 u) rfl rfl (fun x2 => ?_)
  refine gf_if_eq (t := 24) (q := 12) dX5_lots_9 (by decide) rfl ?_ ?_
  · refine gf_iconst (q := 25) dX5_lots_24 ki_m1 rfl ?_
    exact gf_reti dX5_lots_25 rfl
  · refine gf_iload_n (i := 2) (q := 13) dX5_lots_12 rfl rfl rfl ?_
    refine gf_i2l (q := 14) dX5_lots_13 rfl ?_
    refine gf_lconst (v := 1) (q := 15) dX5_lots_14 rfl rfl ?_
    refine gf_ldc2 (q := 18) dX5_lots_15 kw1044 rfl ?_
    refine gf_callS_i (n2 := 3) (As := [.long (Int32.toInt64 v2), .long 1, .long 2147483646]) (st := []) (q := 21) (hlen := rfl) kw713 kw714 dX5_lots_18 kw715 kw7 (by decide +kernel) (by decide) (Nat.le_of_ble_eq_true rfl) (C_X5_in (Int32.toInt64 v2) 1 2147483646 x2.2) rfl rfl (fun x3 => ?_)
    refine gf_if_ne (t := 26) (q := 24) dX5_lots_21 (by decide) rfl ?_ ?_
    · refine gf_iconst (q := 25) dX5_lots_24 ki_m1 rfl ?_
      exact gf_reti dX5_lots_25 rfl
    · refine gf_aload_n (i := 0) (q := 27) dX5_lots_26 rfl rfl rfl ?_
      refine gf_getI (C := RX5) (T := TX5) (N := 33) (ci := 5) (k := 35) (j := 4) (q := 30) dX5_lots_27 rfl rfl kin5 (by decide) kw608 rfl rfl ?_
      refine gf_if_ne (t := 36) (q := 33) dX5_lots_30 (by decide) rfl ?_ ?_
      · refine gf_bipush (q := 35) dX5_lots_33 kb_m4 rfl ?_
        exact gf_reti dX5_lots_35 rfl
      · refine gf_aload_n (i := 0) (q := 37) dX5_lots_36 rfl rfl rfl ?_
        refine gf_getI (C := RX5) (T := TX5) (N := 33) (ci := 5) (k := 35) (j := 10) (q := 40) dX5_lots_37 rfl rfl kin5 (by decide) kw614 rfl rfl ?_
        refine gf_iload_n (i := 1) (q := 41) dX5_lots_40 rfl rfl rfl ?_
        refine gf_iadd (q := 42) dX5_lots_41 rfl ?_
        refine gf_bipush (q := 44) dX5_lots_42 kb_40 rfl ?_
        refine gf_icmp_le (t := 50) (q := 47) dX5_lots_44 (by decide) rfl ?_ ?_
        · refine gf_iload_n (i := 2) (q := 51) dX5_lots_50 rfl rfl rfl ?_
          refine gf_i2l (q := 52) dX5_lots_51 rfl ?_
          refine gf_lstore_n (i := 3) (lv2 := [some (.ref 35), some (.int v1), some (.int v2), some (.long (Int32.toInt64 v2)), none, none]) (q := 53) dX5_lots_52 rfl (by decide) rfl rfl ?_
          refine gf_iconst (q := 54) dX5_lots_53 ki_0 rfl ?_
          refine gf_istore (lv2 := [some (.ref 35), some (.int v1), some (.int v2), some (.long (Int32.toInt64 v2)), none, some (.int 0)]) (q := 56) dX5_lots_54 (by decide) rfl rfl ?_
          exact gf_mask (b := [true, true, false, true, false, true]) rfl (T_X5_lots_56 FU v1 (Int32.toInt64 v2) 0 x3.2)
        · refine gf_bipush (q := 49) dX5_lots_47 kb_m2 rfl ?_
          exact gf_reti dX5_lots_49 rfl
theorem C_X5_lots (v1 : Int32) (v2 : Int32) (u : XM) : CF YY 7 yX5_lots cX5_lots 6 (some .int) [.ref 35, .int v1, .int v2] u emI (F_X5_lots v1 v2 u) := cf_of (by decide +kernel) (Nat.le_of_ble_eq_true rfl) rfl (T_X5_lots v1 v2 u)
def F_X5_asked  (u : XM) : Option (Int32 × XM) := some ((mi u 35 14), u)
set_option maxRecDepth 20000 in
set_option maxHeartbeats 4000000 in
theorem T_X5_asked  (u : XM) : GF E0 YY 1 yX5_asked cX5_asked 1 (some .int) 0 [some (.ref 35)] [] u emI (F_X5_asked u) := by
  unfold F_X5_asked
  refine gf_aload_n (i := 0) (q := 1) dX5_asked_0 rfl rfl rfl ?_
  refine gf_getI (C := RX5) (T := TX5) (N := 33) (ci := 5) (k := 35) (j := 14) (q := 4) dX5_asked_1 rfl rfl kin5 (by decide) kw618 rfl rfl ?_
  exact gf_reti dX5_asked_4 rfl
theorem C_X5_asked  (u : XM) : CF YY 1 yX5_asked cX5_asked 1 (some .int) [.ref 35] u emI (F_X5_asked u) := cf_of (by decide +kernel) (Nat.le_of_ble_eq_true rfl) rfl (T_X5_asked u)
def F_X5_upper  (u : XM) : Option (Int64 × XM) := some ((ml u 35 15), u)
set_option maxRecDepth 20000 in
set_option maxHeartbeats 4000000 in
theorem T_X5_upper  (u : XM) : GF E0 YY 1 yX5_upper cX5_upper 1 (some .long) 0 [some (.ref 35)] [] u emL (F_X5_upper u) := by
  unfold F_X5_upper
  refine gf_aload_n (i := 0) (q := 1) dX5_upper_0 rfl rfl rfl ?_
  refine gf_getL (C := RX5) (T := TX5) (N := 33) (ci := 5) (k := 35) (j := 15) (q := 4) dX5_upper_1 rfl rfl kin5 (by decide) kw619 rfl rfl ?_
  exact gf_retl dX5_upper_4 rfl
theorem C_X5_upper  (u : XM) : CF YY 1 yX5_upper cX5_upper 1 (some .long) [.ref 35] u emL (F_X5_upper u) := cf_of (by decide +kernel) (Nat.le_of_ble_eq_true rfl) rfl (T_X5_upper u)
def F_X5_lower  (u : XM) : Option (Int64 × XM) := some ((ml u 35 16), u)
set_option maxRecDepth 20000 in
set_option maxHeartbeats 4000000 in
theorem T_X5_lower  (u : XM) : GF E0 YY 1 yX5_lower cX5_lower 1 (some .long) 0 [some (.ref 35)] [] u emL (F_X5_lower u) := by
  unfold F_X5_lower
  refine gf_aload_n (i := 0) (q := 1) dX5_lower_0 rfl rfl rfl ?_
  refine gf_getL (C := RX5) (T := TX5) (N := 33) (ci := 5) (k := 35) (j := 16) (q := 4) dX5_lower_1 rfl rfl kin5 (by decide) kw620 rfl rfl ?_
  exact gf_retl dX5_lower_4 rfl
theorem C_X5_lower  (u : XM) : CF YY 1 yX5_lower cX5_lower 1 (some .long) [.ref 35] u emL (F_X5_lower u) := cf_of (by decide +kernel) (Nat.le_of_ble_eq_true rfl) rfl (T_X5_lower u)
def F_X5_counted_150 (v1 : Int32) (v2 : Int32) (u : XM) : Option (Int32 × XM) := (tsw v1 0 [some ((mi u 35 4), u), (if ain YY 0 43 7 = true then some ((mi u 43 (Int32.toNatClampNeg 7)), u) else none), some ((mi u 35 10), u), (if ain YY 0 43 6 = true then some ((mi u 43 (Int32.toNatClampNeg 6)), u) else none), some ((mi u 35 5), u), some (v2, u), (Option.bind (F_X5_kindsOf 1 u) (fun x1 => some (x1.1, x1.2))), (Option.bind (F_X5_kindsOf 2 u) (fun x2 => some (x2.1, x2.2)))] (some (v2, u)))
set_option maxRecDepth 20000 in
set_option maxHeartbeats 4000000 in
theorem T_X5_counted_150 (v1 : Int32) (v2 : Int32) (u : XM) : GF E0 YY 3 yX5_counted cX5_counted 4 (some .int) 150 [some (.ref 35), some (.int v1), some (.int v2), none] [] u emI (F_X5_counted_150 v1 v2 u) := by
  unfold F_X5_counted_150
  refine gf_iload_n (i := 1) (q := 151) dX5_counted_150 rfl rfl rfl ?_
  refine gf_tsw (ts := [196, 201, 209, 214, 222, 239, 227, 233]) (t0 := 239) dX5_counted_151 (by decide +kernel) (xsw_c ?_ (xsw_c ?_ (xsw_c ?_ (xsw_c ?_ (xsw_c ?_ (xsw_c ?_ (xsw_c ?_ (xsw_c ?_ (xsw_n))))))))) ?_
  · refine gf_aload_n (i := 0) (q := 197) dX5_counted_196 rfl rfl rfl ?_
    refine gf_getI (C := RX5) (T := TX5) (N := 33) (ci := 5) (k := 35) (j := 4) (q := 200) dX5_counted_197 rfl rfl kin5 (by decide) kw608 rfl rfl ?_
    exact gf_reti dX5_counted_200 rfl
  · refine gf_aload_n (i := 0) (q := 202) dX5_counted_201 rfl rfl rfl ?_
    refine gf_getA (C := RX5) (T := TX5) (N := 33) (ci := 5) (k := 35) (j := 9) (t := 43) (q := 205) dX5_counted_202 rfl rfl kin5 (by decide) kw613 rfl rfl ?_
    refine gf_bipush (q := 207) dX5_counted_205 kb_7 rfl ?_
    refine gf_iald (q := 208) dX5_counted_207 rfl ?_
    exact gf_reti dX5_counted_208 rfl
  · refine gf_aload_n (i := 0) (q := 210) dX5_counted_209 rfl rfl rfl ?_
    refine gf_getI (C := RX5) (T := TX5) (N := 33) (ci := 5) (k := 35) (j := 10) (q := 213) dX5_counted_210 rfl rfl kin5 (by decide) kw614 rfl rfl ?_
    exact gf_reti dX5_counted_213 rfl
  · refine gf_aload_n (i := 0) (q := 215) dX5_counted_214 rfl rfl rfl ?_
    refine gf_getA (C := RX5) (T := TX5) (N := 33) (ci := 5) (k := 35) (j := 9) (t := 43) (q := 218) dX5_counted_215 rfl rfl kin5 (by decide) kw613 rfl rfl ?_
    refine gf_bipush (q := 220) dX5_counted_218 kb_6 rfl ?_
    refine gf_iald (q := 221) dX5_counted_220 rfl ?_
    exact gf_reti dX5_counted_221 rfl
  · refine gf_aload_n (i := 0) (q := 223) dX5_counted_222 rfl rfl rfl ?_
    refine gf_getI (C := RX5) (T := TX5) (N := 33) (ci := 5) (k := 35) (j := 5) (q := 226) dX5_counted_223 rfl rfl kin5 (by decide) kw609 rfl rfl ?_
    exact gf_reti dX5_counted_226 rfl
  · refine gf_iload_n (i := 2) (q := 240) dX5_counted_239 rfl rfl rfl ?_
    exact gf_reti dX5_counted_240 rfl
  · refine gf_aload_n (i := 0) (q := 228) dX5_counted_227 rfl rfl rfl ?_
    refine gf_iconst (q := 229) dX5_counted_228 ki_1 rfl ?_
    refine gf_callV_i (n2 := 1) (As := [.int 1]) (st := []) (b := 35) (ci := 5) (C := RX5) (q := 232) (hlen := rfl) rfl rfl kw826 kw828 kp25 dX5_counted_229 kw829 kw7 (by decide +kernel) (by decide) (Nat.le_of_ble_eq_true rfl) (C_X5_kindsOf 1 u) rfl rfl (fun x1 => ?_)
    exact gf_reti dX5_counted_232 rfl
  · refine gf_aload_n (i := 0) (q := 234) dX5_counted_233 rfl rfl rfl ?_
    refine gf_iconst (q := 235) dX5_counted_234 ki_2 rfl ?_
    refine gf_callV_i (n2 := 1) (As := [.int 2]) (st := []) (b := 35) (ci := 5) (C := RX5) (q := 238) (hlen := rfl) rfl rfl kw826 kw828 kp25 dX5_counted_235 kw829 kw7 (by decide +kernel) (by decide) (Nat.le_of_ble_eq_true rfl) (C_X5_kindsOf 2 u) rfl rfl (fun x2 => ?_)
    exact gf_reti dX5_counted_238 rfl
  · refine gf_iload_n (i := 2) (q := 240) dX5_counted_239 rfl rfl rfl ?_
    exact gf_reti dX5_counted_240 rfl
def F_X5_counted_142 (k116 : Int32 → Int32 → Int32 → XM → Option (Int32 × XM)) (v1 : Int32) (v3 : Int32) (s0 : Int32) (s1 : Int32) (u : XM) : Option (Int32 × XM) := k116 v1 (s1 + s0) (v3 + 1) u
set_option maxRecDepth 20000 in
set_option maxHeartbeats 4000000 in
theorem T_X5_counted_142 (k116 : Int32 → Int32 → Int32 → XM → Option (Int32 × XM)) (hk116 : ∀ (v1 : Int32) (v2 : Int32) (v3 : Int32) (u : XM), GF E0 YY 3 yX5_counted cX5_counted 4 (some .int) 116 [some (.ref 35), some (.int v1), some (.int v2), some (.int v3)] [] u emI (k116 v1 v2 v3 u)) (v1 : Int32) (v3 : Int32) (s0 : Int32) (s1 : Int32) (u : XM) : GF E0 YY 3 yX5_counted cX5_counted 4 (some .int) 142 [some (.ref 35), some (.int v1), none, some (.int v3)] [.int s0, .int s1] u emI (F_X5_counted_142 k116 v1 v3 s0 s1 u) := by
  unfold F_X5_counted_142
  refine gf_iadd (q := 143) dX5_counted_142 rfl ?_
  refine gf_istore_n (i := 2) (lv2 := [some (.ref 35), some (.int v1), some (.int (s1 + s0)), some (.int v3)]) (q := 144) dX5_counted_143 rfl (by decide) rfl rfl ?_
  refine gf_iinc (v := (v3 + 1)) (lv2 := [some (.ref 35), some (.int v1), some (.int (s1 + s0)), some (.int (v3 + 1))]) (q := 147) dX5_counted_144 rfl (congrArg _ ki_1) (by decide) rfl rfl ?_
  refine gf_goto (q := 116) dX5_counted_147 (by decide) ?_
  exact (hk116 v1 (s1 + s0) (v3 + 1) u)
def F_X5_counted_116 : Nat → Int32 → Int32 → Int32 → XM → Option (Int32 × XM)
  | 0, _, _, _, _ => none
  | n + 1, v1, v2, v3, u => (if 3 ≤ v3 then F_X5_counted_150 v1 v2 u else (if v1 = 10 then (if ain YY 2 46 v3 = true then (if (mi u 46 (Int32.toNatClampNeg v3)) = 0 then F_X5_counted_142 (F_X5_counted_116 n) v1 v3 0 v2 u else F_X5_counted_142 (F_X5_counted_116 n) v1 v3 1 v2 u) else none) else F_X5_counted_150 v1 v2 u))
set_option maxRecDepth 20000 in
set_option maxHeartbeats 4000000 in
theorem T_X5_counted_116 : ∀ (n : Nat) (v1 : Int32) (v2 : Int32) (v3 : Int32) (u : XM), GF E0 YY 3 yX5_counted cX5_counted 4 (some .int) 116 [some (.ref 35), some (.int v1), some (.int v2), some (.int v3)] [] u emI (F_X5_counted_116 n v1 v2 v3 u) := by
  intro n
  induction n with
  | zero => intro v1 v2 v3 u; exact gf_none
  | succ n ih =>
    intro v1 v2 v3 u
    unfold F_X5_counted_116
    refine gf_iload_n (i := 3) (q := 117) dX5_counted_116 rfl rfl rfl ?_
    refine gf_iconst (q := 118) dX5_counted_117 ki_3 rfl ?_
    refine gf_icmp_ge (t := 150) (q := 121) dX5_counted_118 (by decide) rfl ?_ ?_
    · exact gf_mask (b := [true, true, true, false]) rfl (T_X5_counted_150 v1 v2 u)
    · refine gf_iload_n (i := 1) (q := 122) dX5_counted_121 rfl rfl rfl ?_
      refine gf_bipush (q := 124) dX5_counted_122 kb_10 rfl ?_
      refine gf_icmp_ne (t := 150) (q := 127) dX5_counted_124 (by decide) rfl ?_ ?_
      · refine gf_iload_n (i := 2) (q := 128) dX5_counted_127 rfl rfl rfl ?_
        refine gf_aload_n (i := 0) (q := 129) dX5_counted_128 rfl rfl rfl ?_
        refine gf_getA (C := RX5) (T := TX5) (N := 33) (ci := 5) (k := 35) (j := 13) (t := 46) (q := 132) dX5_counted_129 rfl rfl kin5 (by decide) kw617 rfl rfl ?_
        refine gf_iload_n (i := 3) (q := 133) dX5_counted_132 rfl rfl rfl ?_
        refine gf_zald (q := 134) dX5_counted_133 rfl ?_
        refine gf_if_eq (t := 141) (q := 137) dX5_counted_134 (by decide) rfl ?_ ?_
        · refine gf_iconst (q := 142) dX5_counted_141 ki_0 rfl ?_
          exact gf_mask (b := [true, true, false, true]) rfl (T_X5_counted_142 (F_X5_counted_116 n) ih v1 v3 0 v2 u)
        · refine gf_iconst (q := 138) dX5_counted_137 ki_1 rfl ?_
          refine gf_goto (q := 142) dX5_counted_138 (by decide) ?_
          exact gf_mask (b := [true, true, false, true]) rfl (T_X5_counted_142 (F_X5_counted_116 n) ih v1 v3 1 v2 u)
      · exact gf_mask (b := [true, true, true, false]) rfl (T_X5_counted_150 v1 v2 u)
def F_X5_counted_114 (v1 : Int32) (v2 : Int32) (u : XM) : Option (Int32 × XM) := F_X5_counted_116 FU v1 v2 0 u
set_option maxRecDepth 20000 in
set_option maxHeartbeats 4000000 in
theorem T_X5_counted_114 (v1 : Int32) (v2 : Int32) (u : XM) : GF E0 YY 3 yX5_counted cX5_counted 4 (some .int) 114 [some (.ref 35), some (.int v1), some (.int v2), none] [] u emI (F_X5_counted_114 v1 v2 u) := by
  unfold F_X5_counted_114
  refine gf_iconst (q := 115) dX5_counted_114 ki_0 rfl ?_
  refine gf_istore_n (i := 3) (lv2 := [some (.ref 35), some (.int v1), some (.int v2), some (.int 0)]) (q := 116) dX5_counted_115 rfl (by decide) rfl rfl ?_
  exact (T_X5_counted_116 FU v1 v2 0 u)
def F_X5_counted_106 (k80 : Int32 → Int32 → Int32 → XM → Option (Int32 × XM)) (v1 : Int32) (v3 : Int32) (s0 : Int32) (s1 : Int32) (u : XM) : Option (Int32 × XM) := k80 v1 (s1 + s0) (v3 + 1) u
set_option maxRecDepth 20000 in
set_option maxHeartbeats 4000000 in
theorem T_X5_counted_106 (k80 : Int32 → Int32 → Int32 → XM → Option (Int32 × XM)) (hk80 : ∀ (v1 : Int32) (v2 : Int32) (v3 : Int32) (u : XM), GF E0 YY 3 yX5_counted cX5_counted 4 (some .int) 80 [some (.ref 35), some (.int v1), some (.int v2), some (.int v3)] [] u emI (k80 v1 v2 v3 u)) (v1 : Int32) (v3 : Int32) (s0 : Int32) (s1 : Int32) (u : XM) : GF E0 YY 3 yX5_counted cX5_counted 4 (some .int) 106 [some (.ref 35), some (.int v1), none, some (.int v3)] [.int s0, .int s1] u emI (F_X5_counted_106 k80 v1 v3 s0 s1 u) := by
  unfold F_X5_counted_106
  refine gf_iadd (q := 107) dX5_counted_106 rfl ?_
  refine gf_istore_n (i := 2) (lv2 := [some (.ref 35), some (.int v1), some (.int (s1 + s0)), some (.int v3)]) (q := 108) dX5_counted_107 rfl (by decide) rfl rfl ?_
  refine gf_iinc (v := (v3 + 1)) (lv2 := [some (.ref 35), some (.int v1), some (.int (s1 + s0)), some (.int (v3 + 1))]) (q := 111) dX5_counted_108 rfl (congrArg _ ki_1) (by decide) rfl rfl ?_
  refine gf_goto (q := 80) dX5_counted_111 (by decide) ?_
  exact (hk80 v1 (s1 + s0) (v3 + 1) u)
def F_X5_counted_80 : Nat → Int32 → Int32 → Int32 → XM → Option (Int32 × XM)
  | 0, _, _, _, _ => none
  | n + 1, v1, v2, v3, u => (if 4 ≤ v3 then F_X5_counted_114 v1 v2 u else (if v1 = 9 then (if ain YY 0 38 v3 = true then (if 0 ≤ (mi u 38 (Int32.toNatClampNeg v3)) then F_X5_counted_106 (F_X5_counted_80 n) v1 v3 1 v2 u else F_X5_counted_106 (F_X5_counted_80 n) v1 v3 0 v2 u) else none) else F_X5_counted_114 v1 v2 u))
set_option maxRecDepth 20000 in
set_option maxHeartbeats 4000000 in
theorem T_X5_counted_80 : ∀ (n : Nat) (v1 : Int32) (v2 : Int32) (v3 : Int32) (u : XM), GF E0 YY 3 yX5_counted cX5_counted 4 (some .int) 80 [some (.ref 35), some (.int v1), some (.int v2), some (.int v3)] [] u emI (F_X5_counted_80 n v1 v2 v3 u) := by
  intro n
  induction n with
  | zero => intro v1 v2 v3 u; exact gf_none
  | succ n ih =>
    intro v1 v2 v3 u
    unfold F_X5_counted_80
    refine gf_iload_n (i := 3) (q := 81) dX5_counted_80 rfl rfl rfl ?_
    refine gf_iconst (q := 82) dX5_counted_81 ki_4 rfl ?_
    refine gf_icmp_ge (t := 114) (q := 85) dX5_counted_82 (by decide) rfl ?_ ?_
    · exact gf_mask (b := [true, true, true, false]) rfl (T_X5_counted_114 v1 v2 u)
    · refine gf_iload_n (i := 1) (q := 86) dX5_counted_85 rfl rfl rfl ?_
      refine gf_bipush (q := 88) dX5_counted_86 kb_9 rfl ?_
      refine gf_icmp_ne (t := 114) (q := 91) dX5_counted_88 (by decide) rfl ?_ ?_
      · refine gf_iload_n (i := 2) (q := 92) dX5_counted_91 rfl rfl rfl ?_
        refine gf_aload_n (i := 0) (q := 93) dX5_counted_92 rfl rfl rfl ?_
        refine gf_getA (C := RX5) (T := TX5) (N := 33) (ci := 5) (k := 35) (j := 2) (t := 38) (q := 96) dX5_counted_93 rfl rfl kin5 (by decide) kw606 rfl rfl ?_
        refine gf_iload_n (i := 3) (q := 97) dX5_counted_96 rfl rfl rfl ?_
        refine gf_iald (q := 98) dX5_counted_97 rfl ?_
        refine gf_if_ge (t := 105) (q := 101) dX5_counted_98 (by decide) rfl ?_ ?_
        · refine gf_iconst (q := 106) dX5_counted_105 ki_1 rfl ?_
          exact gf_mask (b := [true, true, false, true]) rfl (T_X5_counted_106 (F_X5_counted_80 n) ih v1 v3 1 v2 u)
        · refine gf_iconst (q := 102) dX5_counted_101 ki_0 rfl ?_
          refine gf_goto (q := 106) dX5_counted_102 (by decide) ?_
          exact gf_mask (b := [true, true, false, true]) rfl (T_X5_counted_106 (F_X5_counted_80 n) ih v1 v3 0 v2 u)
      · exact gf_mask (b := [true, true, true, false]) rfl (T_X5_counted_114 v1 v2 u)
def F_X5_counted_78 (v1 : Int32) (v2 : Int32) (u : XM) : Option (Int32 × XM) := F_X5_counted_80 FU v1 v2 0 u
set_option maxRecDepth 20000 in
set_option maxHeartbeats 4000000 in
theorem T_X5_counted_78 (v1 : Int32) (v2 : Int32) (u : XM) : GF E0 YY 3 yX5_counted cX5_counted 4 (some .int) 78 [some (.ref 35), some (.int v1), some (.int v2), none] [] u emI (F_X5_counted_78 v1 v2 u) := by
  unfold F_X5_counted_78
  refine gf_iconst (q := 79) dX5_counted_78 ki_0 rfl ?_
  refine gf_istore_n (i := 3) (lv2 := [some (.ref 35), some (.int v1), some (.int v2), some (.int 0)]) (q := 80) dX5_counted_79 rfl (by decide) rfl rfl ?_
  exact (T_X5_counted_80 FU v1 v2 0 u)
def F_X5_counted_70 (k43 : Int32 → Int32 → Int32 → XM → Option (Int32 × XM)) (v1 : Int32) (v3 : Int32) (s0 : Int32) (s1 : Int32) (u : XM) : Option (Int32 × XM) := k43 v1 (s1 + s0) (v3 + 1) u
set_option maxRecDepth 20000 in
set_option maxHeartbeats 4000000 in
theorem T_X5_counted_70 (k43 : Int32 → Int32 → Int32 → XM → Option (Int32 × XM)) (hk43 : ∀ (v1 : Int32) (v2 : Int32) (v3 : Int32) (u : XM), GF E0 YY 3 yX5_counted cX5_counted 4 (some .int) 43 [some (.ref 35), some (.int v1), some (.int v2), some (.int v3)] [] u emI (k43 v1 v2 v3 u)) (v1 : Int32) (v3 : Int32) (s0 : Int32) (s1 : Int32) (u : XM) : GF E0 YY 3 yX5_counted cX5_counted 4 (some .int) 70 [some (.ref 35), some (.int v1), none, some (.int v3)] [.int s0, .int s1] u emI (F_X5_counted_70 k43 v1 v3 s0 s1 u) := by
  unfold F_X5_counted_70
  refine gf_iadd (q := 71) dX5_counted_70 rfl ?_
  refine gf_istore_n (i := 2) (lv2 := [some (.ref 35), some (.int v1), some (.int (s1 + s0)), some (.int v3)]) (q := 72) dX5_counted_71 rfl (by decide) rfl rfl ?_
  refine gf_iinc (v := (v3 + 1)) (lv2 := [some (.ref 35), some (.int v1), some (.int (s1 + s0)), some (.int (v3 + 1))]) (q := 75) dX5_counted_72 rfl (congrArg _ ki_1) (by decide) rfl rfl ?_
  refine gf_goto (q := 43) dX5_counted_75 (by decide) ?_
  exact (hk43 v1 (s1 + s0) (v3 + 1) u)
def F_X5_counted_43 : Nat → Int32 → Int32 → Int32 → XM → Option (Int32 × XM)
  | 0, _, _, _, _ => none
  | n + 1, v1, v2, v3, u => (if 6 ≤ v3 then F_X5_counted_78 v1 v2 u else (if v1 = 8 then (if ain YY 0 36 v3 = true then (if 0 ≤ (mi u 36 (Int32.toNatClampNeg v3)) then F_X5_counted_70 (F_X5_counted_43 n) v1 v3 1 v2 u else F_X5_counted_70 (F_X5_counted_43 n) v1 v3 0 v2 u) else none) else F_X5_counted_78 v1 v2 u))
set_option maxRecDepth 20000 in
set_option maxHeartbeats 4000000 in
theorem T_X5_counted_43 : ∀ (n : Nat) (v1 : Int32) (v2 : Int32) (v3 : Int32) (u : XM), GF E0 YY 3 yX5_counted cX5_counted 4 (some .int) 43 [some (.ref 35), some (.int v1), some (.int v2), some (.int v3)] [] u emI (F_X5_counted_43 n v1 v2 v3 u) := by
  intro n
  induction n with
  | zero => intro v1 v2 v3 u; exact gf_none
  | succ n ih =>
    intro v1 v2 v3 u
    unfold F_X5_counted_43
    refine gf_iload_n (i := 3) (q := 44) dX5_counted_43 rfl rfl rfl ?_
    refine gf_bipush (q := 46) dX5_counted_44 kb_6 rfl ?_
    refine gf_icmp_ge (t := 78) (q := 49) dX5_counted_46 (by decide) rfl ?_ ?_
    · exact gf_mask (b := [true, true, true, false]) rfl (T_X5_counted_78 v1 v2 u)
    · refine gf_iload_n (i := 1) (q := 50) dX5_counted_49 rfl rfl rfl ?_
      refine gf_bipush (q := 52) dX5_counted_50 kb_8 rfl ?_
      refine gf_icmp_ne (t := 78) (q := 55) dX5_counted_52 (by decide) rfl ?_ ?_
      · refine gf_iload_n (i := 2) (q := 56) dX5_counted_55 rfl rfl rfl ?_
        refine gf_aload_n (i := 0) (q := 57) dX5_counted_56 rfl rfl rfl ?_
        refine gf_getA (C := RX5) (T := TX5) (N := 33) (ci := 5) (k := 35) (j := 0) (t := 36) (q := 60) dX5_counted_57 rfl rfl kin5 (by decide) kw604 rfl rfl ?_
        refine gf_iload_n (i := 3) (q := 61) dX5_counted_60 rfl rfl rfl ?_
        refine gf_iald (q := 62) dX5_counted_61 rfl ?_
        refine gf_if_ge (t := 69) (q := 65) dX5_counted_62 (by decide) rfl ?_ ?_
        · refine gf_iconst (q := 70) dX5_counted_69 ki_1 rfl ?_
          exact gf_mask (b := [true, true, false, true]) rfl (T_X5_counted_70 (F_X5_counted_43 n) ih v1 v3 1 v2 u)
        · refine gf_iconst (q := 66) dX5_counted_65 ki_0 rfl ?_
          refine gf_goto (q := 70) dX5_counted_66 (by decide) ?_
          exact gf_mask (b := [true, true, false, true]) rfl (T_X5_counted_70 (F_X5_counted_43 n) ih v1 v3 0 v2 u)
      · exact gf_mask (b := [true, true, true, false]) rfl (T_X5_counted_78 v1 v2 u)
def F_X5_counted_41 (v1 : Int32) (v2 : Int32) (u : XM) : Option (Int32 × XM) := F_X5_counted_43 FU v1 v2 0 u
set_option maxRecDepth 20000 in
set_option maxHeartbeats 4000000 in
theorem T_X5_counted_41 (v1 : Int32) (v2 : Int32) (u : XM) : GF E0 YY 3 yX5_counted cX5_counted 4 (some .int) 41 [some (.ref 35), some (.int v1), some (.int v2), none] [] u emI (F_X5_counted_41 v1 v2 u) := by
  unfold F_X5_counted_41
  refine gf_iconst (q := 42) dX5_counted_41 ki_0 rfl ?_
  refine gf_istore_n (i := 3) (lv2 := [some (.ref 35), some (.int v1), some (.int v2), some (.int 0)]) (q := 43) dX5_counted_42 rfl (by decide) rfl rfl ?_
  exact (T_X5_counted_43 FU v1 v2 0 u)
def F_X5_counted_33 (k4 : Int32 → Int32 → Int32 → XM → Option (Int32 × XM)) (v1 : Int32) (v3 : Int32) (s0 : Int32) (s1 : Int32) (u : XM) : Option (Int32 × XM) := k4 v1 (s1 ||| s0) (v3 + 1) u
set_option maxRecDepth 20000 in
set_option maxHeartbeats 4000000 in
theorem T_X5_counted_33 (k4 : Int32 → Int32 → Int32 → XM → Option (Int32 × XM)) (hk4 : ∀ (v1 : Int32) (v2 : Int32) (v3 : Int32) (u : XM), GF E0 YY 3 yX5_counted cX5_counted 4 (some .int) 4 [some (.ref 35), some (.int v1), some (.int v2), some (.int v3)] [] u emI (k4 v1 v2 v3 u)) (v1 : Int32) (v3 : Int32) (s0 : Int32) (s1 : Int32) (u : XM) : GF E0 YY 3 yX5_counted cX5_counted 4 (some .int) 33 [some (.ref 35), some (.int v1), none, some (.int v3)] [.int s0, .int s1] u emI (F_X5_counted_33 k4 v1 v3 s0 s1 u) := by
  unfold F_X5_counted_33
  refine gf_ior (q := 34) dX5_counted_33 rfl ?_
  refine gf_istore_n (i := 2) (lv2 := [some (.ref 35), some (.int v1), some (.int (s1 ||| s0)), some (.int v3)]) (q := 35) dX5_counted_34 rfl (by decide) rfl rfl ?_
  refine gf_iinc (v := (v3 + 1)) (lv2 := [some (.ref 35), some (.int v1), some (.int (s1 ||| s0)), some (.int (v3 + 1))]) (q := 38) dX5_counted_35 rfl (congrArg _ ki_1) (by decide) rfl rfl ?_
  refine gf_goto (q := 4) dX5_counted_38 (by decide) ?_
  exact (hk4 v1 (s1 ||| s0) (v3 + 1) u)
def F_X5_counted_4 : Nat → Int32 → Int32 → Int32 → XM → Option (Int32 × XM)
  | 0, _, _, _, _ => none
  | n + 1, v1, v2, v3, u => (if (mi u 35 4) ≤ v3 then F_X5_counted_41 v1 v2 u else (if v1 = 5 then (Option.bind (F_X5_isTaken v3 u) (fun x3 => (if x3.1 = 0 then F_X5_counted_33 (F_X5_counted_4 n) v1 v3 0 v2 x3.2 else F_X5_counted_33 (F_X5_counted_4 n) v1 v3 (1 <<< (v3 &&& 31)) v2 x3.2))) else F_X5_counted_41 v1 v2 u))
set_option maxRecDepth 20000 in
set_option maxHeartbeats 4000000 in
theorem T_X5_counted_4 : ∀ (n : Nat) (v1 : Int32) (v2 : Int32) (v3 : Int32) (u : XM), GF E0 YY 3 yX5_counted cX5_counted 4 (some .int) 4 [some (.ref 35), some (.int v1), some (.int v2), some (.int v3)] [] u emI (F_X5_counted_4 n v1 v2 v3 u) := by
  intro n
  induction n with
  | zero => intro v1 v2 v3 u; exact gf_none
  | succ n ih =>
    intro v1 v2 v3 u
    unfold F_X5_counted_4
    refine gf_iload_n (i := 3) (q := 5) dX5_counted_4 rfl rfl rfl ?_
    refine gf_aload_n (i := 0) (q := 6) dX5_counted_5 rfl rfl rfl ?_
    refine gf_getI (C := RX5) (T := TX5) (N := 33) (ci := 5) (k := 35) (j := 4) (q := 9) dX5_counted_6 rfl rfl kin5 (by decide) kw608 rfl rfl ?_
    refine gf_icmp_ge (t := 41) (q := 12) dX5_counted_9 (by decide) rfl ?_ ?_
    · exact gf_mask (b := [true, true, true, false]) rfl (T_X5_counted_41 v1 v2 u)
    · refine gf_iload_n (i := 1) (q := 13) dX5_counted_12 rfl rfl rfl ?_
      refine gf_iconst (q := 14) dX5_counted_13 ki_5 rfl ?_
      refine gf_icmp_ne (t := 41) (q := 17) dX5_counted_14 (by decide) rfl ?_ ?_
      · refine gf_iload_n (i := 2) (q := 18) dX5_counted_17 rfl rfl rfl ?_
        refine gf_aload_n (i := 0) (q := 19) dX5_counted_18 rfl rfl rfl ?_
        refine gf_iload_n (i := 3) (q := 20) dX5_counted_19 rfl rfl rfl ?_
        refine gf_callV_i (n2 := 1) (As := [.int v3]) (st := [.int v2]) (b := 35) (ci := 5) (C := RX5) (q := 23) (hlen := rfl) rfl rfl kw815 kw817 kp23 dX5_counted_20 kw818 kw7 (by decide +kernel) (by decide) (Nat.le_of_ble_eq_true rfl) (C_X5_isTaken v3 u) rfl rfl (fun x3 => ?_)
        refine gf_if_eq (t := 32) (q := 26) dX5_counted_23 (by decide) rfl ?_ ?_
        · refine gf_iconst (q := 33) dX5_counted_32 ki_0 rfl ?_
          exact gf_mask (b := [true, true, false, true]) rfl (T_X5_counted_33 (F_X5_counted_4 n) ih v1 v3 0 v2 x3.2)
        · refine gf_iconst (q := 27) dX5_counted_26 ki_1 rfl ?_
          refine gf_iload_n (i := 3) (q := 28) dX5_counted_27 rfl rfl rfl ?_
          refine gf_ishl (q := 29) dX5_counted_28 rfl ?_
          refine gf_goto (q := 33) dX5_counted_29 (by decide) ?_
          exact gf_mask (b := [true, true, false, true]) rfl (T_X5_counted_33 (F_X5_counted_4 n) ih v1 v3 (1 <<< (v3 &&& 31)) v2 x3.2)
      · exact gf_mask (b := [true, true, true, false]) rfl (T_X5_counted_41 v1 v2 u)
def F_X5_counted (v1 : Int32) (u : XM) : Option (Int32 × XM) := F_X5_counted_4 FU v1 0 0 u
set_option maxRecDepth 20000 in
set_option maxHeartbeats 4000000 in
theorem T_X5_counted (v1 : Int32) (u : XM) : GF E0 YY 3 yX5_counted cX5_counted 4 (some .int) 0 [some (.ref 35), some (.int v1), none, none] [] u emI (F_X5_counted v1 u) := by
  unfold F_X5_counted
  refine gf_iconst (q := 1) dX5_counted_0 ki_0 rfl ?_
  refine gf_istore_n (i := 2) (lv2 := [some (.ref 35), some (.int v1), some (.int 0), none]) (q := 2) dX5_counted_1 rfl (by decide) rfl rfl ?_
  refine gf_iconst (q := 3) dX5_counted_2 ki_0 rfl ?_
  refine gf_istore_n (i := 3) (lv2 := [some (.ref 35), some (.int v1), some (.int 0), some (.int 0)]) (q := 4) dX5_counted_3 rfl (by decide) rfl rfl ?_
  exact (T_X5_counted_4 FU v1 0 0 u)
theorem C_X5_counted (v1 : Int32) (u : XM) : CF YY 3 yX5_counted cX5_counted 4 (some .int) [.ref 35, .int v1] u emI (F_X5_counted v1 u) := cf_of (by decide +kernel) (Nat.le_of_ble_eq_true rfl) rfl (T_X5_counted v1 u)
