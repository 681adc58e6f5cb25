def F_X5_next (v1 : Int32) (v2 : Int32) (v3 : Int32) (v4 : Int32) (u : XM) : Option (Int32 × XM) := (if ain YY 0 43 6 = true then (if (mi u 43 (Int32.toNatClampNeg 6)) = 0 then some (v3, u) else (Option.bind (F_X5_drifts v1 v2 v4 u) (fun x1 => (Option.bind (F_X5_bound (v3 + x1.1) x1.2) (fun x2 => some (x2.1, x2.2)))))) else none)
set_option maxRecDepth 20000 in
set_option maxHeartbeats 4000000 in
theorem T_X5_next (v1 : Int32) (v2 : Int32) (v3 : Int32) (v4 : Int32) (u : XM) : GF E0 YY 2 yX5_next cX5_next 5 (some .int) 0 [some (.ref 35), some (.int v1), some (.int v2), some (.int v3), some (.int v4)] [] u emI (F_X5_next v1 v2 v3 v4 u) := by
  unfold F_X5_next
  refine gf_aload_n (i := 0) (q := 1) dX5_next_0 rfl rfl rfl ?_
  refine gf_getA (C := RX5) (T := TX5) (N := 33) (ci := 5) (k := 35) (j := 9) (t := 43) (q := 4) dX5_next_1 rfl rfl kin5 (by decide) kw613 rfl rfl ?_
  refine gf_bipush (q := 6) dX5_next_4 kb_6 rfl ?_
  refine gf_iald (q := 7) dX5_next_6 rfl ?_
  refine gf_if_ne (t := 14) (q := 10) dX5_next_7 (by decide) rfl ?_ ?_
  · refine gf_iload_n (i := 3) (q := 11) dX5_next_10 rfl rfl rfl ?_
    refine gf_goto (q := 27) dX5_next_11 (by decide) ?_
    exact gf_reti dX5_next_27 rfl
  · refine gf_iload_n (i := 3) (q := 15) dX5_next_14 rfl rfl rfl ?_
    refine gf_aload_n (i := 0) (q := 16) dX5_next_15 rfl rfl rfl ?_
    refine gf_iload_n (i := 1) (q := 17) dX5_next_16 rfl rfl rfl ?_
    refine gf_iload_n (i := 2) (q := 18) dX5_next_17 rfl rfl rfl ?_
    refine gf_iload (q := 20) dX5_next_18 rfl rfl ?_
    refine gf_callV_i (n2 := 3) (As := [.int v1, .int v2, .int v4]) (st := [.int v3]) (b := 35) (ci := 5) (C := RX5) (q := 23) (hlen := rfl) rfl rfl kw804 kw806 kp22 dX5_next_20 kw807 kw7 (by decide +kernel) (by decide) (Nat.le_of_ble_eq_true rfl) (C_X5_drifts v1 v2 v4 u) rfl rfl (fun x1 => ?_)
    refine gf_iadd (q := 24) dX5_next_23 rfl ?_
    refine gf_callS_i (n2 := 1) (As := [.int (v3 + x1.1)]) (st := []) (q := 27) (hlen := rfl) kw869 kw870 dX5_next_24 kw871 kw7 (by decide +kernel) (by decide) (Nat.le_of_ble_eq_true rfl) (C_X5_bound (v3 + x1.1) x1.2) rfl rfl (fun x2 => ?_)
    exact gf_reti dX5_next_27 rfl
theorem C_X5_next (v1 : Int32) (v2 : Int32) (v3 : Int32) (v4 : Int32) (u : XM) : CF YY 2 yX5_next cX5_next 5 (some .int) [.ref 35, .int v1, .int v2, .int v3, .int v4] u emI (F_X5_next v1 v2 v3 v4 u) := cf_of (by decide +kernel) (Nat.le_of_ble_eq_true rfl) rfl (T_X5_next v1 v2 v3 v4 u)
def F_X5_after_6 : Nat → Int32 → Int32 → Int32 → Int32 → Int32 → XM → Option (Int32 × XM)
  | 0, _, _, _, _, _, _ => none
  | n + 1, v1, v2, v4, v5, v6, u => (if v4 ≤ v6 then some (v5, u) else (if ain YY 0 43 7 = true then (Option.bind (F_X5_next v1 v2 v5 ((mi u 43 (Int32.toNatClampNeg 7)) + v6) u) (fun x1 => F_X5_after_6 n v1 v2 v4 x1.1 (v6 + 1) x1.2)) else none))
set_option maxRecDepth 20000 in
set_option maxHeartbeats 4000000 in
theorem T_X5_after_6 : ∀ (n : Nat) (v1 : Int32) (v2 : Int32) (v4 : Int32) (v5 : Int32) (v6 : Int32) (u : XM), GF E0 YY 3 yX5_after cX5_after 7 (some .int) 6 [some (.ref 35), some (.int v1), some (.int v2), none, some (.int v4), some (.int v5), some (.int v6)] [] u emI (F_X5_after_6 n v1 v2 v4 v5 v6 u) := by
  intro n
  induction n with
  | zero => intro v1 v2 v4 v5 v6 u; exact gf_none
  | succ n ih =>
    intro v1 v2 v4 v5 v6 u
    unfold F_X5_after_6
    refine gf_iload (q := 8) dX5_after_6 rfl rfl ?_
    refine gf_iload (q := 10) dX5_after_8 rfl rfl ?_
    refine gf_icmp_ge (t := 39) (q := 13) dX5_after_10 (by decide) rfl ?_ ?_
    · refine gf_iload (q := 41) dX5_after_39 rfl rfl ?_
      exact gf_reti dX5_after_41 rfl
    · refine gf_aload_n (i := 0) (q := 14) dX5_after_13 rfl rfl rfl ?_
      refine gf_iload_n (i := 1) (q := 15) dX5_after_14 rfl rfl rfl ?_
      refine gf_iload_n (i := 2) (q := 16) dX5_after_15 rfl rfl rfl ?_
      refine gf_iload (q := 18) dX5_after_16 rfl rfl ?_
      refine gf_aload_n (i := 0) (q := 19) dX5_after_18 rfl rfl rfl ?_
      refine gf_getA (C := RX5) (T := TX5) (N := 33) (ci := 5) (k := 35) (j := 9) (t := 43) (q := 22) dX5_after_19 rfl rfl kin5 (by decide) kw613 rfl rfl ?_
      refine gf_bipush (q := 24) dX5_after_22 kb_7 rfl ?_
      refine gf_iald (q := 25) dX5_after_24 rfl ?_
      refine gf_iload (q := 27) dX5_after_25 rfl rfl ?_
      refine gf_iadd (q := 28) dX5_after_27 rfl ?_
      refine gf_callV_i (n2 := 4) (As := [.int v1, .int v2, .int v5, .int ((mi u 43 (Int32.toNatClampNeg 7)) + v6)]) (st := []) (b := 35) (ci := 5) (C := RX5) (q := 31) (hlen := rfl) rfl rfl kw865 kw867 kp31 dX5_after_28 kw868 kw7 (by decide +kernel) (by decide) (Nat.le_of_ble_eq_true rfl) (C_X5_next v1 v2 v5 ((mi u 43 (Int32.toNatClampNeg 7)) + v6) u) rfl rfl (fun x1 => ?_)
      refine gf_istore (lv2 := [some (.ref 35), some (.int v1), some (.int v2), none, some (.int v4), some (.int x1.1), some (.int v6)]) (q := 33) dX5_after_31 (by decide) rfl rfl ?_
      refine gf_iinc (v := (v6 + 1)) (lv2 := [some (.ref 35), some (.int v1), some (.int v2), none, some (.int v4), some (.int x1.1), some (.int (v6 + 1))]) (q := 36) dX5_after_33 rfl (congrArg _ ki_1) (by decide) rfl rfl ?_
      refine gf_goto (q := 6) dX5_after_36 (by decide) ?_
      exact (ih v1 v2 v4 x1.1 (v6 + 1) x1.2)
def F_X5_after (v1 : Int32) (v2 : Int32) (v3 : Int32) (v4 : Int32) (u : XM) : Option (Int32 × XM) := F_X5_after_6 FU v1 v2 v4 v3 0 u
set_option maxRecDepth 20000 in
set_option maxHeartbeats 4000000 in
theorem T_X5_after (v1 : Int32) (v2 : Int32) (v3 : Int32) (v4 : Int32) (u : XM) : GF E0 YY 3 yX5_after cX5_after 7 (some .int) 0 [some (.ref 35), some (.int v1), some (.int v2), some (.int v3), some (.int v4), none, none] [] u emI (F_X5_after v1 v2 v3 v4 u) := by
  unfold F_X5_after
  refine gf_iload_n (i := 3) (q := 1) dX5_after_0 rfl rfl rfl ?_
  refine gf_istore (lv2 := [some (.ref 35), some (.int v1), some (.int v2), some (.int v3), some (.int v4), some (.int v3), none]) (q := 3) dX5_after_1 (by decide) rfl rfl ?_
  refine gf_iconst (q := 4) dX5_after_3 ki_0 rfl ?_
  refine gf_istore (lv2 := [some (.ref 35), some (.int v1), some (.int v2), some (.int v3), some (.int v4), some (.int v3), some (.int 0)]) (q := 6) dX5_after_4 (by decide) rfl rfl ?_
  exact gf_mask (b := [true, true, true, false, true, true, true]) rfl (T_X5_after_6 FU v1 v2 v4 v3 0 u)
theorem C_X5_after (v1 : Int32) (v2 : Int32) (v3 : Int32) (v4 : Int32) (u : XM) : CF YY 3 yX5_after cX5_after 7 (some .int) [.ref 35, .int v1, .int v2, .int v3, .int v4] u emI (F_X5_after v1 v2 v3 v4 u) := cf_of (by decide +kernel) (Nat.le_of_ble_eq_true rfl) rfl (T_X5_after v1 v2 v3 v4 u)
def F_X5_afterOf (v1 : Int32) (v2 : Int32) (v3 : Int32) (u : XM) : Option (Int32 × XM) := (if ain YY 0 40 v1 = true then (if ain YY 0 41 v1 = true then (Option.bind (F_X5_after (mi u 40 (Int32.toNatClampNeg v1)) (mi u 41 (Int32.toNatClampNeg v1)) v2 v3 u) (fun x1 => some (x1.1, x1.2))) else none) else none)
set_option maxRecDepth 20000 in
set_option maxHeartbeats 4000000 in
theorem T_X5_afterOf (v1 : Int32) (v2 : Int32) (v3 : Int32) (u : XM) : GF E0 YY 4 yX5_afterOf cX5_afterOf 4 (some .int) 0 [some (.ref 35), some (.int v1), some (.int v2), some (.int v3)] [] u emI (F_X5_afterOf v1 v2 v3 u) := by
  unfold F_X5_afterOf
  refine gf_aload_n (i := 0) (q := 1) dX5_afterOf_0 rfl rfl rfl ?_
  refine gf_aload_n (i := 0) (q := 2) dX5_afterOf_1 rfl rfl rfl ?_
  refine gf_getA (C := RX5) (T := TX5) (N := 33) (ci := 5) (k := 35) (j := 6) (t := 40) (q := 5) dX5_afterOf_2 rfl rfl kin5 (by decide) kw610 rfl rfl ?_
  refine gf_iload_n (i := 1) (q := 6) dX5_afterOf_5 rfl rfl rfl ?_
  refine gf_iald (q := 7) dX5_afterOf_6 rfl ?_
  refine gf_aload_n (i := 0) (q := 8) dX5_afterOf_7 rfl rfl rfl ?_
  refine gf_getA (C := RX5) (T := TX5) (N := 33) (ci := 5) (k := 35) (j := 7) (t := 41) (q := 11) dX5_afterOf_8 rfl rfl kin5 (by decide) kw611 rfl rfl ?_
  refine gf_iload_n (i := 1) (q := 12) dX5_afterOf_11 rfl rfl rfl ?_
  refine gf_iald (q := 13) dX5_afterOf_12 rfl ?_
  refine gf_iload_n (i := 2) (q := 14) dX5_afterOf_13 rfl rfl rfl ?_
  refine gf_iload_n (i := 3) (q := 15) dX5_afterOf_14 rfl rfl rfl ?_
  refine gf_callV_i (n2 := 4) (As := [.int (mi u 40 (Int32.toNatClampNeg v1)), .int (mi u 41 (Int32.toNatClampNeg v1)), .int v2, .int v3]) (st := []) (b := 35) (ci := 5) (C := RX5) (q := 18) (hlen := rfl) rfl rfl kw861 kw863 kp30 dX5_afterOf_15 kw864 kw7 (by decide +kernel) (by decide) (Nat.le_of_ble_eq_true rfl) (C_X5_after (mi u 40 (Int32.toNatClampNeg v1)) (mi u 41 (Int32.toNatClampNeg v1)) v2 v3 u) rfl rfl (fun x1 => ?_)
  exact gf_reti dX5_afterOf_18 rfl
theorem C_X5_afterOf (v1 : Int32) (v2 : Int32) (v3 : Int32) (u : XM) : CF YY 4 yX5_afterOf cX5_afterOf 4 (some .int) [.ref 35, .int v1, .int v2, .int v3] u emI (F_X5_afterOf v1 v2 v3 u) := cf_of (by decide +kernel) (Nat.le_of_ble_eq_true rfl) rfl (T_X5_afterOf v1 v2 v3 u)
def F_X5_abs (v0 : Int32) (u : XM) : Option (Int32 × XM) := (if 0 ≤ v0 then some (v0, u) else some ((-v0), u))
set_option maxRecDepth 20000 in
set_option maxHeartbeats 4000000 in
theorem T_X5_abs (v0 : Int32) (u : XM) : GF E0 YY 1 yX5_abs cX5_abs 1 (some .int) 0 [some (.int v0)] [] u emI (F_X5_abs v0 u) := by
  unfold F_X5_abs
  refine gf_iload_n (i := 0) (q := 1) dX5_abs_0 rfl rfl rfl ?_
  refine gf_if_ge (t := 9) (q := 4) dX5_abs_1 (by decide) rfl ?_ ?_
  · refine gf_iload_n (i := 0) (q := 10) dX5_abs_9 rfl rfl rfl ?_
    exact gf_reti dX5_abs_10 rfl
  · refine gf_iload_n (i := 0) (q := 5) dX5_abs_4 rfl rfl rfl ?_
    refine gf_ineg (q := 6) dX5_abs_5 rfl ?_
    refine gf_goto (q := 10) dX5_abs_6 (by decide) ?_
    exact gf_reti dX5_abs_10 rfl
theorem C_X5_abs (v0 : Int32) (u : XM) : CF YY 1 yX5_abs cX5_abs 1 (some .int) [.int v0] u emI (F_X5_abs v0 u) := cf_of (by decide +kernel) (Nat.le_of_ble_eq_true rfl) rfl (T_X5_abs v0 u)
def F_X5_told (v1 : Int32) (v2 : Int32) (u : XM) : Option (Int32 × XM) := (tsw v2 0 [(if ain YY 0 40 v1 = true then some ((mi u 40 (Int32.toNatClampNeg v1)), u) else none), (if ain YY 0 43 (0 + v1) = true then some ((mi u 43 (Int32.toNatClampNeg (0 + v1))), u) else none), (if ain YY 0 41 v1 = true then some ((mi u 41 (Int32.toNatClampNeg v1)), u) else none), (if ain YY 0 42 v1 = true then some ((mi u 42 (Int32.toNatClampNeg v1)), u) else none)] ((if ain YY 0 43 6 = true then (if (mi u 43 (Int32.toNatClampNeg 6)) = 0 then some (0, u) else (if ain YY 0 40 v1 = true then (if ain YY 0 41 v1 = true then (if ain YY 0 43 7 = true then (Option.bind (F_X5_drifts (mi u 40 (Int32.toNatClampNeg v1)) (mi u 41 (Int32.toNatClampNeg v1)) (mi u 43 (Int32.toNatClampNeg 7)) u) (fun x1 => some (x1.1, x1.2))) else none) else none) else none)) else none)))
set_option maxRecDepth 20000 in
set_option maxHeartbeats 4000000 in
theorem T_X5_told (v1 : Int32) (v2 : Int32) (u : XM) : GF E0 YY 2 yX5_told cX5_told 3 (some .int) 0 [some (.ref 35), some (.int v1), some (.int v2)] [] u emI (F_X5_told v1 v2 u) := by
  unfold F_X5_told
  refine gf_iload_n (i := 2) (q := 1) dX5_told_0 rfl rfl rfl ?_
  refine gf_tsw (ts := [32, 39, 48, 55]) (t0 := 62) dX5_told_1 (by decide +kernel) (xsw_c ?_ (xsw_c ?_ (xsw_c ?_ (xsw_c ?_ (xsw_n))))) ?_
  · refine gf_aload_n (i := 0) (q := 33) dX5_told_32 rfl rfl rfl ?_
    refine gf_getA (C := RX5) (T := TX5) (N := 33) (ci := 5) (k := 35) (j := 6) (t := 40) (q := 36) dX5_told_33 rfl rfl kin5 (by decide) kw610 rfl rfl ?_
    refine gf_iload_n (i := 1) (q := 37) dX5_told_36 rfl rfl rfl ?_
    refine gf_iald (q := 38) dX5_told_37 rfl ?_
    exact gf_reti dX5_told_38 rfl
  · refine gf_aload_n (i := 0) (q := 40) dX5_told_39 rfl rfl rfl ?_
    refine gf_getA (C := RX5) (T := TX5) (N := 33) (ci := 5) (k := 35) (j := 9) (t := 43) (q := 43) dX5_told_40 rfl rfl kin5 (by decide) kw613 rfl rfl ?_
    refine gf_iconst (q := 44) dX5_told_43 ki_0 rfl ?_
    refine gf_iload_n (i := 1) (q := 45) dX5_told_44 rfl rfl rfl ?_
    refine gf_iadd (q := 46) dX5_told_45 rfl ?_
    refine gf_iald (q := 47) dX5_told_46 rfl ?_
    exact gf_reti dX5_told_47 rfl
  · refine gf_aload_n (i := 0) (q := 49) dX5_told_48 rfl rfl rfl ?_
    refine gf_getA (C := RX5) (T := TX5) (N := 33) (ci := 5) (k := 35) (j := 7) (t := 41) (q := 52) dX5_told_49 rfl rfl kin5 (by decide) kw611 rfl rfl ?_
    refine gf_iload_n (i := 1) (q := 53) dX5_told_52 rfl rfl rfl ?_
    refine gf_iald (q := 54) dX5_told_53 rfl ?_
    exact gf_reti dX5_told_54 rfl
  · refine gf_aload_n (i := 0) (q := 56) dX5_told_55 rfl rfl rfl ?_
    refine gf_getA (C := RX5) (T := TX5) (N := 33) (ci := 5) (k := 35) (j := 8) (t := 42) (q := 59) dX5_told_56 rfl rfl kin5 (by decide) kw612 rfl rfl ?_
    refine gf_iload_n (i := 1) (q := 60) dX5_told_59 rfl rfl rfl ?_
    refine gf_iald (q := 61) dX5_told_60 rfl ?_
    exact gf_reti dX5_told_61 rfl
  · refine gf_aload_n (i := 0) (q := 63) dX5_told_62 rfl rfl rfl ?_
    refine gf_getA (C := RX5) (T := TX5) (N := 33) (ci := 5) (k := 35) (j := 9) (t := 43) (q := 66) dX5_told_63 rfl rfl kin5 (by decide) kw613 rfl rfl ?_
    refine gf_bipush (q := 68) dX5_told_66 kb_6 rfl ?_
    refine gf_iald (q := 69) dX5_told_68 rfl ?_
    refine gf_if_ne (t := 76) (q := 72) dX5_told_69 (by decide) rfl ?_ ?_
    · refine gf_iconst (q := 73) dX5_told_72 ki_0 rfl ?_
      refine gf_goto (q := 99) dX5_told_73 (by decide) ?_
      exact gf_reti dX5_told_99 rfl
    · refine gf_aload_n (i := 0) (q := 77) dX5_told_76 rfl rfl rfl ?_
      refine gf_aload_n (i := 0) (q := 78) dX5_told_77 rfl rfl rfl ?_
      refine gf_getA (C := RX5) (T := TX5) (N := 33) (ci := 5) (k := 35) (j := 6) (t := 40) (q := 81) dX5_told_78 rfl rfl kin5 (by decide) kw610 rfl rfl ?_
      refine gf_iload_n (i := 1) (q := 82) dX5_told_81 rfl rfl rfl ?_
      refine gf_iald (q := 83) dX5_told_82 rfl ?_
      refine gf_aload_n (i := 0) (q := 84) dX5_told_83 rfl rfl rfl ?_
      refine gf_getA (C := RX5) (T := TX5) (N := 33) (ci := 5) (k := 35) (j := 7) (t := 41) (q := 87) dX5_told_84 rfl rfl kin5 (by decide) kw611 rfl rfl ?_
      refine gf_iload_n (i := 1) (q := 88) dX5_told_87 rfl rfl rfl ?_
      refine gf_iald (q := 89) dX5_told_88 rfl ?_
      refine gf_aload_n (i := 0) (q := 90) dX5_told_89 rfl rfl rfl ?_
      refine gf_getA (C := RX5) (T := TX5) (N := 33) (ci := 5) (k := 35) (j := 9) (t := 43) (q := 93) dX5_told_90 rfl rfl kin5 (by decide) kw613 rfl rfl ?_
      refine gf_bipush (q := 95) dX5_told_93 kb_7 rfl ?_
      refine gf_iald (q := 96) dX5_told_95 rfl ?_
      refine gf_callV_i (n2 := 3) (As := [.int (mi u 40 (Int32.toNatClampNeg v1)), .int (mi u 41 (Int32.toNatClampNeg v1)), .int (mi u 43 (Int32.toNatClampNeg 7))]) (st := []) (b := 35) (ci := 5) (C := RX5) (q := 99) (hlen := rfl) rfl rfl kw804 kw806 kp22 dX5_told_96 kw807 kw7 (by decide +kernel) (by decide) (Nat.le_of_ble_eq_true rfl) (C_X5_drifts (mi u 40 (Int32.toNatClampNeg v1)) (mi u 41 (Int32.toNatClampNeg v1)) (mi u 43 (Int32.toNatClampNeg 7)) u) rfl rfl (fun x1 => ?_)
      exact gf_reti dX5_told_99 rfl
theorem C_X5_told (v1 : Int32) (v2 : Int32) (u : XM) : CF YY 2 yX5_told cX5_told 3 (some .int) [.ref 35, .int v1, .int v2] u emI (F_X5_told v1 v2 u) := cf_of (by decide +kernel) (Nat.le_of_ble_eq_true rfl) rfl (T_X5_told v1 v2 u)
def F_X5_thing (v1 : Int32) (v2 : Int32) (u : XM) : Option (Int32 × XM) := (Option.bind (F_X5_isThing v1 u) (fun x1 => (if x1.1 = 0 then some ((-1), x1.2) else (Option.bind (F_X5_in (Int32.toInt64 v2) 0 4 x1.2) (fun x2 => (if x2.1 = 0 then some ((-1), x2.2) else (Option.bind (F_X5_told v1 v2 x2.2) (fun x3 => (Option.bind (F_X5_tell x3.1 x3.2) (fun x4 => some (x4.1, x4.2)))))))))))
set_option maxRecDepth 20000 in
set_option maxHeartbeats 4000000 in
theorem T_X5_thing (v1 : Int32) (v2 : Int32) (u : XM) : GF E0 YY 3 yX5_thing cX5_thing 3 (some .int) 0 [some (.ref 35), some (.int v1), some (.int v2)] [] u emI (F_X5_thing v1 v2 u) := by
  unfold F_X5_thing
  refine gf_aload_n (i := 0) (q := 1) dX5_thing_0 rfl rfl rfl ?_
  refine gf_iload_n (i := 1) (q := 2) dX5_thing_1 rfl rfl rfl ?_
  refine gf_callV_i (n2 := 1) (As := [.int v1]) (st := []) (b := 35) (ci := 5) (C := RX5) (q := 5) (hlen := rfl) rfl rfl kw795 kw797 kp20 dX5_thing_2 kw798 kw7 (by decide +kernel) (by decide) (Nat.le_of_ble_eq_true rfl) (C_X5_isThing v1 u) rfl rfl (fun x1 => ?_)
  refine gf_if_eq (t := 33) (q := 8) dX5_thing_5 (by decide) rfl ?_ ?_
  · refine gf_iconst (q := 34) dX5_thing_33 ki_m1 rfl ?_
    exact gf_reti dX5_thing_34 rfl
  · refine gf_iload_n (i := 2) (q := 9) dX5_thing_8 rfl rfl rfl ?_
    refine gf_i2l (q := 10) dX5_thing_9 rfl ?_
    refine gf_lconst (v := 0) (q := 11) dX5_thing_10 rfl rfl ?_
    refine gf_ldc2 (q := 14) dX5_thing_11 kw799 rfl ?_
    refine gf_callS_i (n2 := 3) (As := [.long (Int32.toInt64 v2), .long 0, .long 4]) (st := []) (q := 17) (hlen := rfl) kw713 kw714 dX5_thing_14 kw715 kw7 (by decide +kernel) (by decide) (Nat.le_of_ble_eq_true rfl) (C_X5_in (Int32.toInt64 v2) 0 4 x1.2) rfl rfl (fun x2 => ?_)
    refine gf_if_eq (t := 33) (q := 20) dX5_thing_17 (by decide) rfl ?_ ?_
    · refine gf_iconst (q := 34) dX5_thing_33 ki_m1 rfl ?_
      exact gf_reti dX5_thing_34 rfl
    · refine gf_aload_n (i := 0) (q := 21) dX5_thing_20 rfl rfl rfl ?_
      refine gf_aload_n (i := 0) (q := 22) dX5_thing_21 rfl rfl rfl ?_
      refine gf_iload_n (i := 1) (q := 23) dX5_thing_22 rfl rfl rfl ?_
      refine gf_iload_n (i := 2) (q := 24) dX5_thing_23 rfl rfl rfl ?_
      refine gf_callV_i (n2 := 2) (As := [.int v1, .int v2]) (st := [.ref 35]) (b := 35) (ci := 5) (C := RX5) (q := 27) (hlen := rfl) rfl rfl kw800 kw802 kp21 dX5_thing_24 kw803 kw7 (by decide +kernel) (by decide) (Nat.le_of_ble_eq_true rfl) (C_X5_told v1 v2 x2.2) rfl rfl (fun x3 => ?_)
      refine gf_callV_i (n2 := 1) (As := [.int x3.1]) (st := []) (b := 35) (ci := 5) (C := RX5) (q := 30) (hlen := rfl) rfl rfl kw724 kw726 kp13 dX5_thing_27 kw727 kw7 (by decide +kernel) (by decide) (Nat.le_of_ble_eq_true rfl) (C_X5_tell x3.1 x3.2) rfl rfl (fun x4 => ?_)
      refine gf_goto (q := 34) dX5_thing_30 (by decide) ?_
      exact gf_reti dX5_thing_34 rfl
theorem C_X5_thing (v1 : Int32) (v2 : Int32) (u : XM) : CF YY 3 yX5_thing cX5_thing 3 (some .int) [.ref 35, .int v1, .int v2] u emI (F_X5_thing v1 v2 u) := cf_of (by decide +kernel) (Nat.le_of_ble_eq_true rfl) rfl (T_X5_thing v1 v2 u)
def F_X5_isOf_25  (u : XM) : Option (Int32 × XM) := some (1, u)
set_option maxRecDepth 20000 in
set_option maxHeartbeats 4000000 in
theorem T_X5_isOf_25  (u : XM) : GF E0 YY 1 yX5_isOf cX5_isOf 2 (some .boolean) 25 [none, none] [] u emI (F_X5_isOf_25 u) := by
  unfold F_X5_isOf_25
  refine gf_iconst (q := 26) dX5_isOf_25 ki_1 rfl ?_
  refine gf_goto (q := 30) dX5_isOf_26 (by decide) ?_
  exact gf_retz dX5_isOf_30 rfl rfl
def F_X5_isOf_15 (v0 : Int32) (v1 : Int32) (u : XM) : Option (Int32 × XM) := (if v1 = 2 then (if v0 = 5 then F_X5_isOf_25 u else some (0, u)) else some (0, u))
set_option maxRecDepth 20000 in
set_option maxHeartbeats 4000000 in
theorem T_X5_isOf_15 (v0 : Int32) (v1 : Int32) (u : XM) : GF E0 YY 1 yX5_isOf cX5_isOf 2 (some .boolean) 15 [some (.int v0), some (.int v1)] [] u emI (F_X5_isOf_15 v0 v1 u) := by
  unfold F_X5_isOf_15
  refine gf_iload_n (i := 1) (q := 16) dX5_isOf_15 rfl rfl rfl ?_
  refine gf_iconst (q := 17) dX5_isOf_16 ki_2 rfl ?_
  refine gf_icmp_ne (t := 29) (q := 20) dX5_isOf_17 (by decide) rfl ?_ ?_
  · refine gf_iload_n (i := 0) (q := 21) dX5_isOf_20 rfl rfl rfl ?_
    refine gf_iconst (q := 22) dX5_isOf_21 ki_5 rfl ?_
    refine gf_icmp_ne (t := 29) (q := 25) dX5_isOf_22 (by decide) rfl ?_ ?_
    · exact gf_mask (b := [false, false]) rfl (T_X5_isOf_25 u)
    · refine gf_iconst (q := 30) dX5_isOf_29 ki_0 rfl ?_
      exact gf_retz dX5_isOf_30 rfl rfl
  · refine gf_iconst (q := 30) dX5_isOf_29 ki_0 rfl ?_
    exact gf_retz dX5_isOf_30 rfl rfl
def F_X5_isOf (v0 : Int32) (v1 : Int32) (u : XM) : Option (Int32 × XM) := (if v0 = v1 then F_X5_isOf_25 u else (if v1 = 1 then (if v0 = 4 then F_X5_isOf_25 u else F_X5_isOf_15 v0 v1 u) else F_X5_isOf_15 v0 v1 u))
set_option maxRecDepth 20000 in
set_option maxHeartbeats 4000000 in
theorem T_X5_isOf (v0 : Int32) (v1 : Int32) (u : XM) : GF E0 YY 1 yX5_isOf cX5_isOf 2 (some .boolean) 0 [some (.int v0), some (.int v1)] [] u emI (F_X5_isOf v0 v1 u) := by
  unfold F_X5_isOf
  refine gf_iload_n (i := 0) (q := 1) dX5_isOf_0 rfl rfl rfl ?_
  refine gf_iload_n (i := 1) (q := 2) dX5_isOf_1 rfl rfl rfl ?_
  refine gf_icmp_eq (t := 25) (q := 5) dX5_isOf_2 (by decide) rfl ?_ ?_
  · exact gf_mask (b := [false, false]) rfl (T_X5_isOf_25 u)
  · refine gf_iload_n (i := 1) (q := 6) dX5_isOf_5 rfl rfl rfl ?_
    refine gf_iconst (q := 7) dX5_isOf_6 ki_1 rfl ?_
    refine gf_icmp_ne (t := 15) (q := 10) dX5_isOf_7 (by decide) rfl ?_ ?_
    · refine gf_iload_n (i := 0) (q := 11) dX5_isOf_10 rfl rfl rfl ?_
      refine gf_iconst (q := 12) dX5_isOf_11 ki_4 rfl ?_
      refine gf_icmp_eq (t := 25) (q := 15) dX5_isOf_12 (by decide) rfl ?_ ?_
      · exact gf_mask (b := [false, false]) rfl (T_X5_isOf_25 u)
      · exact (T_X5_isOf_15 v0 v1 u)
    · exact (T_X5_isOf_15 v0 v1 u)
theorem C_X5_isOf (v0 : Int32) (v1 : Int32) (u : XM) : CF YY 1 yX5_isOf cX5_isOf 2 (some .boolean) [.int v0, .int v1] u emI (F_X5_isOf v0 v1 u) := cf_of (by decide +kernel) (Nat.le_of_ble_eq_true rfl) rfl (T_X5_isOf v0 v1 u)
def F_X5_kindsOf_31 (k4 : Int32 → Int32 → Int32 → XM → Option (Int32 × XM)) (v1 : Int32) (v3 : Int32) (s0 : Int32) (s1 : Int32) (u : XM) : Option (Int32 × XM) := k4 v1 (s1 + s0) (v3 + 1) u
set_option maxRecDepth 20000 in
set_option maxHeartbeats 4000000 in
theorem T_X5_kindsOf_31 (k4 : Int32 → Int32 → Int32 → XM → Option (Int32 × XM)) (hk4 : ∀ (v1 : Int32) (v2 : Int32) (v3 : Int32) (u : XM), GF E0 YY 2 yX5_kindsOf cX5_kindsOf 4 (some .int) 4 [some (.ref 35), some (.int v1), some (.int v2), some (.int v3)] [] u emI (k4 v1 v2 v3 u)) (v1 : Int32) (v3 : Int32) (s0 : Int32) (s1 : Int32) (u : XM) : GF E0 YY 2 yX5_kindsOf cX5_kindsOf 4 (some .int) 31 [some (.ref 35), some (.int v1), none, some (.int v3)] [.int s0, .int s1] u emI (F_X5_kindsOf_31 k4 v1 v3 s0 s1 u) := by
  unfold F_X5_kindsOf_31
  refine gf_iadd (q := 32) dX5_kindsOf_31 rfl ?_
  refine gf_istore_n (i := 2) (lv2 := [some (.ref 35), some (.int v1), some (.int (s1 + s0)), some (.int v3)]) (q := 33) dX5_kindsOf_32 rfl (by decide) rfl rfl ?_
  refine gf_iinc (v := (v3 + 1)) (lv2 := [some (.ref 35), some (.int v1), some (.int (s1 + s0)), some (.int (v3 + 1))]) (q := 36) dX5_kindsOf_33 rfl (congrArg _ ki_1) (by decide) rfl rfl ?_
  refine gf_goto (q := 4) dX5_kindsOf_36 (by decide) ?_
  exact (hk4 v1 (s1 + s0) (v3 + 1) u)
def F_X5_kindsOf_4 : Nat → Int32 → Int32 → Int32 → XM → Option (Int32 × XM)
  | 0, _, _, _, _ => none
  | n + 1, v1, v2, v3, u => (if (mi u 35 4) ≤ v3 then some (v2, u) else (if ain YY 0 40 v3 = true then (Option.bind (F_X5_isOf (mi u 40 (Int32.toNatClampNeg v3)) v1 u) (fun x1 => (if x1.1 = 0 then F_X5_kindsOf_31 (F_X5_kindsOf_4 n) v1 v3 0 v2 x1.2 else F_X5_kindsOf_31 (F_X5_kindsOf_4 n) v1 v3 1 v2 x1.2))) else none))
set_option maxRecDepth 20000 in
set_option maxHeartbeats 4000000 in
theorem T_X5_kindsOf_4 : ∀ (n : Nat) (v1 : Int32) (v2 : Int32) (v3 : Int32) (u : XM), GF E0 YY 2 yX5_kindsOf cX5_kindsOf 4 (some .int) 4 [some (.ref 35), some (.int v1), some (.int v2), some (.int v3)] [] u emI (F_X5_kindsOf_4 n v1 v2 v3 u) := by
  intro n
  induction n with
  | zero => intro v1 v2 v3 u; exact gf_none
  | succ n ih =>
    intro v1 v2 v3 u
    unfold F_X5_kindsOf_4
    refine gf_iload_n (i := 3) (q := 5) dX5_kindsOf_4 rfl rfl rfl ?_
    refine gf_aload_n (i := 0) (q := 6) dX5_kindsOf_5 rfl rfl rfl ?_
    refine gf_getI (C := RX5) (T := TX5) (N := 33) (ci := 5) (k := 35) (j := 4) (q := 9) dX5_kindsOf_6 rfl rfl kin5 (by decide) kw608 rfl rfl ?_
    refine gf_icmp_ge (t := 39) (q := 12) dX5_kindsOf_9 (by decide) rfl ?_ ?_
    · refine gf_iload_n (i := 2) (q := 40) dX5_kindsOf_39 rfl rfl rfl ?_
      exact gf_reti dX5_kindsOf_40 rfl
    · refine gf_iload_n (i := 2) (q := 13) dX5_kindsOf_12 rfl rfl rfl ?_
      refine gf_aload_n (i := 0) (q := 14) dX5_kindsOf_13 rfl rfl rfl ?_
      refine gf_getA (C := RX5) (T := TX5) (N := 33) (ci := 5) (k := 35) (j := 6) (t := 40) (q := 17) dX5_kindsOf_14 rfl rfl kin5 (by decide) kw610 rfl rfl ?_
      refine gf_iload_n (i := 3) (q := 18) dX5_kindsOf_17 rfl rfl rfl ?_
      refine gf_iald (q := 19) dX5_kindsOf_18 rfl ?_
      refine gf_iload_n (i := 1) (q := 20) dX5_kindsOf_19 rfl rfl rfl ?_
      refine gf_callS_i (n2 := 2) (As := [.int (mi u 40 (Int32.toNatClampNeg v3)), .int v1]) (st := [.int v2]) (q := 23) (hlen := rfl) kw812 kw813 dX5_kindsOf_20 kw814 kw7 (by decide +kernel) (by decide) (Nat.le_of_ble_eq_true rfl) (C_X5_isOf (mi u 40 (Int32.toNatClampNeg v3)) v1 u) rfl rfl (fun x1 => ?_)
      refine gf_if_eq (t := 30) (q := 26) dX5_kindsOf_23 (by decide) rfl ?_ ?_
      · refine gf_iconst (q := 31) dX5_kindsOf_30 ki_0 rfl ?_
        exact gf_mask (b := [true, true, false, true]) rfl (T_X5_kindsOf_31 (F_X5_kindsOf_4 n) ih v1 v3 0 v2 x1.2)
      · refine gf_iconst (q := 27) dX5_kindsOf_26 ki_1 rfl ?_
        refine gf_goto (q := 31) dX5_kindsOf_27 (by decide) ?_
        exact gf_mask (b := [true, true, false, true]) rfl (T_X5_kindsOf_31 (F_X5_kindsOf_4 n) ih v1 v3 1 v2 x1.2)
def F_X5_kindsOf (v1 : Int32) (u : XM) : Option (Int32 × XM) := F_X5_kindsOf_4 FU v1 0 0 u
set_option maxRecDepth 20000 in
set_option maxHeartbeats 4000000 in
theorem T_X5_kindsOf (v1 : Int32) (u : XM) : GF E0 YY 2 yX5_kindsOf cX5_kindsOf 4 (some .int) 0 [some (.ref 35), some (.int v1), none, none] [] u emI (F_X5_kindsOf v1 u) := by
  unfold F_X5_kindsOf
  refine gf_iconst (q := 1) dX5_kindsOf_0 ki_0 rfl ?_
  refine gf_istore_n (i := 2) (lv2 := [some (.ref 35), some (.int v1), some (.int 0), none]) (q := 2) dX5_kindsOf_1 rfl (by decide) rfl rfl ?_
  refine gf_iconst (q := 3) dX5_kindsOf_2 ki_0 rfl ?_
  refine gf_istore_n (i := 3) (lv2 := [some (.ref 35), some (.int v1), some (.int 0), some (.int 0)]) (q := 4) dX5_kindsOf_3 rfl (by decide) rfl rfl ?_
  exact (T_X5_kindsOf_4 FU v1 0 0 u)
theorem C_X5_kindsOf (v1 : Int32) (u : XM) : CF YY 2 yX5_kindsOf cX5_kindsOf 4 (some .int) [.ref 35, .int v1] u emI (F_X5_kindsOf v1 u) := cf_of (by decide +kernel) (Nat.le_of_ble_eq_true rfl) rfl (T_X5_kindsOf v1 u)
def F_X5_cellOf_32 (k4 : Int32 → Int32 → Int32 → XM → Option (Int32 × XM)) (v1 : Int32) (v3 : Int32) (s0 : Int32) (s1 : Int32) (u : XM) : Option (Int32 × XM) := k4 v1 (s1 ||| s0) (v3 + 1) u
set_option maxRecDepth 20000 in
set_option maxHeartbeats 4000000 in
theorem T_X5_cellOf_32 (k4 : Int32 → Int32 → Int32 → XM → Option (Int32 × XM)) (hk4 : ∀ (v1 : Int32) (v2 : Int32) (v3 : Int32) (u : XM), GF E0 YY 1 yX5_cellOf cX5_cellOf 4 (some .int) 4 [some (.ref 35), some (.int v1), some (.int v2), some (.int v3)] [] u emI (k4 v1 v2 v3 u)) (v1 : Int32) (v3 : Int32) (s0 : Int32) (s1 : Int32) (u : XM) : GF E0 YY 1 yX5_cellOf cX5_cellOf 4 (some .int) 32 [some (.ref 35), some (.int v1), none, some (.int v3)] [.int s0, .int s1] u emI (F_X5_cellOf_32 k4 v1 v3 s0 s1 u) := by
  unfold F_X5_cellOf_32
  refine gf_ior (q := 33) dX5_cellOf_32 rfl ?_
  refine gf_istore_n (i := 2) (lv2 := [some (.ref 35), some (.int v1), some (.int (s1 ||| s0)), some (.int v3)]) (q := 34) dX5_cellOf_33 rfl (by decide) rfl rfl ?_
  refine gf_iinc (v := (v3 + 1)) (lv2 := [some (.ref 35), some (.int v1), some (.int (s1 ||| s0)), some (.int (v3 + 1))]) (q := 37) dX5_cellOf_34 rfl (congrArg _ ki_1) (by decide) rfl rfl ?_
  refine gf_goto (q := 4) dX5_cellOf_37 (by decide) ?_
  exact (hk4 v1 (s1 ||| s0) (v3 + 1) u)
def F_X5_cellOf_4 : Nat → Int32 → Int32 → Int32 → XM → Option (Int32 × XM)
  | 0, _, _, _, _ => none
  | n + 1, v1, v2, v3, u => (if (mi u 35 4) ≤ v3 then some (v2, u) else (if ain YY 0 43 (0 + v3) = true then (if (mi u 43 (Int32.toNatClampNeg (0 + v3))) = v1 then F_X5_cellOf_32 (F_X5_cellOf_4 n) v1 v3 (1 <<< (v3 &&& 31)) v2 u else F_X5_cellOf_32 (F_X5_cellOf_4 n) v1 v3 0 v2 u) else none))
set_option maxRecDepth 20000 in
set_option maxHeartbeats 4000000 in
theorem T_X5_cellOf_4 : ∀ (n : Nat) (v1 : Int32) (v2 : Int32) (v3 : Int32) (u : XM), GF E0 YY 1 yX5_cellOf cX5_cellOf 4 (some .int) 4 [some (.ref 35), some (.int v1), some (.int v2), some (.int v3)] [] u emI (F_X5_cellOf_4 n v1 v2 v3 u) := by
  intro n
  induction n with
  | zero => intro v1 v2 v3 u; exact gf_none
  | succ n ih =>
    intro v1 v2 v3 u
    unfold F_X5_cellOf_4
    refine gf_iload_n (i := 3) (q := 5) dX5_cellOf_4 rfl rfl rfl ?_
    refine gf_aload_n (i := 0) (q := 6) dX5_cellOf_5 rfl rfl rfl ?_
    refine gf_getI (C := RX5) (T := TX5) (N := 33) (ci := 5) (k := 35) (j := 4) (q := 9) dX5_cellOf_6 rfl rfl kin5 (by decide) kw608 rfl rfl ?_
    refine gf_icmp_ge (t := 40) (q := 12) dX5_cellOf_9 (by decide) rfl ?_ ?_
    · refine gf_iload_n (i := 2) (q := 41) dX5_cellOf_40 rfl rfl rfl ?_
      exact gf_reti dX5_cellOf_41 rfl
    · refine gf_iload_n (i := 2) (q := 13) dX5_cellOf_12 rfl rfl rfl ?_
      refine gf_aload_n (i := 0) (q := 14) dX5_cellOf_13 rfl rfl rfl ?_
      refine gf_getA (C := RX5) (T := TX5) (N := 33) (ci := 5) (k := 35) (j := 9) (t := 43) (q := 17) dX5_cellOf_14 rfl rfl kin5 (by decide) kw613 rfl rfl ?_
      refine gf_iconst (q := 18) dX5_cellOf_17 ki_0 rfl ?_
      refine gf_iload_n (i := 3) (q := 19) dX5_cellOf_18 rfl rfl rfl ?_
      refine gf_iadd (q := 20) dX5_cellOf_19 rfl ?_
      refine gf_iald (q := 21) dX5_cellOf_20 rfl ?_
      refine gf_iload_n (i := 1) (q := 22) dX5_cellOf_21 rfl rfl rfl ?_
      refine gf_icmp_ne (t := 31) (q := 25) dX5_cellOf_22 (by decide) rfl ?_ ?_
      · refine gf_iconst (q := 26) dX5_cellOf_25 ki_1 rfl ?_
        refine gf_iload_n (i := 3) (q := 27) dX5_cellOf_26 rfl rfl rfl ?_
        refine gf_ishl (q := 28) dX5_cellOf_27 rfl ?_
        refine gf_goto (q := 32) dX5_cellOf_28 (by decide) ?_
        exact gf_mask (b := [true, true, false, true]) rfl (T_X5_cellOf_32 (F_X5_cellOf_4 n) ih v1 v3 (1 <<< (v3 &&& 31)) v2 u)
      · refine gf_iconst (q := 32) dX5_cellOf_31 ki_0 rfl ?_
        exact gf_mask (b := [true, true, false, true]) rfl (T_X5_cellOf_32 (F_X5_cellOf_4 n) ih v1 v3 0 v2 u)
def F_X5_cellOf (v1 : Int32) (u : XM) : Option (Int32 × XM) := F_X5_cellOf_4 FU v1 0 0 u
set_option maxRecDepth 20000 in
set_option maxHeartbeats 4000000 in
theorem T_X5_cellOf (v1 : Int32) (u : XM) : GF E0 YY 1 yX5_cellOf cX5_cellOf 4 (some .int) 0 [some (.ref 35), some (.int v1), none, none] [] u emI (F_X5_cellOf v1 u) := by
  unfold F_X5_cellOf
  refine gf_iconst (q := 1) dX5_cellOf_0 ki_0 rfl ?_
  refine gf_istore_n (i := 2) (lv2 := [some (.ref 35), some (.int v1), some (.int 0), none]) (q := 2) dX5_cellOf_1 rfl (by decide) rfl rfl ?_
  refine gf_iconst (q := 3) dX5_cellOf_2 ki_0 rfl ?_
  refine gf_istore_n (i := 3) (lv2 := [some (.ref 35), some (.int v1), some (.int 0), some (.int 0)]) (q := 4) dX5_cellOf_3 rfl (by decide) rfl rfl ?_
  exact (T_X5_cellOf_4 FU v1 0 0 u)
theorem C_X5_cellOf (v1 : Int32) (u : XM) : CF YY 1 yX5_cellOf cX5_cellOf 4 (some .int) [.ref 35, .int v1] u emI (F_X5_cellOf v1 u) := cf_of (by decide +kernel) (Nat.le_of_ble_eq_true rfl) rfl (T_X5_cellOf v1 u)
def F_X5_mark (v1 : Int32) (v2 : Int32) (u : XM) : Option (Int32 × XM) := (Option.bind (F_X5_isThing v1 u) (fun x1 => (if x1.1 = 0 then some ((-1), x1.2) else (Option.bind (F_X5_in (Int32.toInt64 v2) 1 5 x1.2) (fun x2 => (if x2.1 = 0 then some ((-1), x2.2) else (if ain YY 0 40 v1 = true then (Option.bind (F_X5_isOf (mi x2.2 40 (Int32.toNatClampNeg v1)) v2 x2.2) (fun x3 => (if x3.1 = 0 then (Option.bind (F_X5_found 3 x3.2) (fun x9 => some (x9.1, x9.2))) else (tsw v2 1 [(if ain YY 0 41 v1 = true then (if (mi x3.2 35 5) ≤ (mi x3.2 41 (Int32.toNatClampNeg v1)) then (if ain YY 0 41 v1 = true then some ((((mi x3.2 41 (Int32.toNatClampNeg v1)) + 1) - (mi x3.2 35 5)), x3.2) else none) else some (0, x3.2)) else none), (Option.bind (F_X5_isTaken v1 x3.2) (fun x4 => (if x4.1 = 0 then (if ain YY 0 43 (0 + v1) = true then (Option.bind (F_X5_cellOf (mi x4.2 43 (Int32.toNatClampNeg (0 + v1))) x4.2) (fun x5 => (Option.bind (F_X5_bits x5.1 x5.2) (fun x6 => some ((x6.1 - 1), x6.2))))) else none) else some (0, x4.2)))), (if ain YY 0 43 7 = true then some (((mi x3.2 43 (Int32.toNatClampNeg 7)) - (mi x3.2 43 (Int32.toNatClampNeg 7)) / 2 * 2), x3.2) else none), (Option.bind (F_X5_kindsOf 1 x3.2) (fun x7 => some (x7.1, x7.2)))] ((Option.bind (F_X5_isTaken v1 x3.2) (fun x8 => (if x8.1 = 0 then (if ain YY 0 43 (0 + v1) = true then some ((7 - (mi x8.2 43 (Int32.toNatClampNeg (0 + v1)))), x8.2) else none) else some (0, x8.2))))))))) else none)))))))
set_option maxRecDepth 20000 in
set_option maxHeartbeats 4000000 in
theorem T_X5_mark (v1 : Int32) (v2 : Int32) (u : XM) : GF E0 YY 3 yX5_mark cX5_mark 3 (some .int) 0 [some (.ref 35), some (.int v1), some (.int v2)] [] u emI (F_X5_mark v1 v2 u) := by
  unfold F_X5_mark
  refine gf_aload_n (i := 0) (q := 1) dX5_mark_0 rfl rfl rfl ?_
  refine gf_iload_n (i := 1) (q := 2) dX5_mark_1 rfl rfl rfl ?_
  refine gf_callV_i (n2 := 1) (As := [.int v1]) (st := []) (b := 35) (ci := 5) (C := RX5) (q := 5) (hlen := rfl) rfl rfl kw795 kw797 kp20 dX5_mark_2 kw798 kw7 (by decide +kernel) (by decide) (Nat.le_of_ble_eq_true rfl) (C_X5_isThing v1 u) rfl rfl (fun x1 => ?_)
  refine gf_if_eq (t := 20) (q := 8) dX5_mark_5 (by decide) rfl ?_ ?_
  · refine gf_iconst (q := 21) dX5_mark_20 ki_m1 rfl ?_
    exact gf_reti dX5_mark_21 rfl
  · refine gf_iload_n (i := 2) (q := 9) dX5_mark_8 rfl rfl rfl ?_
    refine gf_i2l (q := 10) dX5_mark_9 rfl ?_
    refine gf_lconst (v := 1) (q := 11) dX5_mark_10 rfl rfl ?_
    refine gf_ldc2 (q := 14) dX5_mark_11 kw712 rfl ?_
    refine gf_callS_i (n2 := 3) (As := [.long (Int32.toInt64 v2), .long 1, .long 5]) (st := []) (q := 17) (hlen := rfl) kw713 kw714 dX5_mark_14 kw715 kw7 (by decide +kernel) (by decide) (Nat.le_of_ble_eq_true rfl) (C_X5_in (Int32.toInt64 v2) 1 5 x1.2) rfl rfl (fun x2 => ?_)
    refine gf_if_ne (t := 22) (q := 20) dX5_mark_17 (by decide) rfl ?_ ?_
    · refine gf_iconst (q := 21) dX5_mark_20 ki_m1 rfl ?_
      exact gf_reti dX5_mark_21 rfl
    · refine gf_aload_n (i := 0) (q := 23) dX5_mark_22 rfl rfl rfl ?_
      refine gf_getA (C := RX5) (T := TX5) (N := 33) (ci := 5) (k := 35) (j := 6) (t := 40) (q := 26) dX5_mark_23 rfl rfl kin5 (by decide) kw610 rfl rfl ?_
      refine gf_iload_n (i := 1) (q := 27) dX5_mark_26 rfl rfl rfl ?_
      refine gf_iald (q := 28) dX5_mark_27 rfl ?_
      refine gf_iload_n (i := 2) (q := 29) dX5_mark_28 rfl rfl rfl ?_
      refine gf_callS_i (n2 := 2) (As := [.int (mi x2.2 40 (Int32.toNatClampNeg v1)), .int v2]) (st := []) (q := 32) (hlen := rfl) kw812 kw813 dX5_mark_29 kw814 kw7 (by decide +kernel) (by decide) (Nat.le_of_ble_eq_true rfl) (C_X5_isOf (mi x2.2 40 (Int32.toNatClampNeg v1)) v2 x2.2) rfl rfl (fun x3 => ?_)
      refine gf_if_ne (t := 41) (q := 35) dX5_mark_32 (by decide) rfl ?_ ?_
      · refine gf_aload_n (i := 0) (q := 36) dX5_mark_35 rfl rfl rfl ?_
        refine gf_iconst (q := 37) dX5_mark_36 ki_3 rfl ?_
        refine gf_callV_i (n2 := 1) (As := [.int 3]) (st := []) (b := 35) (ci := 5) (C := RX5) (q := 40) (hlen := rfl) rfl rfl kw716 kw718 kp12 dX5_mark_37 kw719 kw7 (by decide +kernel) (by decide) (Nat.le_of_ble_eq_true rfl) (C_X5_found 3 x3.2) rfl rfl (fun x9 => ?_)
        exact gf_reti dX5_mark_40 rfl
      · refine gf_iload_n (i := 2) (q := 42) dX5_mark_41 rfl rfl rfl ?_
        refine gf_tsw (ts := [72, 103, 133, 143]) (t0 := 149) dX5_mark_42 (by decide +kernel) (xsw_c ?_ (xsw_c ?_ (xsw_c ?_ (xsw_c ?_ (xsw_n))))) ?_
        · refine gf_aload_n (i := 0) (q := 73) dX5_mark_72 rfl rfl rfl ?_
          refine gf_getI (C := RX5) (T := TX5) (N := 33) (ci := 5) (k := 35) (j := 5) (q := 76) dX5_mark_73 rfl rfl kin5 (by decide) kw609 rfl rfl ?_
          refine gf_aload_n (i := 0) (q := 77) dX5_mark_76 rfl rfl rfl ?_
          refine gf_getA (C := RX5) (T := TX5) (N := 33) (ci := 5) (k := 35) (j := 7) (t := 41) (q := 80) dX5_mark_77 rfl rfl kin5 (by decide) kw611 rfl rfl ?_
          refine gf_iload_n (i := 1) (q := 81) dX5_mark_80 rfl rfl rfl ?_
          refine gf_iald (q := 82) dX5_mark_81 rfl ?_
          refine gf_icmp_le (t := 89) (q := 85) dX5_mark_82 (by decide) rfl ?_ ?_
          · refine gf_aload_n (i := 0) (q := 90) dX5_mark_89 rfl rfl rfl ?_
            refine gf_getA (C := RX5) (T := TX5) (N := 33) (ci := 5) (k := 35) (j := 7) (t := 41) (q := 93) dX5_mark_90 rfl rfl kin5 (by decide) kw611 rfl rfl ?_
            refine gf_iload_n (i := 1) (q := 94) dX5_mark_93 rfl rfl rfl ?_
            refine gf_iald (q := 95) dX5_mark_94 rfl ?_
            refine gf_iconst (q := 96) dX5_mark_95 ki_1 rfl ?_
            refine gf_iadd (q := 97) dX5_mark_96 rfl ?_
            refine gf_aload_n (i := 0) (q := 98) dX5_mark_97 rfl rfl rfl ?_
            refine gf_getI (C := RX5) (T := TX5) (N := 33) (ci := 5) (k := 35) (j := 5) (q := 101) dX5_mark_98 rfl rfl kin5 (by decide) kw609 rfl rfl ?_
            refine gf_isub (q := 102) dX5_mark_101 rfl ?_
            exact gf_reti dX5_mark_102 rfl
          · refine gf_iconst (q := 86) dX5_mark_85 ki_0 rfl ?_
            refine gf_goto (q := 102) dX5_mark_86 (by decide) ?_
            exact gf_reti dX5_mark_102 rfl
        · refine gf_aload_n (i := 0) (q := 104) dX5_mark_103 rfl rfl rfl ?_
          refine gf_iload_n (i := 1) (q := 105) dX5_mark_104 rfl rfl rfl ?_
          refine gf_callV_i (n2 := 1) (As := [.int v1]) (st := []) (b := 35) (ci := 5) (C := RX5) (q := 108) (hlen := rfl) rfl rfl kw815 kw817 kp23 dX5_mark_105 kw818 kw7 (by decide +kernel) (by decide) (Nat.le_of_ble_eq_true rfl) (C_X5_isTaken v1 x3.2) rfl rfl (fun x4 => ?_)
          refine gf_if_eq (t := 115) (q := 111) dX5_mark_108 (by decide) rfl ?_ ?_
          · refine gf_aload_n (i := 0) (q := 116) dX5_mark_115 rfl rfl rfl ?_
            refine gf_aload_n (i := 0) (q := 117) dX5_mark_116 rfl rfl rfl ?_
            refine gf_getA (C := RX5) (T := TX5) (N := 33) (ci := 5) (k := 35) (j := 9) (t := 43) (q := 120) dX5_mark_117 rfl rfl kin5 (by decide) kw613 rfl rfl ?_
            refine gf_iconst (q := 121) dX5_mark_120 ki_0 rfl ?_
            refine gf_iload_n (i := 1) (q := 122) dX5_mark_121 rfl rfl rfl ?_
            refine gf_iadd (q := 123) dX5_mark_122 rfl ?_
            refine gf_iald (q := 124) dX5_mark_123 rfl ?_
            refine gf_callV_i (n2 := 1) (As := [.int (mi x4.2 43 (Int32.toNatClampNeg (0 + v1)))]) (st := []) (b := 35) (ci := 5) (C := RX5) (q := 127) (hlen := rfl) rfl rfl kw819 kw821 kp24 dX5_mark_124 kw822 kw7 (by decide +kernel) (by decide) (Nat.le_of_ble_eq_true rfl) (C_X5_cellOf (mi x4.2 43 (Int32.toNatClampNeg (0 + v1))) x4.2) rfl rfl (fun x5 => ?_)
            refine gf_callS_i (n2 := 1) (As := [.int x5.1]) (st := []) (q := 130) (hlen := rfl) kw823 kw824 dX5_mark_127 kw825 kw7 (by decide +kernel) (by decide) (Nat.le_of_ble_eq_true rfl) (C_X5_bits x5.1 x5.2) rfl rfl (fun x6 => ?_)
            refine gf_iconst (q := 131) dX5_mark_130 ki_1 rfl ?_
            refine gf_isub (q := 132) dX5_mark_131 rfl ?_
            exact gf_reti dX5_mark_132 rfl
          · refine gf_iconst (q := 112) dX5_mark_111 ki_0 rfl ?_
            refine gf_goto (q := 132) dX5_mark_112 (by decide) ?_
            exact gf_reti dX5_mark_132 rfl
        · refine gf_aload_n (i := 0) (q := 134) dX5_mark_133 rfl rfl rfl ?_
          refine gf_getA (C := RX5) (T := TX5) (N := 33) (ci := 5) (k := 35) (j := 9) (t := 43) (q := 137) dX5_mark_134 rfl rfl kin5 (by decide) kw613 rfl rfl ?_
          refine gf_bipush (q := 139) dX5_mark_137 kb_7 rfl ?_
          refine gf_iald (q := 140) dX5_mark_139 rfl ?_
          refine gf_iconst (q := 141) dX5_mark_140 ki_2 rfl ?_
          refine gf_irem_c (q := 142) dX5_mark_141 (by decide) rfl ?_
          exact gf_reti dX5_mark_142 rfl
        · refine gf_aload_n (i := 0) (q := 144) dX5_mark_143 rfl rfl rfl ?_
          refine gf_iconst (q := 145) dX5_mark_144 ki_1 rfl ?_
          refine gf_callV_i (n2 := 1) (As := [.int 1]) (st := []) (b := 35) (ci := 5) (C := RX5) (q := 148) (hlen := rfl) rfl rfl kw826 kw828 kp25 dX5_mark_145 kw829 kw7 (by decide +kernel) (by decide) (Nat.le_of_ble_eq_true rfl) (C_X5_kindsOf 1 x3.2) rfl rfl (fun x7 => ?_)
          exact gf_reti dX5_mark_148 rfl
        · refine gf_aload_n (i := 0) (q := 150) dX5_mark_149 rfl rfl rfl ?_
          refine gf_iload_n (i := 1) (q := 151) dX5_mark_150 rfl rfl rfl ?_
          refine gf_callV_i (n2 := 1) (As := [.int v1]) (st := []) (b := 35) (ci := 5) (C := RX5) (q := 154) (hlen := rfl) rfl rfl kw815 kw817 kp23 dX5_mark_151 kw818 kw7 (by decide +kernel) (by decide) (Nat.le_of_ble_eq_true rfl) (C_X5_isTaken v1 x3.2) rfl rfl (fun x8 => ?_)
          refine gf_if_eq (t := 161) (q := 157) dX5_mark_154 (by decide) rfl ?_ ?_
          · refine gf_bipush (q := 163) dX5_mark_161 kb_7 rfl ?_
            refine gf_aload_n (i := 0) (q := 164) dX5_mark_163 rfl rfl rfl ?_
            refine gf_getA (C := RX5) (T := TX5) (N := 33) (ci := 5) (k := 35) (j := 9) (t := 43) (q := 167) dX5_mark_164 rfl rfl kin5 (by decide) kw613 rfl rfl ?_
            refine gf_iconst (q := 168) dX5_mark_167 ki_0 rfl ?_
            refine gf_iload_n (i := 1) (q := 169) dX5_mark_168 rfl rfl rfl ?_
            refine gf_iadd (q := 170) dX5_mark_169 rfl ?_
            refine gf_iald (q := 171) dX5_mark_170 rfl ?_
            refine gf_isub (q := 172) dX5_mark_171 rfl ?_
            exact gf_reti dX5_mark_172 rfl
          · refine gf_iconst (q := 158) dX5_mark_157 ki_0 rfl ?_
            refine gf_goto (q := 172) dX5_mark_158 (by decide) ?_
            exact gf_reti dX5_mark_172 rfl
theorem C_X5_mark (v1 : Int32) (v2 : Int32) (u : XM) : CF YY 3 yX5_mark cX5_mark 3 (some .int) [.ref 35, .int v1, .int v2] u emI (F_X5_mark v1 v2 u) := cf_of (by decide +kernel) (Nat.le_of_ble_eq_true rfl) rfl (T_X5_mark v1 v2 u)
def F_X5_cell (v1 : Int32) (u : XM) : Option (Int32 × XM) := (Option.bind (F_X5_isCell v1 u) (fun x1 => (if x1.1 = 0 then some ((-1), x1.2) else (Option.bind (F_X5_cellOf v1 x1.2) (fun x2 => some (x2.1, x2.2))))))
set_option maxRecDepth 20000 in
set_option maxHeartbeats 4000000 in
theorem T_X5_cell (v1 : Int32) (u : XM) : GF E0 YY 3 yX5_cell cX5_cell 2 (some .int) 0 [some (.ref 35), some (.int v1)] [] u emI (F_X5_cell v1 u) := by
  unfold F_X5_cell
  refine gf_iload_n (i := 1) (q := 1) dX5_cell_0 rfl rfl rfl ?_
  refine gf_callS_i (n2 := 1) (As := [.int v1]) (st := []) (q := 4) (hlen := rfl) kw834 kw835 dX5_cell_1 kw836 kw7 (by decide +kernel) (by decide) (Nat.le_of_ble_eq_true rfl) (C_X5_isCell v1 u) rfl rfl (fun x1 => ?_)
  refine gf_if_eq (t := 15) (q := 7) dX5_cell_4 (by decide) rfl ?_ ?_
  · refine gf_iconst (q := 16) dX5_cell_15 ki_m1 rfl ?_
    exact gf_reti dX5_cell_16 rfl
  · refine gf_aload_n (i := 0) (q := 8) dX5_cell_7 rfl rfl rfl ?_
    refine gf_iload_n (i := 1) (q := 9) dX5_cell_8 rfl rfl rfl ?_
    refine gf_callV_i (n2 := 1) (As := [.int v1]) (st := []) (b := 35) (ci := 5) (C := RX5) (q := 12) (hlen := rfl) rfl rfl kw819 kw821 kp24 dX5_cell_9 kw822 kw7 (by decide +kernel) (by decide) (Nat.le_of_ble_eq_true rfl) (C_X5_cellOf v1 x1.2) rfl rfl (fun x2 => ?_)
    refine gf_goto (q := 16) dX5_cell_12 (by decide) ?_
    exact gf_reti dX5_cell_16 rfl
theorem C_X5_cell (v1 : Int32) (u : XM) : CF YY 3 yX5_cell cX5_cell 2 (some .int) [.ref 35, .int v1] u emI (F_X5_cell v1 u) := cf_of (by decide +kernel) (Nat.le_of_ble_eq_true rfl) rfl (T_X5_cell v1 u)
def F_X5_copies_3 : Nat → Nat → Int32 → Nat → Int32 → Int32 → Int32 → XM → Option (Unit × XM)
  | 0, _, _, _, _, _, _, _ => none
  | n + 1, v0, v1, v2, v3, v4, v5, u => (if v4 ≤ v5 then some ((), u) else (if ain YY 0 v0 (v1 + v5) = true then (if ain YY 0 v2 (v3 + v5) = true then F_X5_copies_3 n v0 v1 v2 v3 v4 (v5 + 1) (wi u v2 (Int32.toNatClampNeg (v3 + v5)) (mi u v0 (Int32.toNatClampNeg (v1 + v5)))) else none) else none))
set_option maxRecDepth 20000 in
set_option maxHeartbeats 4000000 in
theorem T_X5_copies_3 : ∀ (n : Nat) (v0 : Nat) (v1 : Int32) (v2 : Nat) (v3 : Int32) (v4 : Int32) (v5 : Int32) (u : XM), GF E0 YY 1 yX5_copies cX5_copies 6 none 3 [some (.ref v0), some (.int v1), some (.ref v2), some (.int v3), some (.int v4), some (.int v5)] [] u emV (F_X5_copies_3 n v0 v1 v2 v3 v4 v5 u) := by
  intro n
  induction n with
  | zero => intro v0 v1 v2 v3 v4 v5 u; exact gf_none
  | succ n ih =>
    intro v0 v1 v2 v3 v4 v5 u
    unfold F_X5_copies_3
    refine gf_iload (q := 5) dX5_copies_3 rfl rfl ?_
    refine gf_iload (q := 7) dX5_copies_5 rfl rfl ?_
    refine gf_icmp_ge (t := 28) (q := 10) dX5_copies_7 (by decide) rfl ?_ ?_
    · exact gf_retv dX5_copies_28 rfl
    · refine gf_aload_n (i := 2) (q := 11) dX5_copies_10 rfl rfl rfl ?_
      refine gf_iload_n (i := 3) (q := 12) dX5_copies_11 rfl rfl rfl ?_
      refine gf_iload (q := 14) dX5_copies_12 rfl rfl ?_
      refine gf_iadd (q := 15) dX5_copies_14 rfl ?_
      refine gf_aload_n (i := 0) (q := 16) dX5_copies_15 rfl rfl rfl ?_
      refine gf_iload_n (i := 1) (q := 17) dX5_copies_16 rfl rfl rfl ?_
      refine gf_iload (q := 19) dX5_copies_17 rfl rfl ?_
      refine gf_iadd (q := 20) dX5_copies_19 rfl ?_
      refine gf_iald (q := 21) dX5_copies_20 rfl ?_
      refine gf_iast (q := 22) dX5_copies_21 rfl ?_
      refine gf_iinc (v := (v5 + 1)) (lv2 := [some (.ref v0), some (.int v1), some (.ref v2), some (.int v3), some (.int v4), some (.int (v5 + 1))]) (q := 25) dX5_copies_22 rfl (congrArg _ ki_1) (by decide) rfl rfl ?_
      refine gf_goto (q := 3) dX5_copies_25 (by decide) ?_
      exact (ih v0 v1 v2 v3 v4 (v5 + 1) (wi u v2 (Int32.toNatClampNeg (v3 + v5)) (mi u v0 (Int32.toNatClampNeg (v1 + v5)))))
def F_X5_copies (v0 : Nat) (v1 : Int32) (v2 : Nat) (v3 : Int32) (v4 : Int32) (u : XM) : Option (Unit × XM) := F_X5_copies_3 FU v0 v1 v2 v3 v4 0 u
set_option maxRecDepth 20000 in
set_option maxHeartbeats 4000000 in
theorem T_X5_copies (v0 : Nat) (v1 : Int32) (v2 : Nat) (v3 : Int32) (v4 : Int32) (u : XM) : GF E0 YY 1 yX5_copies cX5_copies 6 none 0 [some (.ref v0), some (.int v1), some (.ref v2), some (.int v3), some (.int v4), none] [] u emV (F_X5_copies v0 v1 v2 v3 v4 u) := by
  unfold F_X5_copies
  refine gf_iconst (q := 1) dX5_copies_0 ki_0 rfl ?_
  refine gf_istore (lv2 := [some (.ref v0), some (.int v1), some (.ref v2), some (.int v3), some (.int v4), some (.int 0)]) (q := 3) dX5_copies_1 (by decide) rfl rfl ?_
  exact (T_X5_copies_3 FU v0 v1 v2 v3 v4 0 u)
theorem C_X5_copies (v0 : Nat) (v1 : Int32) (v2 : Nat) (v3 : Int32) (v4 : Int32) (u : XM) : CF YY 1 yX5_copies cX5_copies 6 none [.ref v0, .int v1, .ref v2, .int v3, .int v4] u emV (F_X5_copies v0 v1 v2 v3 v4 u) := cf_of (by decide +kernel) (Nat.le_of_ble_eq_true rfl) rfl (T_X5_copies v0 v1 v2 v3 v4 u)
def F_X5_remember  (u : XM) : Option (Unit × XM) := (Option.bind (F_X5_copies 43 0 44 (8 * (mi u 35 10)) 8 u) (fun x1 => some ((), (wi x1.2 35 10 ((mi x1.2 35 10) + 1)))))
set_option maxRecDepth 20000 in
set_option maxHeartbeats 4000000 in
theorem T_X5_remember  (u : XM) : GF E0 YY 2 yX5_remember cX5_remember 1 none 0 [some (.ref 35)] [] u emV (F_X5_remember u) := by
  unfold F_X5_remember
  refine gf_aload_n (i := 0) (q := 1) dX5_remember_0 rfl rfl rfl ?_
  refine gf_getA (C := RX5) (T := TX5) (N := 33) (ci := 5) (k := 35) (j := 9) (t := 43) (q := 4) dX5_remember_1 rfl rfl kin5 (by decide) kw613 rfl rfl ?_
  refine gf_iconst (q := 5) dX5_remember_4 ki_0 rfl ?_
  refine gf_aload_n (i := 0) (q := 6) dX5_remember_5 rfl rfl rfl ?_
  refine gf_getA (C := RX5) (T := TX5) (N := 33) (ci := 5) (k := 35) (j := 11) (t := 44) (q := 9) dX5_remember_6 rfl rfl kin5 (by decide) kw615 rfl rfl ?_
  refine gf_bipush (q := 11) dX5_remember_9 kb_8 rfl ?_
  refine gf_aload_n (i := 0) (q := 12) dX5_remember_11 rfl rfl rfl ?_
  refine gf_getI (C := RX5) (T := TX5) (N := 33) (ci := 5) (k := 35) (j := 10) (q := 15) dX5_remember_12 rfl rfl kin5 (by decide) kw614 rfl rfl ?_
  refine gf_imul (q := 16) dX5_remember_15 rfl ?_
  refine gf_bipush (q := 18) dX5_remember_16 kb_8 rfl ?_
  refine gf_callS_v (n2 := 5) (As := [.ref 43, .int 0, .ref 44, .int (8 * (mi u 35 10)), .int 8]) (st := []) (q := 21) (hlen := rfl) kw854 kw855 dX5_remember_18 kw856 kw7 (by decide +kernel) (by decide) (Nat.le_of_ble_eq_true rfl) (C_X5_copies 43 0 44 (8 * (mi u 35 10)) 8 u) rfl rfl (fun x1 => ?_)
  refine gf_aload_n (i := 0) (q := 22) dX5_remember_21 rfl rfl rfl ?_
  refine gf_dup (q := 23) dX5_remember_22 rfl rfl ?_
  refine gf_getI (C := RX5) (T := TX5) (N := 33) (ci := 5) (k := 35) (j := 10) (q := 26) dX5_remember_23 rfl rfl kin5 (by decide) kw614 rfl rfl ?_
  refine gf_iconst (q := 27) dX5_remember_26 ki_1 rfl ?_
  refine gf_iadd (q := 28) dX5_remember_27 rfl ?_
  refine gf_putI (C := RX5) (T := TX5) (N := 33) (ci := 5) (k := 35) (j := 10) (q := 31) dX5_remember_28 rfl rfl kin5 tyX5 tyX5_ok nmX5 (by decide) kw614 rfl rfl rfl rfl ?_
  exact gf_retv dX5_remember_31 rfl
theorem C_X5_remember  (u : XM) : CF YY 2 yX5_remember cX5_remember 1 none [.ref 35] u emV (F_X5_remember u) := cf_of (by decide +kernel) (Nat.le_of_ble_eq_true rfl) rfl (T_X5_remember u)
def F_X5_yearGoes_44 (k6 : Int32 → XM → Option (Unit × XM)) (v1 : Int32) (u : XM) : Option (Unit × XM) := k6 (v1 + 1) u
set_option maxRecDepth 20000 in
set_option maxHeartbeats 4000000 in
theorem T_X5_yearGoes_44 (k6 : Int32 → XM → Option (Unit × XM)) (hk6 : ∀ (v1 : Int32) (u : XM), GF E0 YY 5 yX5_yearGoes cX5_yearGoes 2 none 6 [some (.ref 35), some (.int v1)] [] u emV (k6 v1 u)) (v1 : Int32) (u : XM) : GF E0 YY 5 yX5_yearGoes cX5_yearGoes 2 none 44 [some (.ref 35), some (.int v1)] [] u emV (F_X5_yearGoes_44 k6 v1 u) := by
  unfold F_X5_yearGoes_44
  refine gf_iinc (v := (v1 + 1)) (lv2 := [some (.ref 35), some (.int (v1 + 1))]) (q := 47) dX5_yearGoes_44 rfl (congrArg _ ki_1) (by decide) rfl rfl ?_
  refine gf_goto (q := 6) dX5_yearGoes_47 (by decide) ?_
  exact (hk6 (v1 + 1) u)
def F_X5_yearGoes_6 : Nat → Int32 → XM → Option (Unit × XM)
  | 0, _, _ => none
  | n + 1, v1, u => (if (mi u 35 4) ≤ v1 then (if ain YY 0 43 7 = true then (if ain YY 0 43 7 = true then some ((), (wi u 43 (Int32.toNatClampNeg 7) ((mi u 43 (Int32.toNatClampNeg 7)) + 1))) else none) else none) else (Option.bind (F_X5_isTaken v1 u) (fun x1 => (if x1.1 = 0 then (if ain YY 0 43 (0 + v1) = true then (Option.bind (F_X5_afterOf v1 (mi x1.2 43 (Int32.toNatClampNeg (0 + v1))) 1 x1.2) (fun x2 => (if ain YY 0 43 (0 + v1) = true then F_X5_yearGoes_44 (F_X5_yearGoes_6 n) v1 (wi x2.2 43 (Int32.toNatClampNeg (0 + v1)) x2.1) else none))) else none) else F_X5_yearGoes_44 (F_X5_yearGoes_6 n) v1 x1.2))))
set_option maxRecDepth 20000 in
set_option maxHeartbeats 4000000 in
theorem T_X5_yearGoes_6 : ∀ (n : Nat) (v1 : Int32) (u : XM), GF E0 YY 5 yX5_yearGoes cX5_yearGoes 2 none 6 [some (.ref 35), some (.int v1)] [] u emV (F_X5_yearGoes_6 n v1 u) := by
  intro n
  induction n with
  | zero => intro v1 u; exact gf_none
  | succ n ih =>
    intro v1 u
    unfold F_X5_yearGoes_6
    refine gf_iload_n (i := 1) (q := 7) dX5_yearGoes_6 rfl rfl rfl ?_
    refine gf_aload_n (i := 0) (q := 8) dX5_yearGoes_7 rfl rfl rfl ?_
    refine gf_getI (C := RX5) (T := TX5) (N := 33) (ci := 5) (k := 35) (j := 4) (q := 11) dX5_yearGoes_8 rfl rfl kin5 (by decide) kw608 rfl rfl ?_
    refine gf_icmp_ge (t := 50) (q := 14) dX5_yearGoes_11 (by decide) rfl ?_ ?_
    · refine gf_aload_n (i := 0) (q := 51) dX5_yearGoes_50 rfl rfl rfl ?_
      refine gf_getA (C := RX5) (T := TX5) (N := 33) (ci := 5) (k := 35) (j := 9) (t := 43) (q := 54) dX5_yearGoes_51 rfl rfl kin5 (by decide) kw613 rfl rfl ?_
      refine gf_bipush (q := 56) dX5_yearGoes_54 kb_7 rfl ?_
      refine gf_dup2 (q := 57) dX5_yearGoes_56 rfl rfl rfl ?_
      refine gf_iald (q := 58) dX5_yearGoes_57 rfl ?_
      refine gf_iconst (q := 59) dX5_yearGoes_58 ki_1 rfl ?_
      refine gf_iadd (q := 60) dX5_yearGoes_59 rfl ?_
      refine gf_iast (q := 61) dX5_yearGoes_60 rfl ?_
      exact gf_retv dX5_yearGoes_61 rfl
    · refine gf_aload_n (i := 0) (q := 15) dX5_yearGoes_14 rfl rfl rfl ?_
      refine gf_iload_n (i := 1) (q := 16) dX5_yearGoes_15 rfl rfl rfl ?_
      refine gf_callV_i (n2 := 1) (As := [.int v1]) (st := []) (b := 35) (ci := 5) (C := RX5) (q := 19) (hlen := rfl) rfl rfl kw815 kw817 kp23 dX5_yearGoes_16 kw818 kw7 (by decide +kernel) (by decide) (Nat.le_of_ble_eq_true rfl) (C_X5_isTaken v1 u) rfl rfl (fun x1 => ?_)
      refine gf_if_ne (t := 44) (q := 22) dX5_yearGoes_19 (by decide) rfl ?_ ?_
      · refine gf_aload_n (i := 0) (q := 23) dX5_yearGoes_22 rfl rfl rfl ?_
        refine gf_getA (C := RX5) (T := TX5) (N := 33) (ci := 5) (k := 35) (j := 9) (t := 43) (q := 26) dX5_yearGoes_23 rfl rfl kin5 (by decide) kw613 rfl rfl ?_
        refine gf_iconst (q := 27) dX5_yearGoes_26 ki_0 rfl ?_
        refine gf_iload_n (i := 1) (q := 28) dX5_yearGoes_27 rfl rfl rfl ?_
        refine gf_iadd (q := 29) dX5_yearGoes_28 rfl ?_
        refine gf_aload_n (i := 0) (q := 30) dX5_yearGoes_29 rfl rfl rfl ?_
        refine gf_iload_n (i := 1) (q := 31) dX5_yearGoes_30 rfl rfl rfl ?_
        refine gf_aload_n (i := 0) (q := 32) dX5_yearGoes_31 rfl rfl rfl ?_
        refine gf_getA (C := RX5) (T := TX5) (N := 33) (ci := 5) (k := 35) (j := 9) (t := 43) (q := 35) dX5_yearGoes_32 rfl rfl kin5 (by decide) kw613 rfl rfl ?_
        refine gf_iconst (q := 36) dX5_yearGoes_35 ki_0 rfl ?_
        refine gf_iload_n (i := 1) (q := 37) dX5_yearGoes_36 rfl rfl rfl ?_
        refine gf_iadd (q := 38) dX5_yearGoes_37 rfl ?_
        refine gf_iald (q := 39) dX5_yearGoes_38 rfl ?_
        refine gf_iconst (q := 40) dX5_yearGoes_39 ki_1 rfl ?_
        refine gf_callV_i (n2 := 3) (As := [.int v1, .int (mi x1.2 43 (Int32.toNatClampNeg (0 + v1))), .int 1]) (st := [.int (0 + v1), .ref 43]) (b := 35) (ci := 5) (C := RX5) (q := 43) (hlen := rfl) rfl rfl kw857 kw859 kp29 dX5_yearGoes_40 kw860 kw7 (by decide +kernel) (by decide) (Nat.le_of_ble_eq_true rfl) (C_X5_afterOf v1 (mi x1.2 43 (Int32.toNatClampNeg (0 + v1))) 1 x1.2) rfl rfl (fun x2 => ?_)
        refine gf_iast (q := 44) dX5_yearGoes_43 rfl ?_
        exact (T_X5_yearGoes_44 (F_X5_yearGoes_6 n) ih v1 (wi x2.2 43 (Int32.toNatClampNeg (0 + v1)) x2.1))
      · exact (T_X5_yearGoes_44 (F_X5_yearGoes_6 n) ih v1 x1.2)
def F_X5_yearGoes  (u : XM) : Option (Unit × XM) := (Option.bind (F_X5_remember u) (fun x3 => F_X5_yearGoes_6 FU 0 x3.2))
set_option maxRecDepth 20000 in
set_option maxHeartbeats 4000000 in
theorem T_X5_yearGoes  (u : XM) : GF E0 YY 5 yX5_yearGoes cX5_yearGoes 2 none 0 [some (.ref 35), none] [] u emV (F_X5_yearGoes u) := by
  unfold F_X5_yearGoes
  refine gf_aload_n (i := 0) (q := 1) dX5_yearGoes_0 rfl rfl rfl ?_
  refine gf_callV_v (n2 := 0) (As := []) (st := []) (b := 35) (ci := 5) (C := RX5) (q := 4) (hlen := rfl) rfl rfl kw850 kw852 kp28 dX5_yearGoes_1 kw853 kw7 (by decide +kernel) (by decide) (Nat.le_of_ble_eq_true rfl) (C_X5_remember u) rfl rfl (fun x3 => ?_)
  refine gf_iconst (q := 5) dX5_yearGoes_4 ki_0 rfl ?_
  refine gf_istore_n (i := 1) (lv2 := [some (.ref 35), some (.int 0)]) (q := 6) dX5_yearGoes_5 rfl (by decide) rfl rfl ?_
  exact (T_X5_yearGoes_6 FU 0 x3.2)
theorem C_X5_yearGoes  (u : XM) : CF YY 5 yX5_yearGoes cX5_yearGoes 2 none [.ref 35] u emV (F_X5_yearGoes u) := cf_of (by decide +kernel) (Nat.le_of_ble_eq_true rfl) rfl (T_X5_yearGoes u)
def F_X5_turned_13 (s0 : Int32) (u : XM) : Option (Int32 × XM) := (if s0 ≤ 9 then (if 0 ≤ s0 then some (s0, u) else some (0, u)) else some (9, u))
set_option maxRecDepth 20000 in
set_option maxHeartbeats 4000000 in
theorem T_X5_turned_13 (s0 : Int32) (u : XM) : GF E0 YY 1 yX5_turned cX5_turned 3 (some .int) 13 [none, none, none] [.int s0] u emI (F_X5_turned_13 s0 u) := by
  unfold F_X5_turned_13
  refine gf_istore_n (i := 2) (lv2 := [none, none, some (.int s0)]) (q := 14) dX5_turned_13 rfl (by decide) rfl rfl ?_
  refine gf_iload_n (i := 2) (q := 15) dX5_turned_14 rfl rfl rfl ?_
  refine gf_bipush (q := 17) dX5_turned_15 kb_9 rfl ?_
  refine gf_icmp_le (t := 25) (q := 20) dX5_turned_17 (by decide) rfl ?_ ?_
  · refine gf_iload_n (i := 2) (q := 26) dX5_turned_25 rfl rfl rfl ?_
    refine gf_if_ge (t := 33) (q := 29) dX5_turned_26 (by decide) rfl ?_ ?_
    · refine gf_iload_n (i := 2) (q := 34) dX5_turned_33 rfl rfl rfl ?_
      exact gf_reti dX5_turned_34 rfl
    · refine gf_iconst (q := 30) dX5_turned_29 ki_0 rfl ?_
      refine gf_goto (q := 34) dX5_turned_30 (by decide) ?_
      exact gf_reti dX5_turned_34 rfl
  · refine gf_bipush (q := 22) dX5_turned_20 kb_9 rfl ?_
    refine gf_goto (q := 34) dX5_turned_22 (by decide) ?_
    exact gf_reti dX5_turned_34 rfl
def F_X5_turned (v0 : Int32) (v1 : Int32) (u : XM) : Option (Int32 × XM) := (if v1 = 0 then F_X5_turned_13 (v0 - 2) u else F_X5_turned_13 (v0 + 3) u)
set_option maxRecDepth 20000 in
set_option maxHeartbeats 4000000 in
theorem T_X5_turned (v0 : Int32) (v1 : Int32) (u : XM) : GF E0 YY 1 yX5_turned cX5_turned 3 (some .int) 0 [some (.int v0), some (.int v1), none] [] u emI (F_X5_turned v0 v1 u) := by
  unfold F_X5_turned
  refine gf_iload_n (i := 1) (q := 1) dX5_turned_0 rfl rfl rfl ?_
  refine gf_if_eq (t := 10) (q := 4) dX5_turned_1 (by decide) rfl ?_ ?_
  · refine gf_iload_n (i := 0) (q := 11) dX5_turned_10 rfl rfl rfl ?_
    refine gf_iconst (q := 12) dX5_turned_11 ki_2 rfl ?_
    refine gf_isub (q := 13) dX5_turned_12 rfl ?_
    exact gf_mask (b := [false, false, false]) rfl (T_X5_turned_13 (v0 - 2) u)
  · refine gf_iload_n (i := 0) (q := 5) dX5_turned_4 rfl rfl rfl ?_
    refine gf_iconst (q := 6) dX5_turned_5 ki_3 rfl ?_
    refine gf_iadd (q := 7) dX5_turned_6 rfl ?_
    refine gf_goto (q := 13) dX5_turned_7 (by decide) ?_
    exact gf_mask (b := [false, false, false]) rfl (T_X5_turned_13 (v0 + 3) u)
theorem C_X5_turned (v0 : Int32) (v1 : Int32) (u : XM) : CF YY 1 yX5_turned cX5_turned 3 (some .int) [.int v0, .int v1] u emI (F_X5_turned v0 v1 u) := cf_of (by decide +kernel) (Nat.le_of_ble_eq_true rfl) rfl (T_X5_turned v0 v1 u)
def F_X5_turns (v1 : Int32) (u : XM) : Option (Unit × XM) := (Option.bind (F_X5_remember u) (fun x1 => (if ain YY 0 43 6 = true then (Option.bind (F_X5_turned (mi x1.2 43 (Int32.toNatClampNeg 6)) v1 x1.2) (fun x2 => (if ain YY 0 43 6 = true then some ((), (wi x2.2 43 (Int32.toNatClampNeg 6) x2.1)) else none))) else none)))
set_option maxRecDepth 20000 in
set_option maxHeartbeats 4000000 in
theorem T_X5_turns (v1 : Int32) (u : XM) : GF E0 YY 3 yX5_turns cX5_turns 2 none 0 [some (.ref 35), some (.int v1)] [] u emV (F_X5_turns v1 u) := by
  unfold F_X5_turns
  refine gf_aload_n (i := 0) (q := 1) dX5_turns_0 rfl rfl rfl ?_
  refine gf_callV_v (n2 := 0) (As := []) (st := []) (b := 35) (ci := 5) (C := RX5) (q := 4) (hlen := rfl) rfl rfl kw850 kw852 kp28 dX5_turns_1 kw853 kw7 (by decide +kernel) (by decide) (Nat.le_of_ble_eq_true rfl) (C_X5_remember u) rfl rfl (fun x1 => ?_)
  refine gf_aload_n (i := 0) (q := 5) dX5_turns_4 rfl rfl rfl ?_
  refine gf_getA (C := RX5) (T := TX5) (N := 33) (ci := 5) (k := 35) (j := 9) (t := 43) (q := 8) dX5_turns_5 rfl rfl kin5 (by decide) kw613 rfl rfl ?_
  refine gf_bipush (q := 10) dX5_turns_8 kb_6 rfl ?_
  refine gf_aload_n (i := 0) (q := 11) dX5_turns_10 rfl rfl rfl ?_
  refine gf_getA (C := RX5) (T := TX5) (N := 33) (ci := 5) (k := 35) (j := 9) (t := 43) (q := 14) dX5_turns_11 rfl rfl kin5 (by decide) kw613 rfl rfl ?_
  refine gf_bipush (q := 16) dX5_turns_14 kb_6 rfl ?_
  refine gf_iald (q := 17) dX5_turns_16 rfl ?_
  refine gf_iload_n (i := 1) (q := 18) dX5_turns_17 rfl rfl rfl ?_
  refine gf_callS_i (n2 := 2) (As := [.int (mi x1.2 43 (Int32.toNatClampNeg 6)), .int v1]) (st := [.int 6, .ref 43]) (q := 21) (hlen := rfl) kw880 kw881 dX5_turns_18 kw882 kw7 (by decide +kernel) (by decide) (Nat.le_of_ble_eq_true rfl) (C_X5_turned (mi x1.2 43 (Int32.toNatClampNeg 6)) v1 x1.2) rfl rfl (fun x2 => ?_)
  refine gf_iast (q := 22) dX5_turns_21 rfl ?_
  exact gf_retv dX5_turns_22 rfl
theorem C_X5_turns (v1 : Int32) (u : XM) : CF YY 3 yX5_turns cX5_turns 2 none [.ref 35, .int v1] u emV (F_X5_turns v1 u) := cf_of (by decide +kernel) (Nat.le_of_ble_eq_true rfl) rfl (T_X5_turns v1 u)
def F_X5_refuses  (u : XM) : Option (Int32 × XM) := (if (mi u 35 4) = 0 then some ((-4), u) else (if (mi u 35 10) = 40 then some ((-2), u) else some (0, u)))
set_option maxRecDepth 20000 in
set_option maxHeartbeats 4000000 in
theorem T_X5_refuses  (u : XM) : GF E0 YY 1 yX5_refuses cX5_refuses 1 (some .int) 0 [some (.ref 35)] [] u emI (F_X5_refuses u) := by
  unfold F_X5_refuses
  refine gf_aload_n (i := 0) (q := 1) dX5_refuses_0 rfl rfl rfl ?_
  refine gf_getI (C := RX5) (T := TX5) (N := 33) (ci := 5) (k := 35) (j := 4) (q := 4) dX5_refuses_1 rfl rfl kin5 (by decide) kw608 rfl rfl ?_
  refine gf_if_ne (t := 12) (q := 7) dX5_refuses_4 (by decide) rfl ?_ ?_
  · refine gf_bipush (q := 9) dX5_refuses_7 kb_m4 rfl ?_
    refine gf_goto (q := 27) dX5_refuses_9 (by decide) ?_
    exact gf_reti dX5_refuses_27 rfl
  · refine gf_aload_n (i := 0) (q := 13) dX5_refuses_12 rfl rfl rfl ?_
    refine gf_getI (C := RX5) (T := TX5) (N := 33) (ci := 5) (k := 35) (j := 10) (q := 16) dX5_refuses_13 rfl rfl kin5 (by decide) kw614 rfl rfl ?_
    refine gf_bipush (q := 18) dX5_refuses_16 kb_40 rfl ?_
    refine gf_icmp_ne (t := 26) (q := 21) dX5_refuses_18 (by decide) rfl ?_ ?_
    · refine gf_bipush (q := 23) dX5_refuses_21 kb_m2 rfl ?_
      refine gf_goto (q := 27) dX5_refuses_23 (by decide) ?_
      exact gf_reti dX5_refuses_27 rfl
    · refine gf_iconst (q := 27) dX5_refuses_26 ki_0 rfl ?_
      exact gf_reti dX5_refuses_27 rfl
theorem C_X5_refuses  (u : XM) : CF YY 1 yX5_refuses cX5_refuses 1 (some .int) [.ref 35] u emI (F_X5_refuses u) := cf_of (by decide +kernel) (Nat.le_of_ble_eq_true rfl) rfl (T_X5_refuses u)
def F_X5_year  (u : XM) : Option (Int32 × XM) := (Option.bind (F_X5_refuses u) (fun x1 => (if x1.1 = 0 then (Option.bind (F_X5_yearGoes x1.2) (fun x2 => (if ain YY 0 43 7 = true then some ((mi x2.2 43 (Int32.toNatClampNeg 7)), x2.2) else none))) else some (x1.1, x1.2))))
set_option maxRecDepth 20000 in
set_option maxHeartbeats 4000000 in
theorem T_X5_year  (u : XM) : GF E0 YY 6 yX5_year cX5_year 2 (some .int) 0 [some (.ref 35), none] [] u emI (F_X5_year u) := by
  unfold F_X5_year
  refine gf_aload_n (i := 0) (q := 1) dX5_year_0 rfl rfl rfl ?_
  refine gf_callV_i (n2 := 0) (As := []) (st := []) (b := 35) (ci := 5) (C := RX5) (q := 4) (hlen := rfl) rfl rfl kw842 kw844 kp26 dX5_year_1 kw845 kw7 (by decide +kernel) (by decide) (Nat.le_of_ble_eq_true rfl) (C_X5_refuses u) rfl rfl (fun x1 => ?_)
  refine gf_istore_n (i := 1) (lv2 := [some (.ref 35), some (.int x1.1)]) (q := 5) dX5_year_4 rfl (by decide) rfl rfl ?_
  refine gf_iload_n (i := 1) (q := 6) dX5_year_5 rfl rfl rfl ?_
  refine gf_if_eq (t := 11) (q := 9) dX5_year_6 (by decide) rfl ?_ ?_
  · refine gf_aload_n (i := 0) (q := 12) dX5_year_11 rfl rfl rfl ?_
    refine gf_callV_v (n2 := 0) (As := []) (st := []) (b := 35) (ci := 5) (C := RX5) (q := 15) (hlen := rfl) rfl rfl kw846 kw848 kp27 dX5_year_12 kw849 kw7 (by decide +kernel) (by decide) (Nat.le_of_ble_eq_true rfl) (C_X5_yearGoes x1.2) rfl rfl (fun x2 => ?_)
    refine gf_aload_n (i := 0) (q := 16) dX5_year_15 rfl rfl rfl ?_
    refine gf_getA (C := RX5) (T := TX5) (N := 33) (ci := 5) (k := 35) (j := 9) (t := 43) (q := 19) dX5_year_16 rfl rfl kin5 (by decide) kw613 rfl rfl ?_
    refine gf_bipush (q := 21) dX5_year_19 kb_7 rfl ?_
    refine gf_iald (q := 22) dX5_year_21 rfl ?_
    exact gf_reti dX5_year_22 rfl
  · refine gf_iload_n (i := 1) (q := 10) dX5_year_9 rfl rfl rfl ?_
    exact gf_reti dX5_year_10 rfl
theorem C_X5_year  (u : XM) : CF YY 6 yX5_year cX5_year 2 (some .int) [.ref 35] u emI (F_X5_year u) := cf_of (by decide +kernel) (Nat.le_of_ble_eq_true rfl) rfl (T_X5_year u)
def F_X5_paddle_34 (s0 : Int32) (u : XM) : Option (Int32 × XM) := (Option.bind (F_X5_turns s0 u) (fun x1 => (if ain YY 0 43 6 = true then some ((mi x1.2 43 (Int32.toNatClampNeg 6)), x1.2) else none)))
set_option maxRecDepth 20000 in
set_option maxHeartbeats 4000000 in
theorem T_X5_paddle_34 (s0 : Int32) (u : XM) : GF E0 YY 4 yX5_paddle cX5_paddle 3 (some .int) 34 [some (.ref 35), none, none] [.int s0, .ref 35] u emI (F_X5_paddle_34 s0 u) := by
  unfold F_X5_paddle_34
  refine gf_callV_v (n2 := 1) (As := [.int s0]) (st := []) (b := 35) (ci := 5) (C := RX5) (q := 37) (hlen := rfl) rfl rfl kw876 kw878 kp32 dX5_paddle_34 kw879 kw7 (by decide +kernel) (by decide) (Nat.le_of_ble_eq_true rfl) (C_X5_turns s0 u) rfl rfl (fun x1 => ?_)
  refine gf_aload_n (i := 0) (q := 38) dX5_paddle_37 rfl rfl rfl ?_
  refine gf_getA (C := RX5) (T := TX5) (N := 33) (ci := 5) (k := 35) (j := 9) (t := 43) (q := 41) dX5_paddle_38 rfl rfl kin5 (by decide) kw613 rfl rfl ?_
  refine gf_bipush (q := 43) dX5_paddle_41 kb_6 rfl ?_
  refine gf_iald (q := 44) dX5_paddle_43 rfl ?_
  exact gf_reti dX5_paddle_44 rfl
def F_X5_paddle (v1 : Int32) (u : XM) : Option (Int32 × XM) := (Option.bind (F_X5_in (Int32.toInt64 v1) 0 1 u) (fun x2 => (if x2.1 = 0 then some ((-1), x2.2) else (Option.bind (F_X5_refuses x2.2) (fun x3 => (if x3.1 = 0 then (if v1 = 1 then F_X5_paddle_34 1 x3.2 else F_X5_paddle_34 0 x3.2) else some (x3.1, x3.2)))))))
set_option maxRecDepth 20000 in
set_option maxHeartbeats 4000000 in
theorem T_X5_paddle (v1 : Int32) (u : XM) : GF E0 YY 4 yX5_paddle cX5_paddle 3 (some .int) 0 [some (.ref 35), some (.int v1), none] [] u emI (F_X5_paddle v1 u) := by
  unfold F_X5_paddle
  refine gf_iload_n (i := 1) (q := 1) dX5_paddle_0 rfl rfl rfl ?_
  refine gf_i2l (q := 2) dX5_paddle_1 rfl ?_
  refine gf_lconst (v := 0) (q := 3) dX5_paddle_2 rfl rfl ?_
  refine gf_lconst (v := 1) (q := 4) dX5_paddle_3 rfl rfl ?_
  refine gf_callS_i (n2 := 3) (As := [.long (Int32.toInt64 v1), .long 0, .long 1]) (st := []) (q := 7) (hlen := rfl) kw713 kw714 dX5_paddle_4 kw715 kw7 (by decide +kernel) (by decide) (Nat.le_of_ble_eq_true rfl) (C_X5_in (Int32.toInt64 v1) 0 1 u) rfl rfl (fun x2 => ?_)
  refine gf_if_ne (t := 12) (q := 10) dX5_paddle_7 (by decide) rfl ?_ ?_
  · refine gf_iconst (q := 11) dX5_paddle_10 ki_m1 rfl ?_
    exact gf_reti dX5_paddle_11 rfl
  · refine gf_aload_n (i := 0) (q := 13) dX5_paddle_12 rfl rfl rfl ?_
    refine gf_callV_i (n2 := 0) (As := []) (st := []) (b := 35) (ci := 5) (C := RX5) (q := 16) (hlen := rfl) rfl rfl kw842 kw844 kp26 dX5_paddle_13 kw845 kw7 (by decide +kernel) (by decide) (Nat.le_of_ble_eq_true rfl) (C_X5_refuses x2.2) rfl rfl (fun x3 => ?_)
    refine gf_istore_n (i := 2) (lv2 := [some (.ref 35), some (.int v1), some (.int x3.1)]) (q := 17) dX5_paddle_16 rfl (by decide) rfl rfl ?_
    refine gf_iload_n (i := 2) (q := 18) dX5_paddle_17 rfl rfl rfl ?_
    refine gf_if_eq (t := 23) (q := 21) dX5_paddle_18 (by decide) rfl ?_ ?_
    · refine gf_aload_n (i := 0) (q := 24) dX5_paddle_23 rfl rfl rfl ?_
      refine gf_iload_n (i := 1) (q := 25) dX5_paddle_24 rfl rfl rfl ?_
      refine gf_iconst (q := 26) dX5_paddle_25 ki_1 rfl ?_
      refine gf_icmp_ne (t := 33) (q := 29) dX5_paddle_26 (by decide) rfl ?_ ?_
      · refine gf_iconst (q := 30) dX5_paddle_29 ki_1 rfl ?_
        refine gf_goto (q := 34) dX5_paddle_30 (by decide) ?_
        exact gf_mask (b := [true, false, false]) rfl (T_X5_paddle_34 1 x3.2)
      · refine gf_iconst (q := 34) dX5_paddle_33 ki_0 rfl ?_
        exact gf_mask (b := [true, false, false]) rfl (T_X5_paddle_34 0 x3.2)
    · refine gf_iload_n (i := 2) (q := 22) dX5_paddle_21 rfl rfl rfl ?_
      exact gf_reti dX5_paddle_22 rfl
theorem C_X5_paddle (v1 : Int32) (u : XM) : CF YY 4 yX5_paddle cX5_paddle 3 (some .int) [.ref 35, .int v1] u emI (F_X5_paddle v1 u) := cf_of (by decide +kernel) (Nat.le_of_ble_eq_true rfl) rfl (T_X5_paddle v1 u)
def F_X5_mayMove (v1 : Int32) (v2 : Int32) (u : XM) : Option (Int32 × XM) := (Option.bind (F_X5_isTaken v1 u) (fun x1 => (if x1.1 = 0 then (if ain YY 0 43 (0 + v1) = true then (Option.bind (F_X5_isCell ((mi x1.2 43 (Int32.toNatClampNeg (0 + v1))) + v2) x1.2) (fun x2 => (if x2.1 = 0 then some (0, x2.2) else some (1, x2.2)))) else none) else some (0, x1.2))))
set_option maxRecDepth 20000 in
set_option maxHeartbeats 4000000 in
theorem T_X5_mayMove (v1 : Int32) (v2 : Int32) (u : XM) : GF E0 YY 3 yX5_mayMove cX5_mayMove 3 (some .boolean) 0 [some (.ref 35), some (.int v1), some (.int v2)] [] u emI (F_X5_mayMove v1 v2 u) := by
  unfold F_X5_mayMove
  refine gf_aload_n (i := 0) (q := 1) dX5_mayMove_0 rfl rfl rfl ?_
  refine gf_iload_n (i := 1) (q := 2) dX5_mayMove_1 rfl rfl rfl ?_
  refine gf_callV_i (n2 := 1) (As := [.int v1]) (st := []) (b := 35) (ci := 5) (C := RX5) (q := 5) (hlen := rfl) rfl rfl kw815 kw817 kp23 dX5_mayMove_2 kw818 kw7 (by decide +kernel) (by decide) (Nat.le_of_ble_eq_true rfl) (C_X5_isTaken v1 u) rfl rfl (fun x1 => ?_)
  refine gf_if_ne (t := 28) (q := 8) dX5_mayMove_5 (by decide) rfl ?_ ?_
  · refine gf_aload_n (i := 0) (q := 9) dX5_mayMove_8 rfl rfl rfl ?_
    refine gf_getA (C := RX5) (T := TX5) (N := 33) (ci := 5) (k := 35) (j := 9) (t := 43) (q := 12) dX5_mayMove_9 rfl rfl kin5 (by decide) kw613 rfl rfl ?_
    refine gf_iconst (q := 13) dX5_mayMove_12 ki_0 rfl ?_
    refine gf_iload_n (i := 1) (q := 14) dX5_mayMove_13 rfl rfl rfl ?_
    refine gf_iadd (q := 15) dX5_mayMove_14 rfl ?_
    refine gf_iald (q := 16) dX5_mayMove_15 rfl ?_
    refine gf_iload_n (i := 2) (q := 17) dX5_mayMove_16 rfl rfl rfl ?_
    refine gf_iadd (q := 18) dX5_mayMove_17 rfl ?_
    refine gf_callS_i (n2 := 1) (As := [.int ((mi x1.2 43 (Int32.toNatClampNeg (0 + v1))) + v2)]) (st := []) (q := 21) (hlen := rfl) kw834 kw835 dX5_mayMove_18 kw836 kw7 (by decide +kernel) (by decide) (Nat.le_of_ble_eq_true rfl) (C_X5_isCell ((mi x1.2 43 (Int32.toNatClampNeg (0 + v1))) + v2) x1.2) rfl rfl (fun x2 => ?_)
    refine gf_if_eq (t := 28) (q := 24) dX5_mayMove_21 (by decide) rfl ?_ ?_
    · refine gf_iconst (q := 29) dX5_mayMove_28 ki_0 rfl ?_
      exact gf_retz dX5_mayMove_29 rfl rfl
    · refine gf_iconst (q := 25) dX5_mayMove_24 ki_1 rfl ?_
      refine gf_goto (q := 29) dX5_mayMove_25 (by decide) ?_
      exact gf_retz dX5_mayMove_29 rfl rfl
  · refine gf_iconst (q := 29) dX5_mayMove_28 ki_0 rfl ?_
    exact gf_retz dX5_mayMove_29 rfl rfl
theorem C_X5_mayMove (v1 : Int32) (v2 : Int32) (u : XM) : CF YY 3 yX5_mayMove cX5_mayMove 3 (some .boolean) [.ref 35, .int v1, .int v2] u emI (F_X5_mayMove v1 v2 u) := cf_of (by decide +kernel) (Nat.le_of_ble_eq_true rfl) rfl (T_X5_mayMove v1 v2 u)
def F_X5_goes (v1 : Int32) (v2 : Int32) (u : XM) : Option (Unit × XM) := (Option.bind (F_X5_remember u) (fun x1 => (if ain YY 0 43 (0 + v1) = true then (if ain YY 0 43 (0 + v1) = true then some ((), (wi x1.2 43 (Int32.toNatClampNeg (0 + v1)) ((mi x1.2 43 (Int32.toNatClampNeg (0 + v1))) + v2))) else none) else none)))
set_option maxRecDepth 20000 in
set_option maxHeartbeats 4000000 in
theorem T_X5_goes (v1 : Int32) (v2 : Int32) (u : XM) : GF E0 YY 3 yX5_goes cX5_goes 3 none 0 [some (.ref 35), some (.int v1), some (.int v2)] [] u emV (F_X5_goes v1 v2 u) := by
  unfold F_X5_goes
  refine gf_aload_n (i := 0) (q := 1) dX5_goes_0 rfl rfl rfl ?_
  refine gf_callV_v (n2 := 0) (As := []) (st := []) (b := 35) (ci := 5) (C := RX5) (q := 4) (hlen := rfl) rfl rfl kw850 kw852 kp28 dX5_goes_1 kw853 kw7 (by decide +kernel) (by decide) (Nat.le_of_ble_eq_true rfl) (C_X5_remember u) rfl rfl (fun x1 => ?_)
  refine gf_aload_n (i := 0) (q := 5) dX5_goes_4 rfl rfl rfl ?_
  refine gf_getA (C := RX5) (T := TX5) (N := 33) (ci := 5) (k := 35) (j := 9) (t := 43) (q := 8) dX5_goes_5 rfl rfl kin5 (by decide) kw613 rfl rfl ?_
  refine gf_iconst (q := 9) dX5_goes_8 ki_0 rfl ?_
  refine gf_iload_n (i := 1) (q := 10) dX5_goes_9 rfl rfl rfl ?_
  refine gf_iadd (q := 11) dX5_goes_10 rfl ?_
  refine gf_dup2 (q := 12) dX5_goes_11 rfl rfl rfl ?_
  refine gf_iald (q := 13) dX5_goes_12 rfl ?_
  refine gf_iload_n (i := 2) (q := 14) dX5_goes_13 rfl rfl rfl ?_
  refine gf_iadd (q := 15) dX5_goes_14 rfl ?_
  refine gf_iast (q := 16) dX5_goes_15 rfl ?_
  exact gf_retv dX5_goes_16 rfl
theorem C_X5_goes (v1 : Int32) (v2 : Int32) (u : XM) : CF YY 3 yX5_goes cX5_goes 3 none [.ref 35, .int v1, .int v2] u emV (F_X5_goes v1 v2 u) := cf_of (by decide +kernel) (Nat.le_of_ble_eq_true rfl) rfl (T_X5_goes v1 v2 u)
def F_X5_move_20 (v1 : Int32) (v2 : Int32) (u : XM) : Option (Int32 × XM) := (Option.bind (F_X5_mayMove v1 v2 u) (fun x1 => (if x1.1 = 0 then some ((-4), x1.2) else (if (mi x1.2 35 10) = 40 then some ((-2), x1.2) else (Option.bind (F_X5_goes v1 v2 x1.2) (fun x2 => (if ain YY 0 43 (0 + v1) = true then some ((mi x2.2 43 (Int32.toNatClampNeg (0 + v1))), x2.2) else none)))))))
set_option maxRecDepth 20000 in
set_option maxHeartbeats 4000000 in
theorem T_X5_move_20 (v1 : Int32) (v2 : Int32) (u : XM) : GF E0 YY 4 yX5_move cX5_move 3 (some .int) 20 [some (.ref 35), some (.int v1), some (.int v2)] [] u emI (F_X5_move_20 v1 v2 u) := by
  unfold F_X5_move_20
  refine gf_aload_n (i := 0) (q := 21) dX5_move_20 rfl rfl rfl ?_
  refine gf_iload_n (i := 1) (q := 22) dX5_move_21 rfl rfl rfl ?_
  refine gf_iload_n (i := 2) (q := 23) dX5_move_22 rfl rfl rfl ?_
  refine gf_callV_i (n2 := 2) (As := [.int v1, .int v2]) (st := []) (b := 35) (ci := 5) (C := RX5) (q := 26) (hlen := rfl) rfl rfl kw887 kw889 kp33 dX5_move_23 kw890 kw7 (by decide +kernel) (by decide) (Nat.le_of_ble_eq_true rfl) (C_X5_mayMove v1 v2 u) rfl rfl (fun x1 => ?_)
  refine gf_if_ne (t := 32) (q := 29) dX5_move_26 (by decide) rfl ?_ ?_
  · refine gf_bipush (q := 31) dX5_move_29 kb_m4 rfl ?_
    exact gf_reti dX5_move_31 rfl
  · refine gf_aload_n (i := 0) (q := 33) dX5_move_32 rfl rfl rfl ?_
    refine gf_getI (C := RX5) (T := TX5) (N := 33) (ci := 5) (k := 35) (j := 10) (q := 36) dX5_move_33 rfl rfl kin5 (by decide) kw614 rfl rfl ?_
    refine gf_bipush (q := 38) dX5_move_36 kb_40 rfl ?_
    refine gf_icmp_ne (t := 44) (q := 41) dX5_move_38 (by decide) rfl ?_ ?_
    · refine gf_bipush (q := 43) dX5_move_41 kb_m2 rfl ?_
      exact gf_reti dX5_move_43 rfl
    · refine gf_aload_n (i := 0) (q := 45) dX5_move_44 rfl rfl rfl ?_
      refine gf_iload_n (i := 1) (q := 46) dX5_move_45 rfl rfl rfl ?_
      refine gf_iload_n (i := 2) (q := 47) dX5_move_46 rfl rfl rfl ?_
      refine gf_callV_v (n2 := 2) (As := [.int v1, .int v2]) (st := []) (b := 35) (ci := 5) (C := RX5) (q := 50) (hlen := rfl) rfl rfl kw891 kw893 kp34 dX5_move_47 kw894 kw7 (by decide +kernel) (by decide) (Nat.le_of_ble_eq_true rfl) (C_X5_goes v1 v2 x1.2) rfl rfl (fun x2 => ?_)
      refine gf_aload_n (i := 0) (q := 51) dX5_move_50 rfl rfl rfl ?_
      refine gf_getA (C := RX5) (T := TX5) (N := 33) (ci := 5) (k := 35) (j := 9) (t := 43) (q := 54) dX5_move_51 rfl rfl kin5 (by decide) kw613 rfl rfl ?_
      refine gf_iconst (q := 55) dX5_move_54 ki_0 rfl ?_
      refine gf_iload_n (i := 1) (q := 56) dX5_move_55 rfl rfl rfl ?_
      refine gf_iadd (q := 57) dX5_move_56 rfl ?_
      refine gf_iald (q := 58) dX5_move_57 rfl ?_
      exact gf_reti dX5_move_58 rfl
def F_X5_move (v1 : Int32) (v2 : Int32) (u : XM) : Option (Int32 × XM) := (Option.bind (F_X5_isThing v1 u) (fun x3 => (if x3.1 = 0 then some ((-1), x3.2) else (if v2 = 1 then F_X5_move_20 v1 v2 x3.2 else (if v2 = (-1) then F_X5_move_20 v1 v2 x3.2 else some ((-1), x3.2))))))
set_option maxRecDepth 20000 in
set_option maxHeartbeats 4000000 in
theorem T_X5_move (v1 : Int32) (v2 : Int32) (u : XM) : GF E0 YY 4 yX5_move cX5_move 3 (some .int) 0 [some (.ref 35), some (.int v1), some (.int v2)] [] u emI (F_X5_move v1 v2 u) := by
  unfold F_X5_move
  refine gf_aload_n (i := 0) (q := 1) dX5_move_0 rfl rfl rfl ?_
  refine gf_iload_n (i := 1) (q := 2) dX5_move_1 rfl rfl rfl ?_
  refine gf_callV_i (n2 := 1) (As := [.int v1]) (st := []) (b := 35) (ci := 5) (C := RX5) (q := 5) (hlen := rfl) rfl rfl kw795 kw797 kp20 dX5_move_2 kw798 kw7 (by decide +kernel) (by decide) (Nat.le_of_ble_eq_true rfl) (C_X5_isThing v1 u) rfl rfl (fun x3 => ?_)
  refine gf_if_eq (t := 18) (q := 8) dX5_move_5 (by decide) rfl ?_ ?_
  · refine gf_iconst (q := 19) dX5_move_18 ki_m1 rfl ?_
    exact gf_reti dX5_move_19 rfl
  · refine gf_iload_n (i := 2) (q := 9) dX5_move_8 rfl rfl rfl ?_
    refine gf_iconst (q := 10) dX5_move_9 ki_1 rfl ?_
    refine gf_icmp_eq (t := 20) (q := 13) dX5_move_10 (by decide) rfl ?_ ?_
    · exact (T_X5_move_20 v1 v2 x3.2)
    · refine gf_iload_n (i := 2) (q := 14) dX5_move_13 rfl rfl rfl ?_
      refine gf_iconst (q := 15) dX5_move_14 ki_m1 rfl ?_
      refine gf_icmp_eq (t := 20) (q := 18) dX5_move_15 (by decide) rfl ?_ ?_
      · exact (T_X5_move_20 v1 v2 x3.2)
      · refine gf_iconst (q := 19) dX5_move_18 ki_m1 rfl ?_
        exact gf_reti dX5_move_19 rfl
theorem C_X5_move (v1 : Int32) (v2 : Int32) (u : XM) : CF YY 4 yX5_move cX5_move 3 (some .int) [.ref 35, .int v1, .int v2] u emI (F_X5_move v1 v2 u) := cf_of (by decide +kernel) (Nat.le_of_ble_eq_true rfl) rfl (T_X5_move v1 v2 u)
def F_X5_mayTake (v1 : Int32) (u : XM) : Option (Int32 × XM) := (Option.bind (F_X5_isTaken v1 u) (fun x1 => (if x1.1 = 0 then (if ain YY 0 43 6 = true then (if (mi x1.2 43 (Int32.toNatClampNeg 6)) = 0 then some (1, x1.2) else some (0, x1.2)) else none) else some (0, x1.2))))
set_option maxRecDepth 20000 in
set_option maxHeartbeats 4000000 in
theorem T_X5_mayTake (v1 : Int32) (u : XM) : GF E0 YY 2 yX5_mayTake cX5_mayTake 2 (some .boolean) 0 [some (.ref 35), some (.int v1)] [] u emI (F_X5_mayTake v1 u) := by
  unfold F_X5_mayTake
  refine gf_aload_n (i := 0) (q := 1) dX5_mayTake_0 rfl rfl rfl ?_
  refine gf_iload_n (i := 1) (q := 2) dX5_mayTake_1 rfl rfl rfl ?_
  refine gf_callV_i (n2 := 1) (As := [.int v1]) (st := []) (b := 35) (ci := 5) (C := RX5) (q := 5) (hlen := rfl) rfl rfl kw815 kw817 kp23 dX5_mayTake_2 kw818 kw7 (by decide +kernel) (by decide) (Nat.le_of_ble_eq_true rfl) (C_X5_isTaken v1 u) rfl rfl (fun x1 => ?_)
  refine gf_if_ne (t := 22) (q := 8) dX5_mayTake_5 (by decide) rfl ?_ ?_
  · refine gf_aload_n (i := 0) (q := 9) dX5_mayTake_8 rfl rfl rfl ?_
    refine gf_getA (C := RX5) (T := TX5) (N := 33) (ci := 5) (k := 35) (j := 9) (t := 43) (q := 12) dX5_mayTake_9 rfl rfl kin5 (by decide) kw613 rfl rfl ?_
    refine gf_bipush (q := 14) dX5_mayTake_12 kb_6 rfl ?_
    refine gf_iald (q := 15) dX5_mayTake_14 rfl ?_
    refine gf_if_ne (t := 22) (q := 18) dX5_mayTake_15 (by decide) rfl ?_ ?_
    · refine gf_iconst (q := 19) dX5_mayTake_18 ki_1 rfl ?_
      refine gf_goto (q := 23) dX5_mayTake_19 (by decide) ?_
      exact gf_retz dX5_mayTake_23 rfl rfl
    · refine gf_iconst (q := 23) dX5_mayTake_22 ki_0 rfl ?_
      exact gf_retz dX5_mayTake_23 rfl rfl
  · refine gf_iconst (q := 23) dX5_mayTake_22 ki_0 rfl ?_
    exact gf_retz dX5_mayTake_23 rfl rfl
theorem C_X5_mayTake (v1 : Int32) (u : XM) : CF YY 2 yX5_mayTake cX5_mayTake 2 (some .boolean) [.ref 35, .int v1] u emI (F_X5_mayTake v1 u) := cf_of (by decide +kernel) (Nat.le_of_ble_eq_true rfl) rfl (T_X5_mayTake v1 u)
def F_X5_takesHome (v1 : Int32) (u : XM) : Option (Unit × XM) := (Option.bind (F_X5_remember u) (fun x1 => (if ain YY 0 43 (0 + v1) = true then some ((), (wi x1.2 43 (Int32.toNatClampNeg (0 + v1)) (-9))) else none)))
set_option maxRecDepth 20000 in
set_option maxHeartbeats 4000000 in
theorem T_X5_takesHome (v1 : Int32) (u : XM) : GF E0 YY 3 yX5_takesHome cX5_takesHome 2 none 0 [some (.ref 35), some (.int v1)] [] u emV (F_X5_takesHome v1 u) := by
  unfold F_X5_takesHome
  refine gf_aload_n (i := 0) (q := 1) dX5_takesHome_0 rfl rfl rfl ?_
  refine gf_callV_v (n2 := 0) (As := []) (st := []) (b := 35) (ci := 5) (C := RX5) (q := 4) (hlen := rfl) rfl rfl kw850 kw852 kp28 dX5_takesHome_1 kw853 kw7 (by decide +kernel) (by decide) (Nat.le_of_ble_eq_true rfl) (C_X5_remember u) rfl rfl (fun x1 => ?_)
  refine gf_aload_n (i := 0) (q := 5) dX5_takesHome_4 rfl rfl rfl ?_
  refine gf_getA (C := RX5) (T := TX5) (N := 33) (ci := 5) (k := 35) (j := 9) (t := 43) (q := 8) dX5_takesHome_5 rfl rfl kin5 (by decide) kw613 rfl rfl ?_
  refine gf_iconst (q := 9) dX5_takesHome_8 ki_0 rfl ?_
  refine gf_iload_n (i := 1) (q := 10) dX5_takesHome_9 rfl rfl rfl ?_
  refine gf_iadd (q := 11) dX5_takesHome_10 rfl ?_
  refine gf_bipush (q := 13) dX5_takesHome_11 kb_m9 rfl ?_
  refine gf_iast (q := 14) dX5_takesHome_13 rfl ?_
  exact gf_retv dX5_takesHome_14 rfl
theorem C_X5_takesHome (v1 : Int32) (u : XM) : CF YY 3 yX5_takesHome cX5_takesHome 2 none [.ref 35, .int v1] u emV (F_X5_takesHome v1 u) := cf_of (by decide +kernel) (Nat.le_of_ble_eq_true rfl) rfl (T_X5_takesHome v1 u)
def F_X5_take (v1 : Int32) (u : XM) : Option (Int32 × XM) := (Option.bind (F_X5_isThing v1 u) (fun x1 => (if x1.1 = 0 then some ((-1), x1.2) else (Option.bind (F_X5_mayTake v1 x1.2) (fun x2 => (if x2.1 = 0 then some ((-4), x2.2) else (if (mi x2.2 35 10) = 40 then some ((-2), x2.2) else (if ain YY 0 43 (0 + v1) = true then (if ain YY 0 42 v1 = true then (Option.bind (F_X5_abs ((mi x2.2 43 (Int32.toNatClampNeg (0 + v1))) - (mi x2.2 42 (Int32.toNatClampNeg v1))) x2.2) (fun x3 => (Option.bind (F_X5_takesHome v1 x3.2) (fun x4 => some (x3.1, x4.2))))) else none) else none))))))))
set_option maxRecDepth 20000 in
set_option maxHeartbeats 4000000 in
theorem T_X5_take (v1 : Int32) (u : XM) : GF E0 YY 4 yX5_take cX5_take 3 (some .int) 0 [some (.ref 35), some (.int v1), none] [] u emI (F_X5_take v1 u) := by
  unfold F_X5_take
  refine gf_aload_n (i := 0) (q := 1) dX5_take_0 rfl rfl rfl ?_
  refine gf_iload_n (i := 1) (q := 2) dX5_take_1 rfl rfl rfl ?_
  refine gf_callV_i (n2 := 1) (As := [.int v1]) (st := []) (b := 35) (ci := 5) (C := RX5) (q := 5) (hlen := rfl) rfl rfl kw795 kw797 kp20 dX5_take_2 kw798 kw7 (by decide +kernel) (by decide) (Nat.le_of_ble_eq_true rfl) (C_X5_isThing v1 u) rfl rfl (fun x1 => ?_)
  refine gf_if_ne (t := 10) (q := 8) dX5_take_5 (by decide) rfl ?_ ?_
  · refine gf_iconst (q := 9) dX5_take_8 ki_m1 rfl ?_
    exact gf_reti dX5_take_9 rfl
  · refine gf_aload_n (i := 0) (q := 11) dX5_take_10 rfl rfl rfl ?_
    refine gf_iload_n (i := 1) (q := 12) dX5_take_11 rfl rfl rfl ?_
    refine gf_callV_i (n2 := 1) (As := [.int v1]) (st := []) (b := 35) (ci := 5) (C := RX5) (q := 15) (hlen := rfl) rfl rfl kw899 kw901 kp35 dX5_take_12 kw902 kw7 (by decide +kernel) (by decide) (Nat.le_of_ble_eq_true rfl) (C_X5_mayTake v1 x1.2) rfl rfl (fun x2 => ?_)
    refine gf_if_ne (t := 21) (q := 18) dX5_take_15 (by decide) rfl ?_ ?_
    · refine gf_bipush (q := 20) dX5_take_18 kb_m4 rfl ?_
      exact gf_reti dX5_take_20 rfl
    · refine gf_aload_n (i := 0) (q := 22) dX5_take_21 rfl rfl rfl ?_
      refine gf_getI (C := RX5) (T := TX5) (N := 33) (ci := 5) (k := 35) (j := 10) (q := 25) dX5_take_22 rfl rfl kin5 (by decide) kw614 rfl rfl ?_
      refine gf_bipush (q := 27) dX5_take_25 kb_40 rfl ?_
      refine gf_icmp_ne (t := 33) (q := 30) dX5_take_27 (by decide) rfl ?_ ?_
      · refine gf_bipush (q := 32) dX5_take_30 kb_m2 rfl ?_
        exact gf_reti dX5_take_32 rfl
      · refine gf_aload_n (i := 0) (q := 34) dX5_take_33 rfl rfl rfl ?_
        refine gf_getA (C := RX5) (T := TX5) (N := 33) (ci := 5) (k := 35) (j := 9) (t := 43) (q := 37) dX5_take_34 rfl rfl kin5 (by decide) kw613 rfl rfl ?_
        refine gf_iconst (q := 38) dX5_take_37 ki_0 rfl ?_
        refine gf_iload_n (i := 1) (q := 39) dX5_take_38 rfl rfl rfl ?_
        refine gf_iadd (q := 40) dX5_take_39 rfl ?_
        refine gf_iald (q := 41) dX5_take_40 rfl ?_
        refine gf_aload_n (i := 0) (q := 42) dX5_take_41 rfl rfl rfl ?_
        refine gf_getA (C := RX5) (T := TX5) (N := 33) (ci := 5) (k := 35) (j := 8) (t := 42) (q := 45) dX5_take_42 rfl rfl kin5 (by decide) kw612 rfl rfl ?_
        refine gf_iload_n (i := 1) (q := 46) dX5_take_45 rfl rfl rfl ?_
        refine gf_iald (q := 47) dX5_take_46 rfl ?_
        refine gf_isub (q := 48) dX5_take_47 rfl ?_
        refine gf_callS_i (n2 := 1) (As := [.int ((mi x2.2 43 (Int32.toNatClampNeg (0 + v1))) - (mi x2.2 42 (Int32.toNatClampNeg v1)))]) (st := []) (q := 51) (hlen := rfl) kw903 kw904 dX5_take_48 kw905 kw7 (by decide +kernel) (by decide) (Nat.le_of_ble_eq_true rfl) (C_X5_abs ((mi x2.2 43 (Int32.toNatClampNeg (0 + v1))) - (mi x2.2 42 (Int32.toNatClampNeg v1))) x2.2) rfl rfl (fun x3 => ?_)
        refine gf_istore_n (i := 2) (lv2 := [some (.ref 35), some (.int v1), some (.int x3.1)]) (q := 52) dX5_take_51 rfl (by decide) rfl rfl ?_
        refine gf_aload_n (i := 0) (q := 53) dX5_take_52 rfl rfl rfl ?_
        refine gf_iload_n (i := 1) (q := 54) dX5_take_53 rfl rfl rfl ?_
        refine gf_callV_v (n2 := 1) (As := [.int v1]) (st := []) (b := 35) (ci := 5) (C := RX5) (q := 57) (hlen := rfl) rfl rfl kw906 kw908 kp36 dX5_take_54 kw909 kw7 (by decide +kernel) (by decide) (Nat.le_of_ble_eq_true rfl) (C_X5_takesHome v1 x3.2) rfl rfl (fun x4 => ?_)
        refine gf_iload_n (i := 2) (q := 58) dX5_take_57 rfl rfl rfl ?_
        exact gf_reti dX5_take_58 rfl
theorem C_X5_take (v1 : Int32) (u : XM) : CF YY 4 yX5_take cX5_take 3 (some .int) [.ref 35, .int v1] u emI (F_X5_take v1 u) := cf_of (by decide +kernel) (Nat.le_of_ble_eq_true rfl) rfl (T_X5_take v1 u)
def F_X5_undo_45 (v1 : Int32) (v2 : Int32) (u : XM) : Option (Int32 × XM) := some (v2, (wi u 35 10 v1))
set_option maxRecDepth 20000 in
set_option maxHeartbeats 4000000 in
theorem T_X5_undo_45 (v1 : Int32) (v2 : Int32) (u : XM) : GF E0 YY 2 yX5_undo cX5_undo 3 (some .int) 45 [some (.ref 35), some (.int v1), some (.int v2)] [] u emI (F_X5_undo_45 v1 v2 u) := by
  unfold F_X5_undo_45
  refine gf_aload_n (i := 0) (q := 46) dX5_undo_45 rfl rfl rfl ?_
  refine gf_iload_n (i := 1) (q := 47) dX5_undo_46 rfl rfl rfl ?_
  refine gf_putI (C := RX5) (T := TX5) (N := 33) (ci := 5) (k := 35) (j := 10) (q := 50) dX5_undo_47 rfl rfl kin5 tyX5 tyX5_ok nmX5 (by decide) kw614 rfl rfl rfl rfl ?_
  refine gf_iload_n (i := 2) (q := 51) dX5_undo_50 rfl rfl rfl ?_
  exact gf_reti dX5_undo_51 rfl
def F_X5_undo (v1 : Int32) (u : XM) : Option (Int32 × XM) := (Option.bind (F_X5_in (Int32.toInt64 v1) 0 (Int32.toInt64 (mi u 35 10)) u) (fun x1 => (if x1.1 = 0 then some ((-1), x1.2) else (if ((mi x1.2 35 10) - v1) ≤ 0 then F_X5_undo_45 v1 ((mi x1.2 35 10) - v1) x1.2 else (Option.bind (F_X5_copies 44 (8 * v1) 43 0 8 x1.2) (fun x2 => F_X5_undo_45 v1 ((mi x1.2 35 10) - v1) x2.2))))))
set_option maxRecDepth 20000 in
set_option maxHeartbeats 4000000 in
theorem T_X5_undo (v1 : Int32) (u : XM) : GF E0 YY 2 yX5_undo cX5_undo 3 (some .int) 0 [some (.ref 35), some (.int v1), none] [] u emI (F_X5_undo v1 u) := by
  unfold F_X5_undo
  refine gf_iload_n (i := 1) (q := 1) dX5_undo_0 rfl rfl rfl ?_
  refine gf_i2l (q := 2) dX5_undo_1 rfl ?_
  refine gf_lconst (v := 0) (q := 3) dX5_undo_2 rfl rfl ?_
  refine gf_aload_n (i := 0) (q := 4) dX5_undo_3 rfl rfl rfl ?_
  refine gf_getI (C := RX5) (T := TX5) (N := 33) (ci := 5) (k := 35) (j := 10) (q := 7) dX5_undo_4 rfl rfl kin5 (by decide) kw614 rfl rfl ?_
  refine gf_i2l (q := 8) dX5_undo_7 rfl ?_
  refine gf_callS_i (n2 := 3) (As := [.long (Int32.toInt64 v1), .long 0, .long (Int32.toInt64 (mi u 35 10))]) (st := []) (q := 11) (hlen := rfl) kw713 kw714 dX5_undo_8 kw715 kw7 (by decide +kernel) (by decide) (Nat.le_of_ble_eq_true rfl) (C_X5_in (Int32.toInt64 v1) 0 (Int32.toInt64 (mi u 35 10)) u) rfl rfl (fun x1 => ?_)
  refine gf_if_ne (t := 16) (q := 14) dX5_undo_11 (by decide) rfl ?_ ?_
  · refine gf_iconst (q := 15) dX5_undo_14 ki_m1 rfl ?_
    exact gf_reti dX5_undo_15 rfl
  · refine gf_aload_n (i := 0) (q := 17) dX5_undo_16 rfl rfl rfl ?_
    refine gf_getI (C := RX5) (T := TX5) (N := 33) (ci := 5) (k := 35) (j := 10) (q := 20) dX5_undo_17 rfl rfl kin5 (by decide) kw614 rfl rfl ?_
    refine gf_iload_n (i := 1) (q := 21) dX5_undo_20 rfl rfl rfl ?_
    refine gf_isub (q := 22) dX5_undo_21 rfl ?_
    refine gf_istore_n (i := 2) (lv2 := [some (.ref 35), some (.int v1), some (.int ((mi x1.2 35 10) - v1))]) (q := 23) dX5_undo_22 rfl (by decide) rfl rfl ?_
    refine gf_iload_n (i := 2) (q := 24) dX5_undo_23 rfl rfl rfl ?_
    refine gf_if_le (t := 45) (q := 27) dX5_undo_24 (by decide) rfl ?_ ?_
    · exact (T_X5_undo_45 v1 ((mi x1.2 35 10) - v1) x1.2)
    · refine gf_aload_n (i := 0) (q := 28) dX5_undo_27 rfl rfl rfl ?_
      refine gf_getA (C := RX5) (T := TX5) (N := 33) (ci := 5) (k := 35) (j := 11) (t := 44) (q := 31) dX5_undo_28 rfl rfl kin5 (by decide) kw615 rfl rfl ?_
      refine gf_bipush (q := 33) dX5_undo_31 kb_8 rfl ?_
      refine gf_iload_n (i := 1) (q := 34) dX5_undo_33 rfl rfl rfl ?_
      refine gf_imul (q := 35) dX5_undo_34 rfl ?_
      refine gf_aload_n (i := 0) (q := 36) dX5_undo_35 rfl rfl rfl ?_
      refine gf_getA (C := RX5) (T := TX5) (N := 33) (ci := 5) (k := 35) (j := 9) (t := 43) (q := 39) dX5_undo_36 rfl rfl kin5 (by decide) kw613 rfl rfl ?_
      refine gf_iconst (q := 40) dX5_undo_39 ki_0 rfl ?_
      refine gf_bipush (q := 42) dX5_undo_40 kb_8 rfl ?_
      refine gf_callS_v (n2 := 5) (As := [.ref 44, .int (8 * v1), .ref 43, .int 0, .int 8]) (st := []) (q := 45) (hlen := rfl) kw854 kw855 dX5_undo_42 kw856 kw7 (by decide +kernel) (by decide) (Nat.le_of_ble_eq_true rfl) (C_X5_copies 44 (8 * v1) 43 0 8 x1.2) rfl rfl (fun x2 => ?_)
      exact (T_X5_undo_45 v1 ((mi x1.2 35 10) - v1) x2.2)
theorem C_X5_undo (v1 : Int32) (u : XM) : CF YY 2 yX5_undo cX5_undo 3 (some .int) [.ref 35, .int v1] u emI (F_X5_undo v1 u) := cf_of (by decide +kernel) (Nat.le_of_ble_eq_true rfl) rfl (T_X5_undo v1 u)
def F_X5_keep (v1 : Int32) (u : XM) : Option (Int32 × XM) := (Option.bind (F_X5_in (Int32.toInt64 v1) 0 2 u) (fun x1 => (if x1.1 = 0 then some ((-1), x1.2) else (if (mi x1.2 35 4) = 0 then some ((-4), x1.2) else (Option.bind (F_X5_copies 43 0 45 (329 * v1) 8 x1.2) (fun x2 => (Option.bind (F_X5_copies 44 0 45 ((329 * v1) + 8) 320 x2.2) (fun x3 => (if ain YY 0 45 ((329 * v1) + 328) = true then (if ain YY 2 46 v1 = true then some ((mi (wi (wi x3.2 45 (Int32.toNatClampNeg ((329 * v1) + 328)) (mi x3.2 35 10)) 46 (Int32.toNatClampNeg v1) (vp_nar .boolean 1)) 35 10), (wi (wi x3.2 45 (Int32.toNatClampNeg ((329 * v1) + 328)) (mi x3.2 35 10)) 46 (Int32.toNatClampNeg v1) (vp_nar .boolean 1))) else none) else none)))))))))
set_option maxRecDepth 20000 in
set_option maxHeartbeats 4000000 in
theorem T_X5_keep (v1 : Int32) (u : XM) : GF E0 YY 2 yX5_keep cX5_keep 2 (some .int) 0 [some (.ref 35), some (.int v1)] [] u emI (F_X5_keep v1 u) := by
  unfold F_X5_keep
  refine gf_iload_n (i := 1) (q := 1) dX5_keep_0 rfl rfl rfl ?_
  refine gf_i2l (q := 2) dX5_keep_1 rfl ?_
  refine gf_lconst (v := 0) (q := 3) dX5_keep_2 rfl rfl ?_
  refine gf_ldc2 (q := 6) dX5_keep_3 kw918 rfl ?_
  refine gf_callS_i (n2 := 3) (As := [.long (Int32.toInt64 v1), .long 0, .long 2]) (st := []) (q := 9) (hlen := rfl) kw713 kw714 dX5_keep_6 kw715 kw7 (by decide +kernel) (by decide) (Nat.le_of_ble_eq_true rfl) (C_X5_in (Int32.toInt64 v1) 0 2 u) rfl rfl (fun x1 => ?_)
  refine gf_if_ne (t := 14) (q := 12) dX5_keep_9 (by decide) rfl ?_ ?_
  · refine gf_iconst (q := 13) dX5_keep_12 ki_m1 rfl ?_
    exact gf_reti dX5_keep_13 rfl
  · refine gf_aload_n (i := 0) (q := 15) dX5_keep_14 rfl rfl rfl ?_
    refine gf_getI (C := RX5) (T := TX5) (N := 33) (ci := 5) (k := 35) (j := 4) (q := 18) dX5_keep_15 rfl rfl kin5 (by decide) kw608 rfl rfl ?_
    refine gf_if_ne (t := 24) (q := 21) dX5_keep_18 (by decide) rfl ?_ ?_
    · refine gf_bipush (q := 23) dX5_keep_21 kb_m4 rfl ?_
      exact gf_reti dX5_keep_23 rfl
    · refine gf_aload_n (i := 0) (q := 25) dX5_keep_24 rfl rfl rfl ?_
      refine gf_getA (C := RX5) (T := TX5) (N := 33) (ci := 5) (k := 35) (j := 9) (t := 43) (q := 28) dX5_keep_25 rfl rfl kin5 (by decide) kw613 rfl rfl ?_
      refine gf_iconst (q := 29) dX5_keep_28 ki_0 rfl ?_
      refine gf_aload_n (i := 0) (q := 30) dX5_keep_29 rfl rfl rfl ?_
      refine gf_getA (C := RX5) (T := TX5) (N := 33) (ci := 5) (k := 35) (j := 12) (t := 45) (q := 33) dX5_keep_30 rfl rfl kin5 (by decide) kw616 rfl rfl ?_
      refine gf_sipush (q := 36) dX5_keep_33 ks_329 rfl ?_
      refine gf_iload_n (i := 1) (q := 37) dX5_keep_36 rfl rfl rfl ?_
      refine gf_imul (q := 38) dX5_keep_37 rfl ?_
      refine gf_bipush (q := 40) dX5_keep_38 kb_8 rfl ?_
      refine gf_callS_v (n2 := 5) (As := [.ref 43, .int 0, .ref 45, .int (329 * v1), .int 8]) (st := []) (q := 43) (hlen := rfl) kw854 kw855 dX5_keep_40 kw856 kw7 (by decide +kernel) (by decide) (Nat.le_of_ble_eq_true rfl) (C_X5_copies 43 0 45 (329 * v1) 8 x1.2) rfl rfl (fun x2 => ?_)
      refine gf_aload_n (i := 0) (q := 44) dX5_keep_43 rfl rfl rfl ?_
      refine gf_getA (C := RX5) (T := TX5) (N := 33) (ci := 5) (k := 35) (j := 11) (t := 44) (q := 47) dX5_keep_44 rfl rfl kin5 (by decide) kw615 rfl rfl ?_
      refine gf_iconst (q := 48) dX5_keep_47 ki_0 rfl ?_
      refine gf_aload_n (i := 0) (q := 49) dX5_keep_48 rfl rfl rfl ?_
      refine gf_getA (C := RX5) (T := TX5) (N := 33) (ci := 5) (k := 35) (j := 12) (t := 45) (q := 52) dX5_keep_49 rfl rfl kin5 (by decide) kw616 rfl rfl ?_
      refine gf_sipush (q := 55) dX5_keep_52 ks_329 rfl ?_
      refine gf_iload_n (i := 1) (q := 56) dX5_keep_55 rfl rfl rfl ?_
      refine gf_imul (q := 57) dX5_keep_56 rfl ?_
      refine gf_bipush (q := 59) dX5_keep_57 kb_8 rfl ?_
      refine gf_iadd (q := 60) dX5_keep_59 rfl ?_
      refine gf_sipush (q := 63) dX5_keep_60 ks_320 rfl ?_
      refine gf_callS_v (n2 := 5) (As := [.ref 44, .int 0, .ref 45, .int ((329 * v1) + 8), .int 320]) (st := []) (q := 66) (hlen := rfl) kw854 kw855 dX5_keep_63 kw856 kw7 (by decide +kernel) (by decide) (Nat.le_of_ble_eq_true rfl) (C_X5_copies 44 0 45 ((329 * v1) + 8) 320 x2.2) rfl rfl (fun x3 => ?_)
      refine gf_aload_n (i := 0) (q := 67) dX5_keep_66 rfl rfl rfl ?_
      refine gf_getA (C := RX5) (T := TX5) (N := 33) (ci := 5) (k := 35) (j := 12) (t := 45) (q := 70) dX5_keep_67 rfl rfl kin5 (by decide) kw616 rfl rfl ?_
      refine gf_sipush (q := 73) dX5_keep_70 ks_329 rfl ?_
      refine gf_iload_n (i := 1) (q := 74) dX5_keep_73 rfl rfl rfl ?_
      refine gf_imul (q := 75) dX5_keep_74 rfl ?_
      refine gf_sipush (q := 78) dX5_keep_75 ks_328 rfl ?_
      refine gf_iadd (q := 79) dX5_keep_78 rfl ?_
      refine gf_aload_n (i := 0) (q := 80) dX5_keep_79 rfl rfl rfl ?_
      refine gf_getI (C := RX5) (T := TX5) (N := 33) (ci := 5) (k := 35) (j := 10) (q := 83) dX5_keep_80 rfl rfl kin5 (by decide) kw614 rfl rfl ?_
      refine gf_iast (q := 84) dX5_keep_83 rfl ?_
      refine gf_aload_n (i := 0) (q := 85) dX5_keep_84 rfl rfl rfl ?_
      refine gf_getA (C := RX5) (T := TX5) (N := 33) (ci := 5) (k := 35) (j := 13) (t := 46) (q := 88) dX5_keep_85 rfl rfl kin5 (by decide) kw617 rfl rfl ?_
      refine gf_iload_n (i := 1) (q := 89) dX5_keep_88 rfl rfl rfl ?_
      refine gf_iconst (q := 90) dX5_keep_89 ki_1 rfl ?_
      refine gf_zast (q := 91) dX5_keep_90 rfl ?_
      refine gf_aload_n (i := 0) (q := 92) dX5_keep_91 rfl rfl rfl ?_
      refine gf_getI (C := RX5) (T := TX5) (N := 33) (ci := 5) (k := 35) (j := 10) (q := 95) dX5_keep_92 rfl rfl kin5 (by decide) kw614 rfl rfl ?_
      exact gf_reti dX5_keep_95 rfl
theorem C_X5_keep (v1 : Int32) (u : XM) : CF YY 2 yX5_keep cX5_keep 2 (some .int) [.ref 35, .int v1] u emI (F_X5_keep v1 u) := cf_of (by decide +kernel) (Nat.le_of_ble_eq_true rfl) rfl (T_X5_keep v1 u)
def F_X5_on (v1 : Int32) (u : XM) : Option (Int32 × XM) := (Option.bind (F_X5_in (Int32.toInt64 v1) 0 2 u) (fun x1 => (if x1.1 = 0 then some ((-1), x1.2) else (if ain YY 2 46 v1 = true then (if (mi x1.2 46 (Int32.toNatClampNeg v1)) = 0 then (Option.bind (F_X5_found 1 x1.2) (fun x4 => some (x4.1, x4.2))) else (Option.bind (F_X5_copies 45 (329 * v1) 43 0 8 x1.2) (fun x2 => (Option.bind (F_X5_copies 45 ((329 * v1) + 8) 44 0 320 x2.2) (fun x3 => (if ain YY 0 45 ((329 * v1) + 328) = true then some ((mi (wi x3.2 35 10 (mi x3.2 45 (Int32.toNatClampNeg ((329 * v1) + 328)))) 35 10), (wi x3.2 35 10 (mi x3.2 45 (Int32.toNatClampNeg ((329 * v1) + 328))))) else none)))))) else none))))
set_option maxRecDepth 20000 in
set_option maxHeartbeats 4000000 in
theorem T_X5_on (v1 : Int32) (u : XM) : GF E0 YY 2 yX5_on cX5_on 2 (some .int) 0 [some (.ref 35), some (.int v1)] [] u emI (F_X5_on v1 u) := by
  unfold F_X5_on
  refine gf_iload_n (i := 1) (q := 1) dX5_on_0 rfl rfl rfl ?_
  refine gf_i2l (q := 2) dX5_on_1 rfl ?_
  refine gf_lconst (v := 0) (q := 3) dX5_on_2 rfl rfl ?_
  refine gf_ldc2 (q := 6) dX5_on_3 kw918 rfl ?_
  refine gf_callS_i (n2 := 3) (As := [.long (Int32.toInt64 v1), .long 0, .long 2]) (st := []) (q := 9) (hlen := rfl) kw713 kw714 dX5_on_6 kw715 kw7 (by decide +kernel) (by decide) (Nat.le_of_ble_eq_true rfl) (C_X5_in (Int32.toInt64 v1) 0 2 u) rfl rfl (fun x1 => ?_)
  refine gf_if_ne (t := 14) (q := 12) dX5_on_9 (by decide) rfl ?_ ?_
  · refine gf_iconst (q := 13) dX5_on_12 ki_m1 rfl ?_
    exact gf_reti dX5_on_13 rfl
  · refine gf_aload_n (i := 0) (q := 15) dX5_on_14 rfl rfl rfl ?_
    refine gf_getA (C := RX5) (T := TX5) (N := 33) (ci := 5) (k := 35) (j := 13) (t := 46) (q := 18) dX5_on_15 rfl rfl kin5 (by decide) kw617 rfl rfl ?_
    refine gf_iload_n (i := 1) (q := 19) dX5_on_18 rfl rfl rfl ?_
    refine gf_zald (q := 20) dX5_on_19 rfl ?_
    refine gf_if_ne (t := 29) (q := 23) dX5_on_20 (by decide) rfl ?_ ?_
    · refine gf_aload_n (i := 0) (q := 24) dX5_on_23 rfl rfl rfl ?_
      refine gf_iconst (q := 25) dX5_on_24 ki_1 rfl ?_
      refine gf_callV_i (n2 := 1) (As := [.int 1]) (st := []) (b := 35) (ci := 5) (C := RX5) (q := 28) (hlen := rfl) rfl rfl kw716 kw718 kp12 dX5_on_25 kw719 kw7 (by decide +kernel) (by decide) (Nat.le_of_ble_eq_true rfl) (C_X5_found 1 x1.2) rfl rfl (fun x4 => ?_)
      exact gf_reti dX5_on_28 rfl
    · refine gf_aload_n (i := 0) (q := 30) dX5_on_29 rfl rfl rfl ?_
      refine gf_getA (C := RX5) (T := TX5) (N := 33) (ci := 5) (k := 35) (j := 12) (t := 45) (q := 33) dX5_on_30 rfl rfl kin5 (by decide) kw616 rfl rfl ?_
      refine gf_sipush (q := 36) dX5_on_33 ks_329 rfl ?_
      refine gf_iload_n (i := 1) (q := 37) dX5_on_36 rfl rfl rfl ?_
      refine gf_imul (q := 38) dX5_on_37 rfl ?_
      refine gf_aload_n (i := 0) (q := 39) dX5_on_38 rfl rfl rfl ?_
      refine gf_getA (C := RX5) (T := TX5) (N := 33) (ci := 5) (k := 35) (j := 9) (t := 43) (q := 42) dX5_on_39 rfl rfl kin5 (by decide) kw613 rfl rfl ?_
      refine gf_iconst (q := 43) dX5_on_42 ki_0 rfl ?_
      refine gf_bipush (q := 45) dX5_on_43 kb_8 rfl ?_
      refine gf_callS_v (n2 := 5) (As := [.ref 45, .int (329 * v1), .ref 43, .int 0, .int 8]) (st := []) (q := 48) (hlen := rfl) kw854 kw855 dX5_on_45 kw856 kw7 (by decide +kernel) (by decide) (Nat.le_of_ble_eq_true rfl) (C_X5_copies 45 (329 * v1) 43 0 8 x1.2) rfl rfl (fun x2 => ?_)
      refine gf_aload_n (i := 0) (q := 49) dX5_on_48 rfl rfl rfl ?_
      refine gf_getA (C := RX5) (T := TX5) (N := 33) (ci := 5) (k := 35) (j := 12) (t := 45) (q := 52) dX5_on_49 rfl rfl kin5 (by decide) kw616 rfl rfl ?_
      refine gf_sipush (q := 55) dX5_on_52 ks_329 rfl ?_
      refine gf_iload_n (i := 1) (q := 56) dX5_on_55 rfl rfl rfl ?_
      refine gf_imul (q := 57) dX5_on_56 rfl ?_
      refine gf_bipush (q := 59) dX5_on_57 kb_8 rfl ?_
      refine gf_iadd (q := 60) dX5_on_59 rfl ?_
      refine gf_aload_n (i := 0) (q := 61) dX5_on_60 rfl rfl rfl ?_
      refine gf_getA (C := RX5) (T := TX5) (N := 33) (ci := 5) (k := 35) (j := 11) (t := 44) (q := 64) dX5_on_61 rfl rfl kin5 (by decide) kw615 rfl rfl ?_
      refine gf_iconst (q := 65) dX5_on_64 ki_0 rfl ?_
      refine gf_sipush (q := 68) dX5_on_65 ks_320 rfl ?_
      refine gf_callS_v (n2 := 5) (As := [.ref 45, .int ((329 * v1) + 8), .ref 44, .int 0, .int 320]) (st := []) (q := 71) (hlen := rfl) kw854 kw855 dX5_on_68 kw856 kw7 (by decide +kernel) (by decide) (Nat.le_of_ble_eq_true rfl) (C_X5_copies 45 ((329 * v1) + 8) 44 0 320 x2.2) rfl rfl (fun x3 => ?_)
      refine gf_aload_n (i := 0) (q := 72) dX5_on_71 rfl rfl rfl ?_
      refine gf_aload_n (i := 0) (q := 73) dX5_on_72 rfl rfl rfl ?_
      refine gf_getA (C := RX5) (T := TX5) (N := 33) (ci := 5) (k := 35) (j := 12) (t := 45) (q := 76) dX5_on_73 rfl rfl kin5 (by decide) kw616 rfl rfl ?_
      refine gf_sipush (q := 79) dX5_on_76 ks_329 rfl ?_
      refine gf_iload_n (i := 1) (q := 80) dX5_on_79 rfl rfl rfl ?_
      refine gf_imul (q := 81) dX5_on_80 rfl ?_
      refine gf_sipush (q := 84) dX5_on_81 ks_328 rfl ?_
      refine gf_iadd (q := 85) dX5_on_84 rfl ?_
      refine gf_iald (q := 86) dX5_on_85 rfl ?_
      refine gf_putI (C := RX5) (T := TX5) (N := 33) (ci := 5) (k := 35) (j := 10) (q := 89) dX5_on_86 rfl rfl kin5 tyX5 tyX5_ok nmX5 (by decide) kw614 rfl rfl rfl rfl ?_
      refine gf_aload_n (i := 0) (q := 90) dX5_on_89 rfl rfl rfl ?_
      refine gf_getI (C := RX5) (T := TX5) (N := 33) (ci := 5) (k := 35) (j := 10) (q := 93) dX5_on_90 rfl rfl kin5 (by decide) kw614 rfl rfl ?_
      exact gf_reti dX5_on_93 rfl
theorem C_X5_on (v1 : Int32) (u : XM) : CF YY 2 yX5_on cX5_on 2 (some .int) [.ref 35, .int v1] u emI (F_X5_on v1 u) := cf_of (by decide +kernel) (Nat.le_of_ble_eq_true rfl) rfl (T_X5_on v1 u)
def F_X5_lies (v1 : Int32) (v2 : Int32) (u : XM) : Option (Int32 × XM) := (Option.bind (F_X5_isThing v1 u) (fun x1 => (if x1.1 = 0 then some ((-1), x1.2) else (Option.bind (F_X5_in (Int32.toInt64 v2) 0 60 x1.2) (fun x2 => (if x2.1 = 0 then some ((-1), x2.2) else (Option.bind (F_X5_isTaken v1 x2.2) (fun x3 => (if x3.1 = 0 then (if ain YY 0 43 (0 + v1) = true then (Option.bind (F_X5_afterOf v1 (mi x3.2 43 (Int32.toNatClampNeg (0 + v1))) v2 x3.2) (fun x4 => some (x4.1, x4.2))) else none) else some ((-4), x3.2))))))))))
set_option maxRecDepth 20000 in
set_option maxHeartbeats 4000000 in
theorem T_X5_lies (v1 : Int32) (v2 : Int32) (u : XM) : GF E0 YY 5 yX5_lies cX5_lies 3 (some .int) 0 [some (.ref 35), some (.int v1), some (.int v2)] [] u emI (F_X5_lies v1 v2 u) := by
  unfold F_X5_lies
  refine gf_aload_n (i := 0) (q := 1) dX5_lies_0 rfl rfl rfl ?_
  refine gf_iload_n (i := 1) (q := 2) dX5_lies_1 rfl rfl rfl ?_
  refine gf_callV_i (n2 := 1) (As := [.int v1]) (st := []) (b := 35) (ci := 5) (C := RX5) (q := 5) (hlen := rfl) rfl rfl kw795 kw797 kp20 dX5_lies_2 kw798 kw7 (by decide +kernel) (by decide) (Nat.le_of_ble_eq_true rfl) (C_X5_isThing v1 u) rfl rfl (fun x1 => ?_)
  refine gf_if_eq (t := 20) (q := 8) dX5_lies_5 (by decide) rfl ?_ ?_
  · refine gf_iconst (q := 21) dX5_lies_20 ki_m1 rfl ?_
    exact gf_reti dX5_lies_21 rfl
  · refine gf_iload_n (i := 2) (q := 9) dX5_lies_8 rfl rfl rfl ?_
    refine gf_i2l (q := 10) dX5_lies_9 rfl ?_
    refine gf_lconst (v := 0) (q := 11) dX5_lies_10 rfl rfl ?_
    refine gf_ldc2 (q := 14) dX5_lies_11 kw927 rfl ?_
    refine gf_callS_i (n2 := 3) (As := [.long (Int32.toInt64 v2), .long 0, .long 60]) (st := []) (q := 17) (hlen := rfl) kw713 kw714 dX5_lies_14 kw715 kw7 (by decide +kernel) (by decide) (Nat.le_of_ble_eq_true rfl) (C_X5_in (Int32.toInt64 v2) 0 60 x1.2) rfl rfl (fun x2 => ?_)
    refine gf_if_ne (t := 22) (q := 20) dX5_lies_17 (by decide) rfl ?_ ?_
    · refine gf_iconst (q := 21) dX5_lies_20 ki_m1 rfl ?_
      exact gf_reti dX5_lies_21 rfl
    · refine gf_aload_n (i := 0) (q := 23) dX5_lies_22 rfl rfl rfl ?_
      refine gf_iload_n (i := 1) (q := 24) dX5_lies_23 rfl rfl rfl ?_
      refine gf_callV_i (n2 := 1) (As := [.int v1]) (st := []) (b := 35) (ci := 5) (C := RX5) (q := 27) (hlen := rfl) rfl rfl kw815 kw817 kp23 dX5_lies_24 kw818 kw7 (by decide +kernel) (by decide) (Nat.le_of_ble_eq_true rfl) (C_X5_isTaken v1 x2.2) rfl rfl (fun x3 => ?_)
      refine gf_if_eq (t := 35) (q := 30) dX5_lies_27 (by decide) rfl ?_ ?_
      · refine gf_aload_n (i := 0) (q := 36) dX5_lies_35 rfl rfl rfl ?_
        refine gf_iload_n (i := 1) (q := 37) dX5_lies_36 rfl rfl rfl ?_
        refine gf_aload_n (i := 0) (q := 38) dX5_lies_37 rfl rfl rfl ?_
        refine gf_getA (C := RX5) (T := TX5) (N := 33) (ci := 5) (k := 35) (j := 9) (t := 43) (q := 41) dX5_lies_38 rfl rfl kin5 (by decide) kw613 rfl rfl ?_
        refine gf_iconst (q := 42) dX5_lies_41 ki_0 rfl ?_
        refine gf_iload_n (i := 1) (q := 43) dX5_lies_42 rfl rfl rfl ?_
        refine gf_iadd (q := 44) dX5_lies_43 rfl ?_
        refine gf_iald (q := 45) dX5_lies_44 rfl ?_
        refine gf_iload_n (i := 2) (q := 46) dX5_lies_45 rfl rfl rfl ?_
        refine gf_callV_i (n2 := 3) (As := [.int v1, .int (mi x3.2 43 (Int32.toNatClampNeg (0 + v1))), .int v2]) (st := []) (b := 35) (ci := 5) (C := RX5) (q := 49) (hlen := rfl) rfl rfl kw857 kw859 kp29 dX5_lies_46 kw860 kw7 (by decide +kernel) (by decide) (Nat.le_of_ble_eq_true rfl) (C_X5_afterOf v1 (mi x3.2 43 (Int32.toNatClampNeg (0 + v1))) v2 x3.2) rfl rfl (fun x4 => ?_)
        exact gf_reti dX5_lies_49 rfl
      · refine gf_bipush (q := 32) dX5_lies_30 kb_m4 rfl ?_
        refine gf_goto (q := 49) dX5_lies_32 (by decide) ?_
        exact gf_reti dX5_lies_49 rfl
theorem C_X5_lies (v1 : Int32) (v2 : Int32) (u : XM) : CF YY 5 yX5_lies cX5_lies 3 (some .int) [.ref 35, .int v1, .int v2] u emI (F_X5_lies v1 v2 u) := cf_of (by decide +kernel) (Nat.le_of_ble_eq_true rfl) rfl (T_X5_lies v1 v2 u)
def F_X5_three_75 (k31 : Int32 → Int32 → Int32 → Int32 → XM → Option (Int32 × XM)) (v1 : Int32) (v2 : Int32) (v4 : Int32) (s0 : Int32) (s1 : Int32) (u : XM) : Option (Int32 × XM) := k31 v1 v2 (s1 + s0) (v4 + 1) u
set_option maxRecDepth 20000 in
set_option maxHeartbeats 4000000 in
theorem T_X5_three_75 (k31 : Int32 → Int32 → Int32 → Int32 → XM → Option (Int32 × XM)) (hk31 : ∀ (v1 : Int32) (v2 : Int32) (v3 : Int32) (v4 : Int32) (u : XM), GF E0 YY 5 yX5_three cX5_three 5 (some .int) 31 [some (.ref 35), some (.int v1), some (.int v2), some (.int v3), some (.int v4)] [] u emI (k31 v1 v2 v3 v4 u)) (v1 : Int32) (v2 : Int32) (v4 : Int32) (s0 : Int32) (s1 : Int32) (u : XM) : GF E0 YY 5 yX5_three cX5_three 5 (some .int) 75 [some (.ref 35), some (.int v1), some (.int v2), none, some (.int v4)] [.int s0, .int s1] u emI (F_X5_three_75 k31 v1 v2 v4 s0 s1 u) := by
  unfold F_X5_three_75
  refine gf_iadd (q := 76) dX5_three_75 rfl ?_
  refine gf_istore_n (i := 3) (lv2 := [some (.ref 35), some (.int v1), some (.int v2), some (.int (s1 + s0)), some (.int v4)]) (q := 77) dX5_three_76 rfl (by decide) rfl rfl ?_
  refine gf_iinc (v := (v4 + 1)) (lv2 := [some (.ref 35), some (.int v1), some (.int v2), some (.int (s1 + s0)), some (.int (v4 + 1))]) (q := 80) dX5_three_77 rfl (congrArg _ ki_1) (by decide) rfl rfl ?_
  refine gf_goto (q := 31) dX5_three_80 (by decide) ?_
  exact (hk31 v1 v2 (s1 + s0) (v4 + 1) u)
def F_X5_three_74 (k31 : Int32 → Int32 → Int32 → Int32 → XM → Option (Int32 × XM)) (v1 : Int32) (v2 : Int32) (v4 : Int32) (s0 : Int32) (u : XM) : Option (Int32 × XM) := F_X5_three_75 (k31) v1 v2 v4 0 s0 u
set_option maxRecDepth 20000 in
set_option maxHeartbeats 4000000 in
theorem T_X5_three_74 (k31 : Int32 → Int32 → Int32 → Int32 → XM → Option (Int32 × XM)) (hk31 : ∀ (v1 : Int32) (v2 : Int32) (v3 : Int32) (v4 : Int32) (u : XM), GF E0 YY 5 yX5_three cX5_three 5 (some .int) 31 [some (.ref 35), some (.int v1), some (.int v2), some (.int v3), some (.int v4)] [] u emI (k31 v1 v2 v3 v4 u)) (v1 : Int32) (v2 : Int32) (v4 : Int32) (s0 : Int32) (u : XM) : GF E0 YY 5 yX5_three cX5_three 5 (some .int) 74 [some (.ref 35), some (.int v1), some (.int v2), none, some (.int v4)] [.int s0] u emI (F_X5_three_74 k31 v1 v2 v4 s0 u) := by
  unfold F_X5_three_74
  refine gf_iconst (q := 75) dX5_three_74 ki_0 rfl ?_
  exact (T_X5_three_75 (k31) hk31 v1 v2 v4 0 s0 u)
def F_X5_three_31 (k20 : Int32 → Int32 → XM → Option (Int32 × XM)) : Nat → Int32 → Int32 → Int32 → Int32 → XM → Option (Int32 × XM)
  | 0, _, _, _, _, _ => none
  | n + 1, v1, v2, v3, v4, u => (if (mi u 35 4) ≤ v4 then (if v3 ≤ 2 then k20 v1 (v2 + 1) u else (Option.bind (F_X5_answer v1 v2 u) (fun x1 => some (x1.1, x1.2)))) else (Option.bind (F_X5_isTaken v4 u) (fun x2 => (if x2.1 = 0 then (if ain YY 0 43 (0 + v4) = true then (Option.bind (F_X5_afterOf v4 (mi x2.2 43 (Int32.toNatClampNeg (0 + v4))) v1 x2.2) (fun x3 => (if x3.1 = v2 then F_X5_three_75 (F_X5_three_31 k20 n) v1 v2 v4 1 v3 x3.2 else F_X5_three_74 (F_X5_three_31 k20 n) v1 v2 v4 v3 x3.2))) else none) else F_X5_three_74 (F_X5_three_31 k20 n) v1 v2 v4 v3 x2.2))))
set_option maxRecDepth 20000 in
set_option maxHeartbeats 4000000 in
theorem T_X5_three_31 (k20 : Int32 → Int32 → XM → Option (Int32 × XM)) (hk20 : ∀ (v1 : Int32) (v2 : Int32) (u : XM), GF E0 YY 5 yX5_three cX5_three 5 (some .int) 20 [some (.ref 35), some (.int v1), some (.int v2), none, none] [] u emI (k20 v1 v2 u)) : ∀ (n : Nat) (v1 : Int32) (v2 : Int32) (v3 : Int32) (v4 : Int32) (u : XM), GF E0 YY 5 yX5_three cX5_three 5 (some .int) 31 [some (.ref 35), some (.int v1), some (.int v2), some (.int v3), some (.int v4)] [] u emI (F_X5_three_31 k20 n v1 v2 v3 v4 u) := by
  intro n
  induction n with
  | zero => intro v1 v2 v3 v4 u; exact gf_none
  | succ n ih =>
    intro v1 v2 v3 v4 u
    unfold F_X5_three_31
    refine gf_iload (q := 33) dX5_three_31 rfl rfl ?_
    refine gf_aload_n (i := 0) (q := 34) dX5_three_33 rfl rfl rfl ?_
    refine gf_getI (C := RX5) (T := TX5) (N := 33) (ci := 5) (k := 35) (j := 4) (q := 37) dX5_three_34 rfl rfl kin5 (by decide) kw608 rfl rfl ?_
    refine gf_icmp_ge (t := 83) (q := 40) dX5_three_37 (by decide) rfl ?_ ?_
    · refine gf_iload_n (i := 3) (q := 84) dX5_three_83 rfl rfl rfl ?_
      refine gf_iconst (q := 85) dX5_three_84 ki_2 rfl ?_
      refine gf_icmp_le (t := 95) (q := 88) dX5_three_85 (by decide) rfl ?_ ?_
      · refine gf_iinc (v := (v2 + 1)) (lv2 := [some (.ref 35), some (.int v1), some (.int (v2 + 1)), some (.int v3), some (.int v4)]) (q := 98) dX5_three_95 rfl (congrArg _ ki_1) (by decide) rfl rfl ?_
        refine gf_goto (q := 20) dX5_three_98 (by decide) ?_
        exact gf_mask (b := [true, true, true, false, false]) rfl (hk20 v1 (v2 + 1) u)
      · refine gf_aload_n (i := 0) (q := 89) dX5_three_88 rfl rfl rfl ?_
        refine gf_iload_n (i := 1) (q := 90) dX5_three_89 rfl rfl rfl ?_
        refine gf_iload_n (i := 2) (q := 91) dX5_three_90 rfl rfl rfl ?_
        refine gf_callV_i (n2 := 2) (As := [.int v1, .int v2]) (st := []) (b := 35) (ci := 5) (C := RX5) (q := 94) (hlen := rfl) rfl rfl kw932 kw934 kp37 dX5_three_91 kw935 kw7 (by decide +kernel) (by decide) (Nat.le_of_ble_eq_true rfl) (C_X5_answer v1 v2 u) rfl rfl (fun x1 => ?_)
        exact gf_reti dX5_three_94 rfl
    · refine gf_iload_n (i := 3) (q := 41) dX5_three_40 rfl rfl rfl ?_
      refine gf_aload_n (i := 0) (q := 42) dX5_three_41 rfl rfl rfl ?_
      refine gf_iload (q := 44) dX5_three_42 rfl rfl ?_
      refine gf_callV_i (n2 := 1) (As := [.int v4]) (st := [.int v3]) (b := 35) (ci := 5) (C := RX5) (q := 47) (hlen := rfl) rfl rfl kw815 kw817 kp23 dX5_three_44 kw818 kw7 (by decide +kernel) (by decide) (Nat.le_of_ble_eq_true rfl) (C_X5_isTaken v4 u) rfl rfl (fun x2 => ?_)
      refine gf_if_ne (t := 74) (q := 50) dX5_three_47 (by decide) rfl ?_ ?_
      · refine gf_aload_n (i := 0) (q := 51) dX5_three_50 rfl rfl rfl ?_
        refine gf_iload (q := 53) dX5_three_51 rfl rfl ?_
        refine gf_aload_n (i := 0) (q := 54) dX5_three_53 rfl rfl rfl ?_
        refine gf_getA (C := RX5) (T := TX5) (N := 33) (ci := 5) (k := 35) (j := 9) (t := 43) (q := 57) dX5_three_54 rfl rfl kin5 (by decide) kw613 rfl rfl ?_
        refine gf_iconst (q := 58) dX5_three_57 ki_0 rfl ?_
        refine gf_iload (q := 60) dX5_three_58 rfl rfl ?_
        refine gf_iadd (q := 61) dX5_three_60 rfl ?_
        refine gf_iald (q := 62) dX5_three_61 rfl ?_
        refine gf_iload_n (i := 1) (q := 63) dX5_three_62 rfl rfl rfl ?_
        refine gf_callV_i (n2 := 3) (As := [.int v4, .int (mi x2.2 43 (Int32.toNatClampNeg (0 + v4))), .int v1]) (st := [.int v3]) (b := 35) (ci := 5) (C := RX5) (q := 66) (hlen := rfl) rfl rfl kw857 kw859 kp29 dX5_three_63 kw860 kw7 (by decide +kernel) (by decide) (Nat.le_of_ble_eq_true rfl) (C_X5_afterOf v4 (mi x2.2 43 (Int32.toNatClampNeg (0 + v4))) v1 x2.2) rfl rfl (fun x3 => ?_)
        refine gf_iload_n (i := 2) (q := 67) dX5_three_66 rfl rfl rfl ?_
        refine gf_icmp_ne (t := 74) (q := 70) dX5_three_67 (by decide) rfl ?_ ?_
        · refine gf_iconst (q := 71) dX5_three_70 ki_1 rfl ?_
          refine gf_goto (q := 75) dX5_three_71 (by decide) ?_
          exact gf_mask (b := [true, true, true, false, true]) rfl (T_X5_three_75 (F_X5_three_31 k20 n) ih v1 v2 v4 1 v3 x3.2)
        · exact gf_mask (b := [true, true, true, false, true]) rfl (T_X5_three_74 (F_X5_three_31 k20 n) ih v1 v2 v4 v3 x3.2)
      · exact gf_mask (b := [true, true, true, false, true]) rfl (T_X5_three_74 (F_X5_three_31 k20 n) ih v1 v2 v4 v3 x2.2)
def F_X5_three_20 (k12 : Int32 → XM → Option (Int32 × XM)) : Nat → Int32 → Int32 → XM → Option (Int32 × XM)
  | 0, _, _, _ => none
  | n + 1, v1, v2, u => (if 8 ≤ v2 then k12 (v1 + 1) u else F_X5_three_31 (F_X5_three_20 k12 n) FU v1 v2 0 0 u)
set_option maxRecDepth 20000 in
set_option maxHeartbeats 4000000 in
theorem T_X5_three_20 (k12 : Int32 → XM → Option (Int32 × XM)) (hk12 : ∀ (v1 : Int32) (u : XM), GF E0 YY 5 yX5_three cX5_three 5 (some .int) 12 [some (.ref 35), some (.int v1), none, none, none] [] u emI (k12 v1 u)) : ∀ (n : Nat) (v1 : Int32) (v2 : Int32) (u : XM), GF E0 YY 5 yX5_three cX5_three 5 (some .int) 20 [some (.ref 35), some (.int v1), some (.int v2), none, none] [] u emI (F_X5_three_20 k12 n v1 v2 u) := by
  intro n
  induction n with
  | zero => intro v1 v2 u; exact gf_none
  | succ n ih =>
    intro v1 v2 u
    unfold F_X5_three_20
    refine gf_iload_n (i := 2) (q := 21) dX5_three_20 rfl rfl rfl ?_
    refine gf_bipush (q := 23) dX5_three_21 kb_8 rfl ?_
    refine gf_icmp_ge (t := 101) (q := 26) dX5_three_23 (by decide) rfl ?_ ?_
    · refine gf_iinc (v := (v1 + 1)) (lv2 := [some (.ref 35), some (.int (v1 + 1)), some (.int v2), none, none]) (q := 104) dX5_three_101 rfl (congrArg _ ki_1) (by decide) rfl rfl ?_
      refine gf_goto (q := 12) dX5_three_104 (by decide) ?_
      exact gf_mask (b := [true, true, false, false, false]) rfl (hk12 (v1 + 1) u)
    · refine gf_iconst (q := 27) dX5_three_26 ki_0 rfl ?_
      refine gf_istore_n (i := 3) (lv2 := [some (.ref 35), some (.int v1), some (.int v2), some (.int 0), none]) (q := 28) dX5_three_27 rfl (by decide) rfl rfl ?_
      refine gf_iconst (q := 29) dX5_three_28 ki_0 rfl ?_
      refine gf_istore (lv2 := [some (.ref 35), some (.int v1), some (.int v2), some (.int 0), some (.int 0)]) (q := 31) dX5_three_29 (by decide) rfl rfl ?_
      exact (T_X5_three_31 (F_X5_three_20 k12 n) ih FU v1 v2 0 0 u)
def F_X5_three_12 : Nat → Int32 → XM → Option (Int32 × XM)
  | 0, _, _ => none
  | n + 1, v1, u => (if 61 ≤ v1 then some ((-9), u) else F_X5_three_20 (F_X5_three_12 n) FU v1 0 u)
set_option maxRecDepth 20000 in
set_option maxHeartbeats 4000000 in
theorem T_X5_three_12 : ∀ (n : Nat) (v1 : Int32) (u : XM), GF E0 YY 5 yX5_three cX5_three 5 (some .int) 12 [some (.ref 35), some (.int v1), none, none, none] [] u emI (F_X5_three_12 n v1 u) := by
  intro n
  induction n with
  | zero => intro v1 u; exact gf_none
  | succ n ih =>
    intro v1 u
    unfold F_X5_three_12
    refine gf_iload_n (i := 1) (q := 13) dX5_three_12 rfl rfl rfl ?_
    refine gf_bipush (q := 15) dX5_three_13 kb_61 rfl ?_
    refine gf_icmp_ge (t := 107) (q := 18) dX5_three_15 (by decide) rfl ?_ ?_
    · refine gf_bipush (q := 109) dX5_three_107 kb_m9 rfl ?_
      exact gf_reti dX5_three_109 rfl
    · refine gf_iconst (q := 19) dX5_three_18 ki_0 rfl ?_
      refine gf_istore_n (i := 2) (lv2 := [some (.ref 35), some (.int v1), some (.int 0), none, none]) (q := 20) dX5_three_19 rfl (by decide) rfl rfl ?_
      exact (T_X5_three_20 (F_X5_three_12 n) ih FU v1 0 u)
def F_X5_three  (u : XM) : Option (Int32 × XM) := (if (mi u 35 4) = 0 then some ((-4), u) else F_X5_three_12 FU 0 u)
set_option maxRecDepth 20000 in
set_option maxHeartbeats 4000000 in
theorem T_X5_three  (u : XM) : GF E0 YY 5 yX5_three cX5_three 5 (some .int) 0 [some (.ref 35), none, none, none, none] [] u emI (F_X5_three u) := by
  unfold F_X5_three
  refine gf_aload_n (i := 0) (q := 1) dX5_three_0 rfl rfl rfl ?_
  refine gf_getI (C := RX5) (T := TX5) (N := 33) (ci := 5) (k := 35) (j := 4) (q := 4) dX5_three_1 rfl rfl kin5 (by decide) kw608 rfl rfl ?_
  refine gf_if_ne (t := 10) (q := 7) dX5_three_4 (by decide) rfl ?_ ?_
  · refine gf_bipush (q := 9) dX5_three_7 kb_m4 rfl ?_
    exact gf_reti dX5_three_9 rfl
  · refine gf_iconst (q := 11) dX5_three_10 ki_0 rfl ?_
    refine gf_istore_n (i := 1) (lv2 := [some (.ref 35), some (.int 0), none, none, none]) (q := 12) dX5_three_11 rfl (by decide) rfl rfl ?_
    exact (T_X5_three_12 FU 0 u)
theorem C_X5_three  (u : XM) : CF YY 5 yX5_three cX5_three 5 (some .int) [.ref 35] u emI (F_X5_three u) := cf_of (by decide +kernel) (Nat.le_of_ble_eq_true rfl) rfl (T_X5_three u)
