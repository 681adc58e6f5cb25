def F_X0_has (v1 : Int32) (u : XM) : Option (Int32 × XM) := (if v1 < 0 then some (0, u) else (if (mi u 22 6) ≤ v1 then some (0, u) else some (1, u)))
set_option maxRecDepth 20000 in
set_option maxHeartbeats 4000000 in
theorem T_X0_has (v1 : Int32) (u : XM) : GF E0 YY 1 yX0_has cX0_has 2 (some .boolean) 0 [some (.ref 22), some (.int v1)] [] u emI (F_X0_has v1 u) := by
  unfold F_X0_has
  refine gf_iload_n (i := 1) (q := 1) dX0_has_0 rfl rfl rfl ?_
  refine gf_if_lt (t := 16) (q := 4) dX0_has_1 (by decide) rfl ?_ ?_
  · refine gf_iconst (q := 17) dX0_has_16 ki_0 rfl ?_
    exact gf_retz dX0_has_17 rfl rfl
  · refine gf_iload_n (i := 1) (q := 5) dX0_has_4 rfl rfl rfl ?_
    refine gf_aload_n (i := 0) (q := 6) dX0_has_5 rfl rfl rfl ?_
    refine gf_getI (C := RX0) (T := TX0) (N := 12) (ci := 0) (k := 22) (j := 6) (q := 9) dX0_has_6 rfl rfl kin0 (by decide) kw59 rfl rfl ?_
    refine gf_icmp_ge (t := 16) (q := 12) dX0_has_9 (by decide) rfl ?_ ?_
    · refine gf_iconst (q := 17) dX0_has_16 ki_0 rfl ?_
      exact gf_retz dX0_has_17 rfl rfl
    · refine gf_iconst (q := 13) dX0_has_12 ki_1 rfl ?_
      refine gf_goto (q := 17) dX0_has_13 (by decide) ?_
      exact gf_retz dX0_has_17 rfl rfl
theorem C_X0_has (v1 : Int32) (u : XM) : CF YY 1 yX0_has cX0_has 2 (some .boolean) [.ref 22, .int v1] u emI (F_X0_has v1 u) := cf_of (by decide +kernel) (Nat.le_of_ble_eq_true rfl) rfl (T_X0_has v1 u)
def F_X0_isTaken (v1 : Int32) (u : XM) : Option (Int32 × XM) := (if ain YY 0 25 v1 = true then (if (mi u 25 (Int32.toNatClampNeg v1)) = (-9) then some (1, u) else some (0, u)) else none)
set_option maxRecDepth 20000 in
set_option maxHeartbeats 4000000 in
theorem T_X0_isTaken (v1 : Int32) (u : XM) : GF E0 YY 1 yX0_isTaken cX0_isTaken 2 (some .boolean) 0 [some (.ref 22), some (.int v1)] [] u emI (F_X0_isTaken v1 u) := by
  unfold F_X0_isTaken
  refine gf_aload_n (i := 0) (q := 1) dX0_isTaken_0 rfl rfl rfl ?_
  refine gf_getA (C := RX0) (T := TX0) (N := 12) (ci := 0) (k := 22) (j := 2) (t := 25) (q := 4) dX0_isTaken_1 rfl rfl kin0 (by decide) kw49 rfl rfl ?_
  refine gf_iload_n (i := 1) (q := 5) dX0_isTaken_4 rfl rfl rfl ?_
  refine gf_iald (q := 6) dX0_isTaken_5 rfl ?_
  refine gf_bipush (q := 8) dX0_isTaken_6 kb_m9 rfl ?_
  refine gf_icmp_ne (t := 15) (q := 11) dX0_isTaken_8 (by decide) rfl ?_ ?_
  · refine gf_iconst (q := 12) dX0_isTaken_11 ki_1 rfl ?_
    refine gf_goto (q := 16) dX0_isTaken_12 (by decide) ?_
    exact gf_retz dX0_isTaken_16 rfl rfl
  · refine gf_iconst (q := 16) dX0_isTaken_15 ki_0 rfl ?_
    exact gf_retz dX0_isTaken_16 rfl rfl
theorem C_X0_isTaken (v1 : Int32) (u : XM) : CF YY 1 yX0_isTaken cX0_isTaken 2 (some .boolean) [.ref 22, .int v1] u emI (F_X0_isTaken v1 u) := cf_of (by decide +kernel) (Nat.le_of_ble_eq_true rfl) rfl (T_X0_isTaken v1 u)
def F_X0_drift_35 (v1 : Int32) (v4 : Int32) (s0 : Int32) (u : XM) : Option (Int32 × XM) := (tsw v1 1 [some ((v4 + 1), u), some (0, u), (if s0 = 0 then some (0, u) else some (v4, u)), some ((-(v4 + 1)), u), (if s0 = 0 then some (1, u) else some (0, u))] (some (v4, u)))
set_option maxRecDepth 20000 in
set_option maxHeartbeats 4000000 in
theorem T_X0_drift_35 (v1 : Int32) (v4 : Int32) (s0 : Int32) (u : XM) : GF E0 YY 1 yX0_drift cX0_drift 6 (some .int) 35 [none, some (.int v1), none, none, some (.int v4), none] [.int s0] u emI (F_X0_drift_35 v1 v4 s0 u) := by
  unfold F_X0_drift_35
  refine gf_istore (lv2 := [none, some (.int v1), none, none, some (.int v4), some (.int s0)]) (q := 37) dX0_drift_35 (by decide) rfl rfl ?_
  refine gf_iload_n (i := 1) (q := 38) dX0_drift_37 rfl rfl rfl ?_
  refine gf_tsw (ts := [72, 77, 79, 91, 97]) (t0 := 108) dX0_drift_38 (by decide +kernel) (xsw_c ?_ (xsw_c ?_ (xsw_c ?_ (xsw_c ?_ (xsw_c ?_ (xsw_n)))))) ?_
  · refine gf_iload (q := 74) dX0_drift_72 rfl rfl ?_
    refine gf_iconst (q := 75) dX0_drift_74 ki_1 rfl ?_
    refine gf_iadd (q := 76) dX0_drift_75 rfl ?_
    exact gf_reti dX0_drift_76 rfl
  · refine gf_iconst (q := 78) dX0_drift_77 ki_0 rfl ?_
    exact gf_reti dX0_drift_78 rfl
  · refine gf_iload (q := 81) dX0_drift_79 rfl rfl ?_
    refine gf_if_eq (t := 89) (q := 84) dX0_drift_81 (by decide) rfl ?_ ?_
    · refine gf_iconst (q := 90) dX0_drift_89 ki_0 rfl ?_
      exact gf_reti dX0_drift_90 rfl
    · refine gf_iload (q := 86) dX0_drift_84 rfl rfl ?_
      refine gf_goto (q := 90) dX0_drift_86 (by decide) ?_
      exact gf_reti dX0_drift_90 rfl
  · refine gf_iload (q := 93) dX0_drift_91 rfl rfl ?_
    refine gf_iconst (q := 94) dX0_drift_93 ki_1 rfl ?_
    refine gf_iadd (q := 95) dX0_drift_94 rfl ?_
    refine gf_ineg (q := 96) dX0_drift_95 rfl ?_
    exact gf_reti dX0_drift_96 rfl
  · refine gf_iload (q := 99) dX0_drift_97 rfl rfl ?_
    refine gf_if_eq (t := 106) (q := 102) dX0_drift_99 (by decide) rfl ?_ ?_
    · refine gf_iconst (q := 107) dX0_drift_106 ki_1 rfl ?_
      exact gf_reti dX0_drift_107 rfl
    · refine gf_iconst (q := 103) dX0_drift_102 ki_0 rfl ?_
      refine gf_goto (q := 107) dX0_drift_103 (by decide) ?_
      exact gf_reti dX0_drift_107 rfl
  · refine gf_iload (q := 110) dX0_drift_108 rfl rfl ?_
    exact gf_reti dX0_drift_110 rfl
def F_X0_drift_22 (v1 : Int32) (v3 : Int32) (s0 : Int32) (u : XM) : Option (Int32 × XM) := (if (v3 - v3 / 2 * 2) = 0 then F_X0_drift_35 v1 s0 1 u else F_X0_drift_35 v1 s0 0 u)
set_option maxRecDepth 20000 in
set_option maxHeartbeats 4000000 in
theorem T_X0_drift_22 (v1 : Int32) (v3 : Int32) (s0 : Int32) (u : XM) : GF E0 YY 1 yX0_drift cX0_drift 6 (some .int) 22 [none, some (.int v1), none, some (.int v3), none, none] [.int s0] u emI (F_X0_drift_22 v1 v3 s0 u) := by
  unfold F_X0_drift_22
  refine gf_istore (lv2 := [none, some (.int v1), none, some (.int v3), some (.int s0), none]) (q := 24) dX0_drift_22 (by decide) rfl rfl ?_
  refine gf_iload_n (i := 3) (q := 25) dX0_drift_24 rfl rfl rfl ?_
  refine gf_iconst (q := 26) dX0_drift_25 ki_2 rfl ?_
  refine gf_irem_c (q := 27) dX0_drift_26 (by decide) rfl ?_
  refine gf_if_ne (t := 34) (q := 30) dX0_drift_27 (by decide) rfl ?_ ?_
  · refine gf_iconst (q := 31) dX0_drift_30 ki_1 rfl ?_
    refine gf_goto (q := 35) dX0_drift_31 (by decide) ?_
    exact gf_mask (b := [false, true, false, false, true, false]) rfl (T_X0_drift_35 v1 s0 1 u)
  · refine gf_iconst (q := 35) dX0_drift_34 ki_0 rfl ?_
    exact gf_mask (b := [false, true, false, false, true, false]) rfl (T_X0_drift_35 v1 s0 0 u)
def F_X0_drift (v1 : Int32) (v2 : Int32) (v3 : Int32) (u : XM) : Option (Int32 × XM) := (if (mi u 22 9) = 0 then some (0, u) else (if (mi u 22 7) ≤ v2 then F_X0_drift_22 v1 v3 0 u else F_X0_drift_22 v1 v3 1 u))
set_option maxRecDepth 20000 in
set_option maxHeartbeats 4000000 in
theorem T_X0_drift (v1 : Int32) (v2 : Int32) (v3 : Int32) (u : XM) : GF E0 YY 1 yX0_drift cX0_drift 6 (some .int) 0 [some (.ref 22), some (.int v1), some (.int v2), some (.int v3), none, none] [] u emI (F_X0_drift v1 v2 v3 u) := by
  unfold F_X0_drift
  refine gf_aload_n (i := 0) (q := 1) dX0_drift_0 rfl rfl rfl ?_
  refine gf_getI (C := RX0) (T := TX0) (N := 12) (ci := 0) (k := 22) (j := 9) (q := 4) dX0_drift_1 rfl rfl kin0 (by decide) kw65 rfl rfl ?_
  refine gf_if_ne (t := 9) (q := 7) dX0_drift_4 (by decide) rfl ?_ ?_
  · refine gf_iconst (q := 8) dX0_drift_7 ki_0 rfl ?_
    exact gf_reti dX0_drift_8 rfl
  · refine gf_aload_n (i := 0) (q := 10) dX0_drift_9 rfl rfl rfl ?_
    refine gf_getI (C := RX0) (T := TX0) (N := 12) (ci := 0) (k := 22) (j := 7) (q := 13) dX0_drift_10 rfl rfl kin0 (by decide) kw62 rfl rfl ?_
    refine gf_iload_n (i := 2) (q := 14) dX0_drift_13 rfl rfl rfl ?_
    refine gf_icmp_le (t := 21) (q := 17) dX0_drift_14 (by decide) rfl ?_ ?_
    · refine gf_iconst (q := 22) dX0_drift_21 ki_0 rfl ?_
      exact gf_mask (b := [false, true, false, true, false, false]) rfl (T_X0_drift_22 v1 v3 0 u)
    · refine gf_iconst (q := 18) dX0_drift_17 ki_1 rfl ?_
      refine gf_goto (q := 22) dX0_drift_18 (by decide) ?_
      exact gf_mask (b := [false, true, false, true, false, false]) rfl (T_X0_drift_22 v1 v3 1 u)
theorem C_X0_drift (v1 : Int32) (v2 : Int32) (v3 : Int32) (u : XM) : CF YY 1 yX0_drift cX0_drift 6 (some .int) [.ref 22, .int v1, .int v2, .int v3] u emI (F_X0_drift v1 v2 v3 u) := cf_of (by decide +kernel) (Nat.le_of_ble_eq_true rfl) rfl (T_X0_drift v1 v2 v3 u)
def F_X0_step (v1 : Int32) (v2 : Int32) (v3 : Int32) (v4 : Int32) (u : XM) : Option (Int32 × XM) := (Option.bind (F_X0_drift v1 v2 v4 u) (fun x1 => (Option.bind (F_J9_min_7cf53 YY 7 (v3 + x1.1) x1.2) (fun x2 => (Option.bind (F_J9_max_7cf53 YY 0 x2.1 x2.2) (fun x3 => some (x3.1, x3.2)))))))
set_option maxRecDepth 20000 in
set_option maxHeartbeats 4000000 in
theorem T_X0_step (v1 : Int32) (v2 : Int32) (v3 : Int32) (v4 : Int32) (u : XM) : GF E0 YY 2 yX0_step cX0_step 5 (some .int) 0 [some (.ref 22), some (.int v1), some (.int v2), some (.int v3), some (.int v4)] [] u emI (F_X0_step v1 v2 v3 v4 u) := by
  unfold F_X0_step
  refine gf_iconst (q := 1) dX0_step_0 ki_0 rfl ?_
  refine gf_bipush (q := 3) dX0_step_1 kb_7 rfl ?_
  refine gf_iload_n (i := 3) (q := 4) dX0_step_3 rfl rfl rfl ?_
  refine gf_aload_n (i := 0) (q := 5) dX0_step_4 rfl rfl rfl ?_
  refine gf_iload_n (i := 1) (q := 6) dX0_step_5 rfl rfl rfl ?_
  refine gf_iload_n (i := 2) (q := 7) dX0_step_6 rfl rfl rfl ?_
  refine gf_iload (q := 9) dX0_step_7 rfl rfl ?_
  refine gf_callV_i (n2 := 3) (As := [.int v1, .int v2, .int v4]) (st := [.int v3, .int 7, .int 0]) (b := 22) (ci := 0) (C := RX0) (q := 12) (hlen := rfl) rfl rfl kw284 kw285 kw286 dX0_step_9 kw287 kw3 (by decide +kernel) (by decide) (Nat.le_of_ble_eq_true rfl) (C_X0_drift v1 v2 v4 u) rfl rfl (fun x1 => ?_)
  refine gf_iadd (q := 13) dX0_step_12 rfl ?_
  refine gf_callS_i (n2 := 2) (As := [.int 7, .int (v3 + x1.1)]) (st := [.int 0]) (q := 16) (hlen := rfl) kw256 kw257 dX0_step_13 kw258 kw9 (by decide +kernel) (by decide) (Nat.le_of_ble_eq_true rfl) (C_J9_min_7cf53 YY 7 (v3 + x1.1) x1.2) rfl rfl (fun x2 => ?_)
  refine gf_callS_i (n2 := 2) (As := [.int 0, .int x2.1]) (st := []) (q := 19) (hlen := rfl) kw288 kw289 dX0_step_16 kw290 kw9 (by decide +kernel) (by decide) (Nat.le_of_ble_eq_true rfl) (C_J9_max_7cf53 YY 0 x2.1 x2.2) rfl rfl (fun x3 => ?_)
  exact gf_reti dX0_step_19 rfl
theorem C_X0_step (v1 : Int32) (v2 : Int32) (v3 : Int32) (v4 : Int32) (u : XM) : CF YY 2 yX0_step cX0_step 5 (some .int) [.ref 22, .int v1, .int v2, .int v3, .int v4] u emI (F_X0_step v1 v2 v3 v4 u) := cf_of (by decide +kernel) (Nat.le_of_ble_eq_true rfl) rfl (T_X0_step v1 v2 v3 v4 u)
def F_X0_passYear_50 (k2 : Int32 → XM → Option (Unit × XM)) (v1 : Int32) (u : XM) : Option (Unit × XM) := k2 (v1 + 1) u
set_option maxRecDepth 20000 in
set_option maxHeartbeats 4000000 in
theorem T_X0_passYear_50 (k2 : Int32 → XM → Option (Unit × XM)) (hk2 : ∀ (v1 : Int32) (u : XM), GF E0 YY 3 yX0_passYear cX0_passYear 2 none 2 [some (.ref 22), some (.int v1)] [] u emV (k2 v1 u)) (v1 : Int32) (u : XM) : GF E0 YY 3 yX0_passYear cX0_passYear 2 none 50 [some (.ref 22), some (.int v1)] [] u emV (F_X0_passYear_50 k2 v1 u) := by
  unfold F_X0_passYear_50
  refine gf_iinc (v := (v1 + 1)) (lv2 := [some (.ref 22), some (.int (v1 + 1))]) (q := 53) dX0_passYear_50 rfl (congrArg _ ki_1) (by decide) rfl rfl ?_
  refine gf_goto (q := 2) dX0_passYear_53 (by decide) ?_
  exact (hk2 (v1 + 1) u)
def F_X0_passYear_2 : Nat → Int32 → XM → Option (Unit × XM)
  | 0, _, _ => none
  | n + 1, v1, u => (if (mi u 22 6) ≤ v1 then some ((), (wi u 22 10 ((mi u 22 10) + 1))) else (Option.bind (F_X0_isTaken v1 u) (fun x1 => (if x1.1 = 0 then (if ain YY 0 23 v1 = true then (if ain YY 0 26 v1 = true then (if ain YY 0 25 v1 = true then (Option.bind (F_X0_step (mi x1.2 23 (Int32.toNatClampNeg v1)) (mi x1.2 26 (Int32.toNatClampNeg v1)) (mi x1.2 25 (Int32.toNatClampNeg v1)) (mi x1.2 22 10) x1.2) (fun x2 => (if ain YY 0 25 v1 = true then F_X0_passYear_50 (F_X0_passYear_2 n) v1 (wi x2.2 25 (Int32.toNatClampNeg v1) x2.1) else none))) else none) else none) else none) else F_X0_passYear_50 (F_X0_passYear_2 n) v1 x1.2))))
set_option maxRecDepth 20000 in
set_option maxHeartbeats 4000000 in
theorem T_X0_passYear_2 : ∀ (n : Nat) (v1 : Int32) (u : XM), GF E0 YY 3 yX0_passYear cX0_passYear 2 none 2 [some (.ref 22), some (.int v1)] [] u emV (F_X0_passYear_2 n v1 u) := by
  intro n
  induction n with
  | zero => intro v1 u; exact gf_none
  | succ n ih =>
    intro v1 u
    unfold F_X0_passYear_2
    refine gf_iload_n (i := 1) (q := 3) dX0_passYear_2 rfl rfl rfl ?_
    refine gf_aload_n (i := 0) (q := 4) dX0_passYear_3 rfl rfl rfl ?_
    refine gf_getI (C := RX0) (T := TX0) (N := 12) (ci := 0) (k := 22) (j := 6) (q := 7) dX0_passYear_4 rfl rfl kin0 (by decide) kw59 rfl rfl ?_
    refine gf_icmp_ge (t := 56) (q := 10) dX0_passYear_7 (by decide) rfl ?_ ?_
    · refine gf_aload_n (i := 0) (q := 57) dX0_passYear_56 rfl rfl rfl ?_
      refine gf_dup (q := 58) dX0_passYear_57 rfl rfl ?_
      refine gf_getI (C := RX0) (T := TX0) (N := 12) (ci := 0) (k := 22) (j := 10) (q := 61) dX0_passYear_58 rfl rfl kin0 (by decide) kw67 rfl rfl ?_
      refine gf_iconst (q := 62) dX0_passYear_61 ki_1 rfl ?_
      refine gf_iadd (q := 63) dX0_passYear_62 rfl ?_
      refine gf_putI (C := RX0) (T := TX0) (N := 12) (ci := 0) (k := 22) (j := 10) (q := 66) dX0_passYear_63 rfl rfl kin0 tyX0 tyX0_ok nmX0 (by decide) kw67 rfl rfl rfl rfl ?_
      exact gf_retv dX0_passYear_66 rfl
    · refine gf_aload_n (i := 0) (q := 11) dX0_passYear_10 rfl rfl rfl ?_
      refine gf_iload_n (i := 1) (q := 12) dX0_passYear_11 rfl rfl rfl ?_
      refine gf_callV_i (n2 := 1) (As := [.int v1]) (st := []) (b := 22) (ci := 0) (C := RX0) (q := 15) (hlen := rfl) rfl rfl kw276 kw277 kw278 dX0_passYear_12 kw279 kw3 (by decide +kernel) (by decide) (Nat.le_of_ble_eq_true rfl) (C_X0_isTaken v1 u) rfl rfl (fun x1 => ?_)
      refine gf_if_ne (t := 50) (q := 18) dX0_passYear_15 (by decide) rfl ?_ ?_
      · refine gf_aload_n (i := 0) (q := 19) dX0_passYear_18 rfl rfl rfl ?_
        refine gf_getA (C := RX0) (T := TX0) (N := 12) (ci := 0) (k := 22) (j := 2) (t := 25) (q := 22) dX0_passYear_19 rfl rfl kin0 (by decide) kw49 rfl rfl ?_
        refine gf_iload_n (i := 1) (q := 23) dX0_passYear_22 rfl rfl rfl ?_
        refine gf_aload_n (i := 0) (q := 24) dX0_passYear_23 rfl rfl rfl ?_
        refine gf_aload_n (i := 0) (q := 25) dX0_passYear_24 rfl rfl rfl ?_
        refine gf_getA (C := RX0) (T := TX0) (N := 12) (ci := 0) (k := 22) (j := 0) (t := 23) (q := 28) dX0_passYear_25 rfl rfl kin0 (by decide) kw46 rfl rfl ?_
        refine gf_iload_n (i := 1) (q := 29) dX0_passYear_28 rfl rfl rfl ?_
        refine gf_iald (q := 30) dX0_passYear_29 rfl ?_
        refine gf_aload_n (i := 0) (q := 31) dX0_passYear_30 rfl rfl rfl ?_
        refine gf_getA (C := RX0) (T := TX0) (N := 12) (ci := 0) (k := 22) (j := 3) (t := 26) (q := 34) dX0_passYear_31 rfl rfl kin0 (by decide) kw52 rfl rfl ?_
        refine gf_iload_n (i := 1) (q := 35) dX0_passYear_34 rfl rfl rfl ?_
        refine gf_iald (q := 36) dX0_passYear_35 rfl ?_
        refine gf_aload_n (i := 0) (q := 37) dX0_passYear_36 rfl rfl rfl ?_
        refine gf_getA (C := RX0) (T := TX0) (N := 12) (ci := 0) (k := 22) (j := 2) (t := 25) (q := 40) dX0_passYear_37 rfl rfl kin0 (by decide) kw49 rfl rfl ?_
        refine gf_iload_n (i := 1) (q := 41) dX0_passYear_40 rfl rfl rfl ?_
        refine gf_iald (q := 42) dX0_passYear_41 rfl ?_
        refine gf_aload_n (i := 0) (q := 43) dX0_passYear_42 rfl rfl rfl ?_
        refine gf_getI (C := RX0) (T := TX0) (N := 12) (ci := 0) (k := 22) (j := 10) (q := 46) dX0_passYear_43 rfl rfl kin0 (by decide) kw67 rfl rfl ?_
        refine gf_callV_i (n2 := 4) (As := [.int (mi x1.2 23 (Int32.toNatClampNeg v1)), .int (mi x1.2 26 (Int32.toNatClampNeg v1)), .int (mi x1.2 25 (Int32.toNatClampNeg v1)), .int (mi x1.2 22 10)]) (st := [.int v1, .ref 25]) (b := 22) (ci := 0) (C := RX0) (q := 49) (hlen := rfl) rfl rfl kw280 kw282 kp4 dX0_passYear_46 kw283 kw3 (by decide +kernel) (by decide) (Nat.le_of_ble_eq_true rfl) (C_X0_step (mi x1.2 23 (Int32.toNatClampNeg v1)) (mi x1.2 26 (Int32.toNatClampNeg v1)) (mi x1.2 25 (Int32.toNatClampNeg v1)) (mi x1.2 22 10) x1.2) rfl rfl (fun x2 => ?_)
        refine gf_iast (q := 50) dX0_passYear_49 rfl ?_
        exact (T_X0_passYear_50 (F_X0_passYear_2 n) ih v1 (wi x2.2 25 (Int32.toNatClampNeg v1) x2.1))
      · exact (T_X0_passYear_50 (F_X0_passYear_2 n) ih v1 x1.2)
def F_X0_passYear  (u : XM) : Option (Unit × XM) := F_X0_passYear_2 FU 0 u
set_option maxRecDepth 20000 in
set_option maxHeartbeats 4000000 in
theorem T_X0_passYear  (u : XM) : GF E0 YY 3 yX0_passYear cX0_passYear 2 none 0 [some (.ref 22), none] [] u emV (F_X0_passYear u) := by
  unfold F_X0_passYear
  refine gf_iconst (q := 1) dX0_passYear_0 ki_0 rfl ?_
  refine gf_istore_n (i := 1) (lv2 := [some (.ref 22), some (.int 0)]) (q := 2) dX0_passYear_1 rfl (by decide) rfl rfl ?_
  exact (T_X0_passYear_2 FU 0 u)
theorem C_X0_passYear  (u : XM) : CF YY 3 yX0_passYear cX0_passYear 2 none [.ref 22] u emV (F_X0_passYear u) := cf_of (by decide +kernel) (Nat.le_of_ble_eq_true rfl) rfl (T_X0_passYear u)
def F_X2_drawn (v0 : Int32) (u : XM) : Option (Int32 × XM) := (Option.bind (F_J9_max_7cf53 YY 0 (v0 - 2) u) (fun x1 => some (x1.1, x1.2)))
set_option maxRecDepth 20000 in
set_option maxHeartbeats 4000000 in
theorem T_X2_drawn (v0 : Int32) (u : XM) : GF E0 YY 2 yX2_drawn cX2_drawn 1 (some .int) 0 [some (.int v0)] [] u emI (F_X2_drawn v0 u) := by
  unfold F_X2_drawn
  refine gf_iconst (q := 1) dX2_drawn_0 ki_0 rfl ?_
  refine gf_iload_n (i := 0) (q := 2) dX2_drawn_1 rfl rfl rfl ?_
  refine gf_iconst (q := 3) dX2_drawn_2 ki_2 rfl ?_
  refine gf_isub (q := 4) dX2_drawn_3 rfl ?_
  refine gf_callS_i (n2 := 2) (As := [.int 0, .int (v0 - 2)]) (st := []) (q := 7) (hlen := rfl) kw294 kw289 dX2_drawn_4 kw290 kw9 (by decide +kernel) (by decide) (Nat.le_of_ble_eq_true rfl) (C_J9_max_7cf53 YY 0 (v0 - 2) u) rfl rfl (fun x1 => ?_)
  exact gf_reti dX2_drawn_7 rfl
theorem C_X2_drawn (v0 : Int32) (u : XM) : CF YY 2 yX2_drawn cX2_drawn 1 (some .int) [.int v0] u emI (F_X2_drawn v0 u) := cf_of (by decide +kernel) (Nat.le_of_ble_eq_true rfl) rfl (T_X2_drawn v0 u)
def F_X2_filled (v0 : Int32) (u : XM) : Option (Int32 × XM) := (Option.bind (F_J9_min_7cf53 YY 9 (v0 + 3) u) (fun x1 => some (x1.1, x1.2)))
set_option maxRecDepth 20000 in
set_option maxHeartbeats 4000000 in
theorem T_X2_filled (v0 : Int32) (u : XM) : GF E0 YY 2 yX2_filled cX2_filled 1 (some .int) 0 [some (.int v0)] [] u emI (F_X2_filled v0 u) := by
  unfold F_X2_filled
  refine gf_bipush (q := 2) dX2_filled_0 kb_9 rfl ?_
  refine gf_iload_n (i := 0) (q := 3) dX2_filled_2 rfl rfl rfl ?_
  refine gf_iconst (q := 4) dX2_filled_3 ki_3 rfl ?_
  refine gf_iadd (q := 5) dX2_filled_4 rfl ?_
  refine gf_callS_i (n2 := 2) (As := [.int 9, .int (v0 + 3)]) (st := []) (q := 8) (hlen := rfl) kw298 kw257 dX2_filled_5 kw258 kw9 (by decide +kernel) (by decide) (Nat.le_of_ble_eq_true rfl) (C_J9_min_7cf53 YY 9 (v0 + 3) u) rfl rfl (fun x1 => ?_)
  exact gf_reti dX2_filled_8 rfl
theorem C_X2_filled (v0 : Int32) (u : XM) : CF YY 2 yX2_filled cX2_filled 1 (some .int) [.int v0] u emI (F_X2_filled v0 u) := cf_of (by decide +kernel) (Nat.le_of_ble_eq_true rfl) rfl (T_X2_filled v0 u)
def F_X0_act (v1 : Int32) (v2 : Int32) (u : XM) : Option (Unit × XM) := (Option.bind (F_X0_has v2 u) (fun x1 => (if x1.1 = 0 then some ((), x1.2) else (tsw v1 0 [(Option.bind (F_X0_passYear x1.2) (fun x2 => some ((), x2.2))), (Option.bind (F_X2_drawn (mi x1.2 22 9) x1.2) (fun x3 => some ((), (wi x3.2 22 9 x3.1)))), (Option.bind (F_X2_filled (mi x1.2 22 9) x1.2) (fun x4 => some ((), (wi x4.2 22 9 x4.1)))), (if ain YY 0 25 v2 = true then (if ain YY 0 25 v2 = true then some ((), (wi x1.2 25 (Int32.toNatClampNeg v2) ((mi x1.2 25 (Int32.toNatClampNeg v2)) + 1))) else none) else none), (if ain YY 0 25 v2 = true then (if ain YY 0 25 v2 = true then some ((), (wi x1.2 25 (Int32.toNatClampNeg v2) ((mi x1.2 25 (Int32.toNatClampNeg v2)) - 1))) else none) else none), (if ain YY 0 25 v2 = true then some ((), (wi x1.2 25 (Int32.toNatClampNeg v2) (-9))) else none)] (some ((), x1.2))))))
set_option maxRecDepth 20000 in
set_option maxHeartbeats 4000000 in
theorem T_X0_act (v1 : Int32) (v2 : Int32) (u : XM) : GF E0 YY 4 yX0_act cX0_act 3 none 0 [some (.ref 22), some (.int v1), some (.int v2)] [] u emV (F_X0_act v1 v2 u) := by
  unfold F_X0_act
  refine gf_aload_n (i := 0) (q := 1) dX0_act_0 rfl rfl rfl ?_
  refine gf_iload_n (i := 2) (q := 2) dX0_act_1 rfl rfl rfl ?_
  refine gf_callV_i (n2 := 1) (As := [.int v2]) (st := []) (b := 22) (ci := 0) (C := RX0) (q := 5) (hlen := rfl) rfl rfl kw268 kw269 kw270 dX0_act_2 kw271 kw3 (by decide +kernel) (by decide) (Nat.le_of_ble_eq_true rfl) (C_X0_has v2 u) rfl rfl (fun x1 => ?_)
  refine gf_if_ne (t := 9) (q := 8) dX0_act_5 (by decide) rfl ?_ ?_
  · exact gf_retv dX0_act_8 rfl
  · refine gf_iload_n (i := 1) (q := 10) dX0_act_9 rfl rfl rfl ?_
    refine gf_tsw (ts := [48, 55, 69, 83, 96, 109]) (t0 := 120) dX0_act_10 (by decide +kernel) (xsw_c ?_ (xsw_c ?_ (xsw_c ?_ (xsw_c ?_ (xsw_c ?_ (xsw_c ?_ (xsw_n))))))) ?_
    · refine gf_aload_n (i := 0) (q := 49) dX0_act_48 rfl rfl rfl ?_
      refine gf_callV_v (n2 := 0) (As := []) (st := []) (b := 22) (ci := 0) (C := RX0) (q := 52) (hlen := rfl) rfl rfl kw272 kw274 kp3 dX0_act_49 kw275 kw3 (by decide +kernel) (by decide) (Nat.le_of_ble_eq_true rfl) (C_X0_passYear x1.2) rfl rfl (fun x2 => ?_)
      refine gf_goto (q := 120) dX0_act_52 (by decide) ?_
      exact gf_retv dX0_act_120 rfl
    · refine gf_aload_n (i := 0) (q := 56) dX0_act_55 rfl rfl rfl ?_
      refine gf_aload_n (i := 0) (q := 57) dX0_act_56 rfl rfl rfl ?_
      refine gf_getI (C := RX0) (T := TX0) (N := 12) (ci := 0) (k := 22) (j := 9) (q := 60) dX0_act_57 rfl rfl kin0 (by decide) kw65 rfl rfl ?_
      refine gf_callS_i (n2 := 1) (As := [.int (mi x1.2 22 9)]) (st := [.ref 22]) (q := 63) (hlen := rfl) kw291 kw292 dX0_act_60 kw293 kw5 (by decide +kernel) (by decide) (Nat.le_of_ble_eq_true rfl) (C_X2_drawn (mi x1.2 22 9) x1.2) rfl rfl (fun x3 => ?_)
      refine gf_putI (C := RX0) (T := TX0) (N := 12) (ci := 0) (k := 22) (j := 9) (q := 66) dX0_act_63 rfl rfl kin0 tyX0 tyX0_ok nmX0 (by decide) kw65 rfl rfl rfl rfl ?_
      refine gf_goto (q := 120) dX0_act_66 (by decide) ?_
      exact gf_retv dX0_act_120 rfl
    · refine gf_aload_n (i := 0) (q := 70) dX0_act_69 rfl rfl rfl ?_
      refine gf_aload_n (i := 0) (q := 71) dX0_act_70 rfl rfl rfl ?_
      refine gf_getI (C := RX0) (T := TX0) (N := 12) (ci := 0) (k := 22) (j := 9) (q := 74) dX0_act_71 rfl rfl kin0 (by decide) kw65 rfl rfl ?_
      refine gf_callS_i (n2 := 1) (As := [.int (mi x1.2 22 9)]) (st := [.ref 22]) (q := 77) (hlen := rfl) kw295 kw296 dX0_act_74 kw297 kw5 (by decide +kernel) (by decide) (Nat.le_of_ble_eq_true rfl) (C_X2_filled (mi x1.2 22 9) x1.2) rfl rfl (fun x4 => ?_)
      refine gf_putI (C := RX0) (T := TX0) (N := 12) (ci := 0) (k := 22) (j := 9) (q := 80) dX0_act_77 rfl rfl kin0 tyX0 tyX0_ok nmX0 (by decide) kw65 rfl rfl rfl rfl ?_
      refine gf_goto (q := 120) dX0_act_80 (by decide) ?_
      exact gf_retv dX0_act_120 rfl
    · refine gf_aload_n (i := 0) (q := 84) dX0_act_83 rfl rfl rfl ?_
      refine gf_getA (C := RX0) (T := TX0) (N := 12) (ci := 0) (k := 22) (j := 2) (t := 25) (q := 87) dX0_act_84 rfl rfl kin0 (by decide) kw49 rfl rfl ?_
      refine gf_iload_n (i := 2) (q := 88) dX0_act_87 rfl rfl rfl ?_
      refine gf_dup2 (q := 89) dX0_act_88 rfl rfl rfl ?_
      refine gf_iald (q := 90) dX0_act_89 rfl ?_
      refine gf_iconst (q := 91) dX0_act_90 ki_1 rfl ?_
      refine gf_iadd (q := 92) dX0_act_91 rfl ?_
      refine gf_iast (q := 93) dX0_act_92 rfl ?_
      refine gf_goto (q := 120) dX0_act_93 (by decide) ?_
      exact gf_retv dX0_act_120 rfl
    · refine gf_aload_n (i := 0) (q := 97) dX0_act_96 rfl rfl rfl ?_
      refine gf_getA (C := RX0) (T := TX0) (N := 12) (ci := 0) (k := 22) (j := 2) (t := 25) (q := 100) dX0_act_97 rfl rfl kin0 (by decide) kw49 rfl rfl ?_
      refine gf_iload_n (i := 2) (q := 101) dX0_act_100 rfl rfl rfl ?_
      refine gf_dup2 (q := 102) dX0_act_101 rfl rfl rfl ?_
      refine gf_iald (q := 103) dX0_act_102 rfl ?_
      refine gf_iconst (q := 104) dX0_act_103 ki_1 rfl ?_
      refine gf_isub (q := 105) dX0_act_104 rfl ?_
      refine gf_iast (q := 106) dX0_act_105 rfl ?_
      refine gf_goto (q := 120) dX0_act_106 (by decide) ?_
      exact gf_retv dX0_act_120 rfl
    · refine gf_aload_n (i := 0) (q := 110) dX0_act_109 rfl rfl rfl ?_
      refine gf_getA (C := RX0) (T := TX0) (N := 12) (ci := 0) (k := 22) (j := 2) (t := 25) (q := 113) dX0_act_110 rfl rfl kin0 (by decide) kw49 rfl rfl ?_
      refine gf_iload_n (i := 2) (q := 114) dX0_act_113 rfl rfl rfl ?_
      refine gf_bipush (q := 116) dX0_act_114 kb_m9 rfl ?_
      refine gf_iast (q := 117) dX0_act_116 rfl ?_
      refine gf_goto (q := 120) dX0_act_117 (by decide) ?_
      exact gf_retv dX0_act_120 rfl
    · exact gf_retv dX0_act_120 rfl
theorem C_X0_act (v1 : Int32) (v2 : Int32) (u : XM) : CF YY 4 yX0_act cX0_act 3 none [.ref 22, .int v1, .int v2] u emV (F_X0_act v1 v2 u) := cf_of (by decide +kernel) (Nat.le_of_ble_eq_true rfl) rfl (T_X0_act v1 v2 u)
def F_X0_replay_40 : Nat → Int32 → XM → Option (Unit × XM)
  | 0, _, _ => none
  | n + 1, v2, u => (if (mi u 22 11) ≤ v2 then some ((), u) else (if ain YY 0 28 v2 = true then (if ain YY 0 28 v2 = true then (Option.bind (F_X0_act ((mi u 28 (Int32.toNatClampNeg v2)) / 8) ((mi u 28 (Int32.toNatClampNeg v2)) - (mi u 28 (Int32.toNatClampNeg v2)) / 8 * 8) u) (fun x1 => F_X0_replay_40 n (v2 + 1) x1.2)) else none) else none))
set_option maxRecDepth 20000 in
set_option maxHeartbeats 4000000 in
theorem T_X0_replay_40 : ∀ (n : Nat) (v2 : Int32) (u : XM), GF E0 YY 5 yX0_replay cX0_replay 3 none 40 [some (.ref 22), none, some (.int v2)] [] u emV (F_X0_replay_40 n v2 u) := by
  intro n
  induction n with
  | zero => intro v2 u; exact gf_none
  | succ n ih =>
    intro v2 u
    unfold F_X0_replay_40
    refine gf_iload_n (i := 2) (q := 41) dX0_replay_40 rfl rfl rfl ?_
    refine gf_aload_n (i := 0) (q := 42) dX0_replay_41 rfl rfl rfl ?_
    refine gf_getI (C := RX0) (T := TX0) (N := 12) (ci := 0) (k := 22) (j := 11) (q := 45) dX0_replay_42 rfl rfl kin0 (by decide) kw69 rfl rfl ?_
    refine gf_icmp_ge (t := 76) (q := 48) dX0_replay_45 (by decide) rfl ?_ ?_
    · exact gf_retv dX0_replay_76 rfl
    · refine gf_aload_n (i := 0) (q := 49) dX0_replay_48 rfl rfl rfl ?_
      refine gf_aload_n (i := 0) (q := 50) dX0_replay_49 rfl rfl rfl ?_
      refine gf_getA (C := RX0) (T := TX0) (N := 12) (ci := 0) (k := 22) (j := 5) (t := 28) (q := 53) dX0_replay_50 rfl rfl kin0 (by decide) kw57 rfl rfl ?_
      refine gf_iload_n (i := 2) (q := 54) dX0_replay_53 rfl rfl rfl ?_
      refine gf_iald (q := 55) dX0_replay_54 rfl ?_
      refine gf_bipush (q := 57) dX0_replay_55 kb_8 rfl ?_
      refine gf_idiv_c (q := 58) dX0_replay_57 (by decide) rfl ?_
      refine gf_aload_n (i := 0) (q := 59) dX0_replay_58 rfl rfl rfl ?_
      refine gf_getA (C := RX0) (T := TX0) (N := 12) (ci := 0) (k := 22) (j := 5) (t := 28) (q := 62) dX0_replay_59 rfl rfl kin0 (by decide) kw57 rfl rfl ?_
      refine gf_iload_n (i := 2) (q := 63) dX0_replay_62 rfl rfl rfl ?_
      refine gf_iald (q := 64) dX0_replay_63 rfl ?_
      refine gf_bipush (q := 66) dX0_replay_64 kb_8 rfl ?_
      refine gf_irem_c (q := 67) dX0_replay_66 (by decide) rfl ?_
      refine gf_callV_v (n2 := 2) (As := [.int ((mi u 28 (Int32.toNatClampNeg v2)) / 8), .int ((mi u 28 (Int32.toNatClampNeg v2)) - (mi u 28 (Int32.toNatClampNeg v2)) / 8 * 8)]) (st := []) (b := 22) (ci := 0) (C := RX0) (q := 70) (hlen := rfl) rfl rfl kw264 kw266 kp2 dX0_replay_67 kw267 kw3 (by decide +kernel) (by decide) (Nat.le_of_ble_eq_true rfl) (C_X0_act ((mi u 28 (Int32.toNatClampNeg v2)) / 8) ((mi u 28 (Int32.toNatClampNeg v2)) - (mi u 28 (Int32.toNatClampNeg v2)) / 8 * 8) u) rfl rfl (fun x1 => ?_)
      refine gf_iinc (v := (v2 + 1)) (lv2 := [some (.ref 22), none, some (.int (v2 + 1))]) (q := 73) dX0_replay_70 rfl (congrArg _ ki_1) (by decide) rfl rfl ?_
      refine gf_goto (q := 40) dX0_replay_73 (by decide) ?_
      exact (ih (v2 + 1) x1.2)
def F_X0_replay (v1 : Int32) (u : XM) : Option (Unit × XM) := (Option.bind (alen YY 0 24) (fun n3 => Option.bind (alen YY 0 25) (fun n4 => if (0 : Int32) ≤ 0 ∧ (0 : Int32) ≤ 0 ∧ (0 : Int32) ≤ 6 ∧ (Int32.toNatClampNeg 0) + (Int32.toNatClampNeg 6) ≤ n3 ∧ (Int32.toNatClampNeg 0) + (Int32.toNatClampNeg 6) ≤ n4 then (Option.bind (F_J9_min_7cf53 YY v1 40 (wi (wi (wc u 24 (Int32.toNatClampNeg 0) 25 (Int32.toNatClampNeg 0) (Int32.toNatClampNeg 6)) 22 9 (mi (wc u 24 (Int32.toNatClampNeg 0) 25 (Int32.toNatClampNeg 0) (Int32.toNatClampNeg 6)) 22 8)) 22 10 0)) (fun x2 => F_X0_replay_40 FU 0 (wi x2.2 22 11 x2.1))) else none)))
set_option maxRecDepth 20000 in
set_option maxHeartbeats 4000000 in
theorem T_X0_replay (v1 : Int32) (u : XM) : GF E0 YY 5 yX0_replay cX0_replay 3 none 0 [some (.ref 22), some (.int v1), none] [] u emV (F_X0_replay v1 u) := by
  unfold F_X0_replay
  refine gf_aload_n (i := 0) (q := 1) dX0_replay_0 rfl rfl rfl ?_
  refine gf_getA (C := RX0) (T := TX0) (N := 12) (ci := 0) (k := 22) (j := 1) (t := 24) (q := 4) dX0_replay_1 rfl rfl kin0 (by decide) kw48 rfl rfl ?_
  refine gf_iconst (q := 5) dX0_replay_4 ki_0 rfl ?_
  refine gf_aload_n (i := 0) (q := 6) dX0_replay_5 rfl rfl rfl ?_
  refine gf_getA (C := RX0) (T := TX0) (N := 12) (ci := 0) (k := 22) (j := 2) (t := 25) (q := 9) dX0_replay_6 rfl rfl kin0 (by decide) kw49 rfl rfl ?_
  refine gf_iconst (q := 10) dX0_replay_9 ki_0 rfl ?_
  refine gf_bipush (q := 12) dX0_replay_10 kb_6 rfl ?_
  refine gf_copy (q := 15) dX0_replay_12 kw263 kw209 kw208 kw8 (by decide) (by decide) rfl ?_
  refine gf_aload_n (i := 0) (q := 16) dX0_replay_15 rfl rfl rfl ?_
  refine gf_aload_n (i := 0) (q := 17) dX0_replay_16 rfl rfl rfl ?_
  refine gf_getI (C := RX0) (T := TX0) (N := 12) (ci := 0) (k := 22) (j := 8) (q := 20) dX0_replay_17 rfl rfl kin0 (by decide) kw64 rfl rfl ?_
  refine gf_putI (C := RX0) (T := TX0) (N := 12) (ci := 0) (k := 22) (j := 9) (q := 23) dX0_replay_20 rfl rfl kin0 tyX0 tyX0_ok nmX0 (by decide) kw65 rfl rfl rfl rfl ?_
  refine gf_aload_n (i := 0) (q := 24) dX0_replay_23 rfl rfl rfl ?_
  refine gf_iconst (q := 25) dX0_replay_24 ki_0 rfl ?_
  refine gf_putI (C := RX0) (T := TX0) (N := 12) (ci := 0) (k := 22) (j := 10) (q := 28) dX0_replay_25 rfl rfl kin0 tyX0 tyX0_ok nmX0 (by decide) kw67 rfl rfl rfl rfl ?_
  refine gf_aload_n (i := 0) (q := 29) dX0_replay_28 rfl rfl rfl ?_
  refine gf_iload_n (i := 1) (q := 30) dX0_replay_29 rfl rfl rfl ?_
  refine gf_bipush (q := 32) dX0_replay_30 kb_40 rfl ?_
  refine gf_callS_i (n2 := 2) (As := [.int v1, .int 40]) (st := [.ref 22]) (q := 35) (hlen := rfl) kw256 kw257 dX0_replay_32 kw258 kw9 (by decide +kernel) (by decide) (Nat.le_of_ble_eq_true rfl) (C_J9_min_7cf53 YY v1 40 (wi (wi (wc u 24 (Int32.toNatClampNeg 0) 25 (Int32.toNatClampNeg 0) (Int32.toNatClampNeg 6)) 22 9 (mi (wc u 24 (Int32.toNatClampNeg 0) 25 (Int32.toNatClampNeg 0) (Int32.toNatClampNeg 6)) 22 8)) 22 10 0)) rfl rfl (fun x2 => ?_)
  refine gf_putI (C := RX0) (T := TX0) (N := 12) (ci := 0) (k := 22) (j := 11) (q := 38) dX0_replay_35 rfl rfl kin0 tyX0 tyX0_ok nmX0 (by decide) kw69 rfl rfl rfl rfl ?_
  refine gf_iconst (q := 39) dX0_replay_38 ki_0 rfl ?_
  refine gf_istore_n (i := 2) (lv2 := [some (.ref 22), some (.int v1), some (.int 0)]) (q := 40) dX0_replay_39 rfl (by decide) rfl rfl ?_
  exact gf_mask (b := [true, false, true]) rfl (T_X0_replay_40 FU 0 (wi x2.2 22 11 x2.1))
theorem C_X0_replay (v1 : Int32) (u : XM) : CF YY 5 yX0_replay cX0_replay 3 none [.ref 22, .int v1] u emV (F_X0_replay v1 u) := cf_of (by decide +kernel) (Nat.le_of_ble_eq_true rfl) rfl (T_X0_replay v1 u)
def F_X0_fillFrom_35 : Nat → Int32 → XM → Option (Unit × XM)
  | 0, _, _ => none
  | n + 1, v2, u => (if (mi u 22 6) ≤ v2 then (Option.bind (F_X0_replay 0 u) (fun x1 => some ((), x1.2))) else (if ain YY 0 21 (4 * (v2 + 1)) = true then (if ain YY 0 23 v2 = true then (if ain YY 0 21 ((4 * (v2 + 1)) + 1) = true then (if ain YY 0 24 v2 = true then (if ain YY 0 21 ((4 * (v2 + 1)) + 2) = true then (if ain YY 0 26 v2 = true then (if ain YY 0 21 ((4 * (v2 + 1)) + 3) = true then (if ain YY 0 27 v2 = true then F_X0_fillFrom_35 n (v2 + 1) (wi (wi (wi (wi u 23 (Int32.toNatClampNeg v2) (mi u 21 (Int32.toNatClampNeg (4 * (v2 + 1))))) 24 (Int32.toNatClampNeg v2) (mi (wi u 23 (Int32.toNatClampNeg v2) (mi u 21 (Int32.toNatClampNeg (4 * (v2 + 1))))) 21 (Int32.toNatClampNeg ((4 * (v2 + 1)) + 1)))) 26 (Int32.toNatClampNeg v2) (mi (wi (wi u 23 (Int32.toNatClampNeg v2) (mi u 21 (Int32.toNatClampNeg (4 * (v2 + 1))))) 24 (Int32.toNatClampNeg v2) (mi (wi u 23 (Int32.toNatClampNeg v2) (mi u 21 (Int32.toNatClampNeg (4 * (v2 + 1))))) 21 (Int32.toNatClampNeg ((4 * (v2 + 1)) + 1)))) 21 (Int32.toNatClampNeg ((4 * (v2 + 1)) + 2)))) 27 (Int32.toNatClampNeg v2) (mi (wi (wi (wi u 23 (Int32.toNatClampNeg v2) (mi u 21 (Int32.toNatClampNeg (4 * (v2 + 1))))) 24 (Int32.toNatClampNeg v2) (mi (wi u 23 (Int32.toNatClampNeg v2) (mi u 21 (Int32.toNatClampNeg (4 * (v2 + 1))))) 21 (Int32.toNatClampNeg ((4 * (v2 + 1)) + 1)))) 26 (Int32.toNatClampNeg v2) (mi (wi (wi u 23 (Int32.toNatClampNeg v2) (mi u 21 (Int32.toNatClampNeg (4 * (v2 + 1))))) 24 (Int32.toNatClampNeg v2) (mi (wi u 23 (Int32.toNatClampNeg v2) (mi u 21 (Int32.toNatClampNeg (4 * (v2 + 1))))) 21 (Int32.toNatClampNeg ((4 * (v2 + 1)) + 1)))) 21 (Int32.toNatClampNeg ((4 * (v2 + 1)) + 2)))) 21 (Int32.toNatClampNeg ((4 * (v2 + 1)) + 3)))) else none) else none) else none) else none) else none) else none) else none) else none))
set_option maxRecDepth 20000 in
set_option maxHeartbeats 4000000 in
theorem T_X0_fillFrom_35 : ∀ (n : Nat) (v2 : Int32) (u : XM), GF E0 YY 6 yX0_fillFrom cX0_fillFrom 4 none 35 [some (.ref 22), some (.ref 20), some (.int v2), none] [] u emV (F_X0_fillFrom_35 n v2 u) := by
  intro n
  induction n with
  | zero => intro v2 u; exact gf_none
  | succ n ih =>
    intro v2 u
    unfold F_X0_fillFrom_35
    refine gf_iload_n (i := 2) (q := 36) dX0_fillFrom_35 rfl rfl rfl ?_
    refine gf_aload_n (i := 0) (q := 37) dX0_fillFrom_36 rfl rfl rfl ?_
    refine gf_getI (C := RX0) (T := TX0) (N := 12) (ci := 0) (k := 22) (j := 6) (q := 40) dX0_fillFrom_37 rfl rfl kin0 (by decide) kw59 rfl rfl ?_
    refine gf_icmp_ge (t := 109) (q := 43) dX0_fillFrom_40 (by decide) rfl ?_ ?_
    · refine gf_aload_n (i := 0) (q := 110) dX0_fillFrom_109 rfl rfl rfl ?_
      refine gf_iconst (q := 111) dX0_fillFrom_110 ki_0 rfl ?_
      refine gf_callV_v (n2 := 1) (As := [.int 0]) (st := []) (b := 22) (ci := 0) (C := RX0) (q := 114) (hlen := rfl) rfl rfl kw259 kw260 kw261 dX0_fillFrom_111 kw262 kw3 (by decide +kernel) (by decide) (Nat.le_of_ble_eq_true rfl) (C_X0_replay 0 u) rfl rfl (fun x1 => ?_)
      exact gf_retv dX0_fillFrom_114 rfl
    · refine gf_iconst (q := 44) dX0_fillFrom_43 ki_4 rfl ?_
      refine gf_iload_n (i := 2) (q := 45) dX0_fillFrom_44 rfl rfl rfl ?_
      refine gf_iconst (q := 46) dX0_fillFrom_45 ki_1 rfl ?_
      refine gf_iadd (q := 47) dX0_fillFrom_46 rfl ?_
      refine gf_imul (q := 48) dX0_fillFrom_47 rfl ?_
      refine gf_istore_n (i := 3) (lv2 := [some (.ref 22), some (.ref 20), some (.int v2), some (.int (4 * (v2 + 1)))]) (q := 49) dX0_fillFrom_48 rfl (by decide) rfl rfl ?_
      refine gf_aload_n (i := 0) (q := 50) dX0_fillFrom_49 rfl rfl rfl ?_
      refine gf_getA (C := RX0) (T := TX0) (N := 12) (ci := 0) (k := 22) (j := 0) (t := 23) (q := 53) dX0_fillFrom_50 rfl rfl kin0 (by decide) kw46 rfl rfl ?_
      refine gf_iload_n (i := 2) (q := 54) dX0_fillFrom_53 rfl rfl rfl ?_
      refine gf_aload_n (i := 1) (q := 55) dX0_fillFrom_54 rfl rfl rfl ?_
      refine gf_getA (C := RX3) (T := TX3) (N := 2) (ci := 3) (k := 20) (j := 0) (t := 21) (q := 58) dX0_fillFrom_55 rfl rfl kin3 (by decide) kw30 rfl rfl ?_
      refine gf_iload_n (i := 3) (q := 59) dX0_fillFrom_58 rfl rfl rfl ?_
      refine gf_iald (q := 60) dX0_fillFrom_59 rfl ?_
      refine gf_iast (q := 61) dX0_fillFrom_60 rfl ?_
      refine gf_aload_n (i := 0) (q := 62) dX0_fillFrom_61 rfl rfl rfl ?_
      refine gf_getA (C := RX0) (T := TX0) (N := 12) (ci := 0) (k := 22) (j := 1) (t := 24) (q := 65) dX0_fillFrom_62 rfl rfl kin0 (by decide) kw48 rfl rfl ?_
      refine gf_iload_n (i := 2) (q := 66) dX0_fillFrom_65 rfl rfl rfl ?_
      refine gf_aload_n (i := 1) (q := 67) dX0_fillFrom_66 rfl rfl rfl ?_
      refine gf_getA (C := RX3) (T := TX3) (N := 2) (ci := 3) (k := 20) (j := 0) (t := 21) (q := 70) dX0_fillFrom_67 rfl rfl kin3 (by decide) kw30 rfl rfl ?_
      refine gf_iload_n (i := 3) (q := 71) dX0_fillFrom_70 rfl rfl rfl ?_
      refine gf_iconst (q := 72) dX0_fillFrom_71 ki_1 rfl ?_
      refine gf_iadd (q := 73) dX0_fillFrom_72 rfl ?_
      refine gf_iald (q := 74) dX0_fillFrom_73 rfl ?_
      refine gf_iast (q := 75) dX0_fillFrom_74 rfl ?_
      refine gf_aload_n (i := 0) (q := 76) dX0_fillFrom_75 rfl rfl rfl ?_
      refine gf_getA (C := RX0) (T := TX0) (N := 12) (ci := 0) (k := 22) (j := 3) (t := 26) (q := 79) dX0_fillFrom_76 rfl rfl kin0 (by decide) kw52 rfl rfl ?_
      refine gf_iload_n (i := 2) (q := 80) dX0_fillFrom_79 rfl rfl rfl ?_
      refine gf_aload_n (i := 1) (q := 81) dX0_fillFrom_80 rfl rfl rfl ?_
      refine gf_getA (C := RX3) (T := TX3) (N := 2) (ci := 3) (k := 20) (j := 0) (t := 21) (q := 84) dX0_fillFrom_81 rfl rfl kin3 (by decide) kw30 rfl rfl ?_
      refine gf_iload_n (i := 3) (q := 85) dX0_fillFrom_84 rfl rfl rfl ?_
      refine gf_iconst (q := 86) dX0_fillFrom_85 ki_2 rfl ?_
      refine gf_iadd (q := 87) dX0_fillFrom_86 rfl ?_
      refine gf_iald (q := 88) dX0_fillFrom_87 rfl ?_
      refine gf_iast (q := 89) dX0_fillFrom_88 rfl ?_
      refine gf_aload_n (i := 0) (q := 90) dX0_fillFrom_89 rfl rfl rfl ?_
      refine gf_getA (C := RX0) (T := TX0) (N := 12) (ci := 0) (k := 22) (j := 4) (t := 27) (q := 93) dX0_fillFrom_90 rfl rfl kin0 (by decide) kw54 rfl rfl ?_
      refine gf_iload_n (i := 2) (q := 94) dX0_fillFrom_93 rfl rfl rfl ?_
      refine gf_aload_n (i := 1) (q := 95) dX0_fillFrom_94 rfl rfl rfl ?_
      refine gf_getA (C := RX3) (T := TX3) (N := 2) (ci := 3) (k := 20) (j := 0) (t := 21) (q := 98) dX0_fillFrom_95 rfl rfl kin3 (by decide) kw30 rfl rfl ?_
      refine gf_iload_n (i := 3) (q := 99) dX0_fillFrom_98 rfl rfl rfl ?_
      refine gf_iconst (q := 100) dX0_fillFrom_99 ki_3 rfl ?_
      refine gf_iadd (q := 101) dX0_fillFrom_100 rfl ?_
      refine gf_iald (q := 102) dX0_fillFrom_101 rfl ?_
      refine gf_iast (q := 103) dX0_fillFrom_102 rfl ?_
      refine gf_iinc (v := (v2 + 1)) (lv2 := [some (.ref 22), some (.ref 20), some (.int (v2 + 1)), some (.int (4 * (v2 + 1)))]) (q := 106) dX0_fillFrom_103 rfl (congrArg _ ki_1) (by decide) rfl rfl ?_
      refine gf_goto (q := 35) dX0_fillFrom_106 (by decide) ?_
      exact gf_mask (b := [true, true, true, false]) rfl (ih (v2 + 1) (wi (wi (wi (wi u 23 (Int32.toNatClampNeg v2) (mi u 21 (Int32.toNatClampNeg (4 * (v2 + 1))))) 24 (Int32.toNatClampNeg v2) (mi (wi u 23 (Int32.toNatClampNeg v2) (mi u 21 (Int32.toNatClampNeg (4 * (v2 + 1))))) 21 (Int32.toNatClampNeg ((4 * (v2 + 1)) + 1)))) 26 (Int32.toNatClampNeg v2) (mi (wi (wi u 23 (Int32.toNatClampNeg v2) (mi u 21 (Int32.toNatClampNeg (4 * (v2 + 1))))) 24 (Int32.toNatClampNeg v2) (mi (wi u 23 (Int32.toNatClampNeg v2) (mi u 21 (Int32.toNatClampNeg (4 * (v2 + 1))))) 21 (Int32.toNatClampNeg ((4 * (v2 + 1)) + 1)))) 21 (Int32.toNatClampNeg ((4 * (v2 + 1)) + 2)))) 27 (Int32.toNatClampNeg v2) (mi (wi (wi (wi u 23 (Int32.toNatClampNeg v2) (mi u 21 (Int32.toNatClampNeg (4 * (v2 + 1))))) 24 (Int32.toNatClampNeg v2) (mi (wi u 23 (Int32.toNatClampNeg v2) (mi u 21 (Int32.toNatClampNeg (4 * (v2 + 1))))) 21 (Int32.toNatClampNeg ((4 * (v2 + 1)) + 1)))) 26 (Int32.toNatClampNeg v2) (mi (wi (wi u 23 (Int32.toNatClampNeg v2) (mi u 21 (Int32.toNatClampNeg (4 * (v2 + 1))))) 24 (Int32.toNatClampNeg v2) (mi (wi u 23 (Int32.toNatClampNeg v2) (mi u 21 (Int32.toNatClampNeg (4 * (v2 + 1))))) 21 (Int32.toNatClampNeg ((4 * (v2 + 1)) + 1)))) 21 (Int32.toNatClampNeg ((4 * (v2 + 1)) + 2)))) 21 (Int32.toNatClampNeg ((4 * (v2 + 1)) + 3)))))
def F_X0_fillFrom  (u : XM) : Option (Unit × XM) := (Option.bind (F_J9_min_7cf53 YY (mi u 20 1) 6 u) (fun x2 => (if ain YY 0 21 1 = true then (if ain YY 0 21 2 = true then F_X0_fillFrom_35 FU 0 (wi (wi (wi x2.2 22 6 x2.1) 22 7 (mi (wi x2.2 22 6 x2.1) 21 (Int32.toNatClampNeg 1))) 22 8 (mi (wi (wi x2.2 22 6 x2.1) 22 7 (mi (wi x2.2 22 6 x2.1) 21 (Int32.toNatClampNeg 1))) 21 (Int32.toNatClampNeg 2))) else none) else none)))
set_option maxRecDepth 20000 in
set_option maxHeartbeats 4000000 in
theorem T_X0_fillFrom  (u : XM) : GF E0 YY 6 yX0_fillFrom cX0_fillFrom 4 none 0 [some (.ref 22), some (.ref 20), none, none] [] u emV (F_X0_fillFrom u) := by
  unfold F_X0_fillFrom
  refine gf_aload_n (i := 0) (q := 1) dX0_fillFrom_0 rfl rfl rfl ?_
  refine gf_aload_n (i := 1) (q := 2) dX0_fillFrom_1 rfl rfl rfl ?_
  refine gf_getI (C := RX3) (T := TX3) (N := 2) (ci := 3) (k := 20) (j := 1) (q := 5) dX0_fillFrom_2 rfl rfl kin3 (by decide) kw32 rfl rfl ?_
  refine gf_bipush (q := 7) dX0_fillFrom_5 kb_6 rfl ?_
  refine gf_callS_i (n2 := 2) (As := [.int (mi u 20 1), .int 6]) (st := [.ref 22]) (q := 10) (hlen := rfl) kw256 kw257 dX0_fillFrom_7 kw258 kw9 (by decide +kernel) (by decide) (Nat.le_of_ble_eq_true rfl) (C_J9_min_7cf53 YY (mi u 20 1) 6 u) rfl rfl (fun x2 => ?_)
  refine gf_putI (C := RX0) (T := TX0) (N := 12) (ci := 0) (k := 22) (j := 6) (q := 13) dX0_fillFrom_10 rfl rfl kin0 tyX0 tyX0_ok nmX0 (by decide) kw59 rfl rfl rfl rfl ?_
  refine gf_aload_n (i := 0) (q := 14) dX0_fillFrom_13 rfl rfl rfl ?_
  refine gf_aload_n (i := 1) (q := 15) dX0_fillFrom_14 rfl rfl rfl ?_
  refine gf_getA (C := RX3) (T := TX3) (N := 2) (ci := 3) (k := 20) (j := 0) (t := 21) (q := 18) dX0_fillFrom_15 rfl rfl kin3 (by decide) kw30 rfl rfl ?_
  refine gf_iconst (q := 19) dX0_fillFrom_18 ki_1 rfl ?_
  refine gf_iald (q := 20) dX0_fillFrom_19 rfl ?_
  refine gf_putI (C := RX0) (T := TX0) (N := 12) (ci := 0) (k := 22) (j := 7) (q := 23) dX0_fillFrom_20 rfl rfl kin0 tyX0 tyX0_ok nmX0 (by decide) kw62 rfl rfl rfl rfl ?_
  refine gf_aload_n (i := 0) (q := 24) dX0_fillFrom_23 rfl rfl rfl ?_
  refine gf_aload_n (i := 1) (q := 25) dX0_fillFrom_24 rfl rfl rfl ?_
  refine gf_getA (C := RX3) (T := TX3) (N := 2) (ci := 3) (k := 20) (j := 0) (t := 21) (q := 28) dX0_fillFrom_25 rfl rfl kin3 (by decide) kw30 rfl rfl ?_
  refine gf_iconst (q := 29) dX0_fillFrom_28 ki_2 rfl ?_
  refine gf_iald (q := 30) dX0_fillFrom_29 rfl ?_
  refine gf_putI (C := RX0) (T := TX0) (N := 12) (ci := 0) (k := 22) (j := 8) (q := 33) dX0_fillFrom_30 rfl rfl kin0 tyX0 tyX0_ok nmX0 (by decide) kw64 rfl rfl rfl rfl ?_
  refine gf_iconst (q := 34) dX0_fillFrom_33 ki_0 rfl ?_
  refine gf_istore_n (i := 2) (lv2 := [some (.ref 22), some (.ref 20), some (.int 0), none]) (q := 35) dX0_fillFrom_34 rfl (by decide) rfl rfl ?_
  exact (T_X0_fillFrom_35 FU 0 (wi (wi (wi x2.2 22 6 x2.1) 22 7 (mi (wi x2.2 22 6 x2.1) 21 (Int32.toNatClampNeg 1))) 22 8 (mi (wi (wi x2.2 22 6 x2.1) 22 7 (mi (wi x2.2 22 6 x2.1) 21 (Int32.toNatClampNeg 1))) 21 (Int32.toNatClampNeg 2))))
theorem C_X0_fillFrom  (u : XM) : CF YY 6 yX0_fillFrom cX0_fillFrom 4 none [.ref 22, .ref 20] u emV (F_X0_fillFrom u) := cf_of (by decide +kernel) (Nat.le_of_ble_eq_true rfl) rfl (T_X0_fillFrom u)
def F_X0_perform (v1 : Int32) (v2 : Int32) (u : XM) : Option (Unit × XM) := (if (mi u 22 11) < 40 then (if ain YY 0 28 (mi u 22 11) = true then (Option.bind (F_X0_act v1 v2 (wi (wi u 28 (Int32.toNatClampNeg (mi u 22 11)) ((8 * v1) + v2)) 22 11 ((mi (wi u 28 (Int32.toNatClampNeg (mi u 22 11)) ((8 * v1) + v2)) 22 11) + 1))) (fun x1 => some ((), x1.2))) else none) else some ((), u))
set_option maxRecDepth 20000 in
set_option maxHeartbeats 4000000 in
theorem T_X0_perform (v1 : Int32) (v2 : Int32) (u : XM) : GF E0 YY 5 yX0_perform cX0_perform 3 none 0 [some (.ref 22), some (.int v1), some (.int v2)] [] u emV (F_X0_perform v1 v2 u) := by
  unfold F_X0_perform
  refine gf_aload_n (i := 0) (q := 1) dX0_perform_0 rfl rfl rfl ?_
  refine gf_getI (C := RX0) (T := TX0) (N := 12) (ci := 0) (k := 22) (j := 11) (q := 4) dX0_perform_1 rfl rfl kin0 (by decide) kw69 rfl rfl ?_
  refine gf_bipush (q := 6) dX0_perform_4 kb_40 rfl ?_
  refine gf_icmp_lt (t := 10) (q := 9) dX0_perform_6 (by decide) rfl ?_ ?_
  · refine gf_aload_n (i := 0) (q := 11) dX0_perform_10 rfl rfl rfl ?_
    refine gf_getA (C := RX0) (T := TX0) (N := 12) (ci := 0) (k := 22) (j := 5) (t := 28) (q := 14) dX0_perform_11 rfl rfl kin0 (by decide) kw57 rfl rfl ?_
    refine gf_aload_n (i := 0) (q := 15) dX0_perform_14 rfl rfl rfl ?_
    refine gf_getI (C := RX0) (T := TX0) (N := 12) (ci := 0) (k := 22) (j := 11) (q := 18) dX0_perform_15 rfl rfl kin0 (by decide) kw69 rfl rfl ?_
    refine gf_bipush (q := 20) dX0_perform_18 kb_8 rfl ?_
    refine gf_iload_n (i := 1) (q := 21) dX0_perform_20 rfl rfl rfl ?_
    refine gf_imul (q := 22) dX0_perform_21 rfl ?_
    refine gf_iload_n (i := 2) (q := 23) dX0_perform_22 rfl rfl rfl ?_
    refine gf_iadd (q := 24) dX0_perform_23 rfl ?_
    refine gf_iast (q := 25) dX0_perform_24 rfl ?_
    refine gf_aload_n (i := 0) (q := 26) dX0_perform_25 rfl rfl rfl ?_
    refine gf_dup (q := 27) dX0_perform_26 rfl rfl ?_
    refine gf_getI (C := RX0) (T := TX0) (N := 12) (ci := 0) (k := 22) (j := 11) (q := 30) dX0_perform_27 rfl rfl kin0 (by decide) kw69 rfl rfl ?_
    refine gf_iconst (q := 31) dX0_perform_30 ki_1 rfl ?_
    refine gf_iadd (q := 32) dX0_perform_31 rfl ?_
    refine gf_putI (C := RX0) (T := TX0) (N := 12) (ci := 0) (k := 22) (j := 11) (q := 35) dX0_perform_32 rfl rfl kin0 tyX0 tyX0_ok nmX0 (by decide) kw69 rfl rfl rfl rfl ?_
    refine gf_aload_n (i := 0) (q := 36) dX0_perform_35 rfl rfl rfl ?_
    refine gf_iload_n (i := 1) (q := 37) dX0_perform_36 rfl rfl rfl ?_
    refine gf_iload_n (i := 2) (q := 38) dX0_perform_37 rfl rfl rfl ?_
    refine gf_callV_v (n2 := 2) (As := [.int v1, .int v2]) (st := []) (b := 22) (ci := 0) (C := RX0) (q := 41) (hlen := rfl) rfl rfl kw264 kw266 kp2 dX0_perform_38 kw267 kw3 (by decide +kernel) (by decide) (Nat.le_of_ble_eq_true rfl) (C_X0_act v1 v2 (wi (wi u 28 (Int32.toNatClampNeg (mi u 22 11)) ((8 * v1) + v2)) 22 11 ((mi (wi u 28 (Int32.toNatClampNeg (mi u 22 11)) ((8 * v1) + v2)) 22 11) + 1))) rfl rfl (fun x1 => ?_)
    exact gf_retv dX0_perform_41 rfl
  · exact gf_retv dX0_perform_9 rfl
theorem C_X0_perform (v1 : Int32) (v2 : Int32) (u : XM) : CF YY 5 yX0_perform cX0_perform 3 none [.ref 22, .int v1, .int v2] u emV (F_X0_perform v1 v2 u) := cf_of (by decide +kernel) (Nat.le_of_ble_eq_true rfl) rfl (T_X0_perform v1 v2 u)
def F_X4_isCell (v0 : Int32) (u : XM) : Option (Int32 × XM) := (if v0 < 0 then some (0, u) else (if 8 ≤ v0 then some (0, u) else some (1, u)))
set_option maxRecDepth 20000 in
set_option maxHeartbeats 4000000 in
theorem T_X4_isCell (v0 : Int32) (u : XM) : GF E0 YY 1 yX4_isCell cX4_isCell 1 (some .boolean) 0 [some (.int v0)] [] u emI (F_X4_isCell v0 u) := by
  unfold F_X4_isCell
  refine gf_iload_n (i := 0) (q := 1) dX4_isCell_0 rfl rfl rfl ?_
  refine gf_if_lt (t := 14) (q := 4) dX4_isCell_1 (by decide) rfl ?_ ?_
  · refine gf_iconst (q := 15) dX4_isCell_14 ki_0 rfl ?_
    exact gf_retz dX4_isCell_15 rfl rfl
  · refine gf_iload_n (i := 0) (q := 5) dX4_isCell_4 rfl rfl rfl ?_
    refine gf_bipush (q := 7) dX4_isCell_5 kb_8 rfl ?_
    refine gf_icmp_ge (t := 14) (q := 10) dX4_isCell_7 (by decide) rfl ?_ ?_
    · refine gf_iconst (q := 15) dX4_isCell_14 ki_0 rfl ?_
      exact gf_retz dX4_isCell_15 rfl rfl
    · refine gf_iconst (q := 11) dX4_isCell_10 ki_1 rfl ?_
      refine gf_goto (q := 15) dX4_isCell_11 (by decide) ?_
      exact gf_retz dX4_isCell_15 rfl rfl
theorem C_X4_isCell (v0 : Int32) (u : XM) : CF YY 1 yX4_isCell cX4_isCell 1 (some .boolean) [.int v0] u emI (F_X4_isCell v0 u) := cf_of (by decide +kernel) (Nat.le_of_ble_eq_true rfl) rfl (T_X4_isCell v0 u)
def F_X0_canMove (v1 : Int32) (v2 : Int32) (u : XM) : Option (Int32 × XM) := (Option.bind (F_X0_isTaken v1 u) (fun x1 => (if x1.1 = 0 then (if ain YY 0 25 v1 = true then (Option.bind (F_X4_isCell ((mi x1.2 25 (Int32.toNatClampNeg v1)) + v2) x1.2) (fun x2 => (if x2.1 = 0 then some (0, x2.2) else some (1, x2.2)))) else none) else some (0, x1.2))))
set_option maxRecDepth 20000 in
set_option maxHeartbeats 4000000 in
theorem T_X0_canMove (v1 : Int32) (v2 : Int32) (u : XM) : GF E0 YY 2 yX0_canMove cX0_canMove 3 (some .boolean) 0 [some (.ref 22), some (.int v1), some (.int v2)] [] u emI (F_X0_canMove v1 v2 u) := by
  unfold F_X0_canMove
  refine gf_aload_n (i := 0) (q := 1) dX0_canMove_0 rfl rfl rfl ?_
  refine gf_iload_n (i := 1) (q := 2) dX0_canMove_1 rfl rfl rfl ?_
  refine gf_callV_i (n2 := 1) (As := [.int v1]) (st := []) (b := 22) (ci := 0) (C := RX0) (q := 5) (hlen := rfl) rfl rfl kw276 kw277 kw278 dX0_canMove_2 kw279 kw3 (by decide +kernel) (by decide) (Nat.le_of_ble_eq_true rfl) (C_X0_isTaken v1 u) rfl rfl (fun x1 => ?_)
  refine gf_if_ne (t := 26) (q := 8) dX0_canMove_5 (by decide) rfl ?_ ?_
  · refine gf_aload_n (i := 0) (q := 9) dX0_canMove_8 rfl rfl rfl ?_
    refine gf_getA (C := RX0) (T := TX0) (N := 12) (ci := 0) (k := 22) (j := 2) (t := 25) (q := 12) dX0_canMove_9 rfl rfl kin0 (by decide) kw49 rfl rfl ?_
    refine gf_iload_n (i := 1) (q := 13) dX0_canMove_12 rfl rfl rfl ?_
    refine gf_iald (q := 14) dX0_canMove_13 rfl ?_
    refine gf_iload_n (i := 2) (q := 15) dX0_canMove_14 rfl rfl rfl ?_
    refine gf_iadd (q := 16) dX0_canMove_15 rfl ?_
    refine gf_callSN_i (n2 := 1) (As := [.int ((mi x1.2 25 (Int32.toNatClampNeg v1)) + v2)]) (st := []) (q := 19) (hlen := rfl) kn362 kw339 dX0_canMove_16 kw340 kw1 (by decide +kernel) (by decide) (Nat.le_of_ble_eq_true rfl) (C_X4_isCell ((mi x1.2 25 (Int32.toNatClampNeg v1)) + v2) x1.2) rfl rfl (fun x2 => ?_)
    refine gf_if_eq (t := 26) (q := 22) dX0_canMove_19 (by decide) rfl ?_ ?_
    · refine gf_iconst (q := 27) dX0_canMove_26 ki_0 rfl ?_
      exact gf_retz dX0_canMove_27 rfl rfl
    · refine gf_iconst (q := 23) dX0_canMove_22 ki_1 rfl ?_
      refine gf_goto (q := 27) dX0_canMove_23 (by decide) ?_
      exact gf_retz dX0_canMove_27 rfl rfl
  · refine gf_iconst (q := 27) dX0_canMove_26 ki_0 rfl ?_
    exact gf_retz dX0_canMove_27 rfl rfl
theorem C_X0_canMove (v1 : Int32) (v2 : Int32) (u : XM) : CF YY 2 yX0_canMove cX0_canMove 3 (some .boolean) [.ref 22, .int v1, .int v2] u emI (F_X0_canMove v1 v2 u) := cf_of (by decide +kernel) (Nat.le_of_ble_eq_true rfl) rfl (T_X0_canMove v1 v2 u)
def F_X0_canTake (v1 : Int32) (u : XM) : Option (Int32 × XM) := (Option.bind (F_X0_isTaken v1 u) (fun x1 => (if x1.1 = 0 then (if (mi x1.2 22 9) = 0 then some (1, x1.2) else some (0, x1.2)) else some (0, x1.2))))
set_option maxRecDepth 20000 in
set_option maxHeartbeats 4000000 in
theorem T_X0_canTake (v1 : Int32) (u : XM) : GF E0 YY 2 yX0_canTake cX0_canTake 2 (some .boolean) 0 [some (.ref 22), some (.int v1)] [] u emI (F_X0_canTake v1 u) := by
  unfold F_X0_canTake
  refine gf_aload_n (i := 0) (q := 1) dX0_canTake_0 rfl rfl rfl ?_
  refine gf_iload_n (i := 1) (q := 2) dX0_canTake_1 rfl rfl rfl ?_
  refine gf_callV_i (n2 := 1) (As := [.int v1]) (st := []) (b := 22) (ci := 0) (C := RX0) (q := 5) (hlen := rfl) rfl rfl kw276 kw277 kw278 dX0_canTake_2 kw279 kw3 (by decide +kernel) (by decide) (Nat.le_of_ble_eq_true rfl) (C_X0_isTaken v1 u) rfl rfl (fun x1 => ?_)
  refine gf_if_ne (t := 19) (q := 8) dX0_canTake_5 (by decide) rfl ?_ ?_
  · refine gf_aload_n (i := 0) (q := 9) dX0_canTake_8 rfl rfl rfl ?_
    refine gf_getI (C := RX0) (T := TX0) (N := 12) (ci := 0) (k := 22) (j := 9) (q := 12) dX0_canTake_9 rfl rfl kin0 (by decide) kw65 rfl rfl ?_
    refine gf_if_ne (t := 19) (q := 15) dX0_canTake_12 (by decide) rfl ?_ ?_
    · refine gf_iconst (q := 16) dX0_canTake_15 ki_1 rfl ?_
      refine gf_goto (q := 20) dX0_canTake_16 (by decide) ?_
      exact gf_retz dX0_canTake_20 rfl rfl
    · refine gf_iconst (q := 20) dX0_canTake_19 ki_0 rfl ?_
      exact gf_retz dX0_canTake_20 rfl rfl
  · refine gf_iconst (q := 20) dX0_canTake_19 ki_0 rfl ?_
    exact gf_retz dX0_canTake_20 rfl rfl
theorem C_X0_canTake (v1 : Int32) (u : XM) : CF YY 2 yX0_canTake cX0_canTake 2 (some .boolean) [.ref 22, .int v1] u emI (F_X0_canTake v1 u) := cf_of (by decide +kernel) (Nat.le_of_ble_eq_true rfl) rfl (T_X0_canTake v1 u)
def F_X0_performLot_97 (v3 : Int32) (s0 : Int32) (u : XM) : Option (Unit × XM) := (Option.bind (F_X0_perform s0 v3 u) (fun x1 => some ((), x1.2)))
set_option maxRecDepth 20000 in
set_option maxHeartbeats 4000000 in
theorem T_X0_performLot_97 (v3 : Int32) (s0 : Int32) (u : XM) : GF E0 YY 6 yX0_performLot cX0_performLot 4 none 97 [none, none, none, some (.int v3)] [.int s0, .ref 22] u emV (F_X0_performLot_97 v3 s0 u) := by
  unfold F_X0_performLot_97
  refine gf_iload_n (i := 3) (q := 98) dX0_performLot_97 rfl rfl rfl ?_
  refine gf_callV_v (n2 := 2) (As := [.int s0, .int v3]) (st := []) (b := 22) (ci := 0) (C := RX0) (q := 101) (hlen := rfl) rfl rfl kw556 kw347 kw348 dX0_performLot_98 kw349 kw3 (by decide +kernel) (by decide) (Nat.le_of_ble_eq_true rfl) (C_X0_perform s0 v3 u) rfl rfl (fun x1 => ?_)
  refine gf_goto (q := 110) dX0_performLot_101 (by decide) ?_
  exact gf_retv dX0_performLot_110 rfl
def F_X0_performLot_76 (v3 : Int32) (s0 : Int32) (u : XM) : Option (Unit × XM) := (Option.bind (F_X0_perform s0 v3 u) (fun x2 => some ((), x2.2)))
set_option maxRecDepth 20000 in
set_option maxHeartbeats 4000000 in
theorem T_X0_performLot_76 (v3 : Int32) (s0 : Int32) (u : XM) : GF E0 YY 6 yX0_performLot cX0_performLot 4 none 76 [none, none, none, some (.int v3)] [.int s0, .ref 22] u emV (F_X0_performLot_76 v3 s0 u) := by
  unfold F_X0_performLot_76
  refine gf_iload_n (i := 3) (q := 77) dX0_performLot_76 rfl rfl rfl ?_
  refine gf_callV_v (n2 := 2) (As := [.int s0, .int v3]) (st := []) (b := 22) (ci := 0) (C := RX0) (q := 80) (hlen := rfl) rfl rfl kw556 kw347 kw348 dX0_performLot_77 kw349 kw3 (by decide +kernel) (by decide) (Nat.le_of_ble_eq_true rfl) (C_X0_perform s0 v3 u) rfl rfl (fun x2 => ?_)
  refine gf_goto (q := 110) dX0_performLot_80 (by decide) ?_
  exact gf_retv dX0_performLot_110 rfl
def F_X0_performLot (v1 : Int64) (u : XM) : Option (Unit × XM) := (if (mi u 22 6) = 0 then some ((), u) else (if (Int32.toInt64 (mi u 22 6)) = 0 then none else (tsw (Int64.toInt32 ((v1 / 8) - (v1 / 8) / 4 * 4)) 0 [(Option.bind (F_X0_perform 1 0 u) (fun x3 => some ((), x3.2))), (Option.bind (F_X0_canMove (Int64.toInt32 (v1 - v1 / (Int32.toInt64 (mi u 22 6)) * (Int32.toInt64 (mi u 22 6)))) 1 u) (fun x4 => (if x4.1 = 0 then F_X0_performLot_76 (Int64.toInt32 (v1 - v1 / (Int32.toInt64 (mi u 22 6)) * (Int32.toInt64 (mi u 22 6)))) 2 x4.2 else F_X0_performLot_76 (Int64.toInt32 (v1 - v1 / (Int32.toInt64 (mi u 22 6)) * (Int32.toInt64 (mi u 22 6)))) 3 x4.2))), (Option.bind (F_X0_canTake (Int64.toInt32 (v1 - v1 / (Int32.toInt64 (mi u 22 6)) * (Int32.toInt64 (mi u 22 6)))) u) (fun x5 => (if x5.1 = 0 then F_X0_performLot_97 (Int64.toInt32 (v1 - v1 / (Int32.toInt64 (mi u 22 6)) * (Int32.toInt64 (mi u 22 6)))) 2 x5.2 else F_X0_performLot_97 (Int64.toInt32 (v1 - v1 / (Int32.toInt64 (mi u 22 6)) * (Int32.toInt64 (mi u 22 6)))) 5 x5.2)))] ((Option.bind (F_X0_perform 0 0 u) (fun x6 => some ((), x6.2)))))))
set_option maxRecDepth 20000 in
set_option maxHeartbeats 4000000 in
theorem T_X0_performLot (v1 : Int64) (u : XM) : GF E0 YY 6 yX0_performLot cX0_performLot 4 none 0 [some (.ref 22), some (.long v1), none, none] [] u emV (F_X0_performLot v1 u) := by
  unfold F_X0_performLot
  refine gf_aload_n (i := 0) (q := 1) dX0_performLot_0 rfl rfl rfl ?_
  refine gf_getI (C := RX0) (T := TX0) (N := 12) (ci := 0) (k := 22) (j := 6) (q := 4) dX0_performLot_1 rfl rfl kin0 (by decide) kw59 rfl rfl ?_
  refine gf_if_ne (t := 8) (q := 7) dX0_performLot_4 (by decide) rfl ?_ ?_
  · exact gf_retv dX0_performLot_7 rfl
  · refine gf_lload_n (i := 1) (q := 9) dX0_performLot_8 rfl rfl rfl ?_
    refine gf_aload_n (i := 0) (q := 10) dX0_performLot_9 rfl rfl rfl ?_
    refine gf_getI (C := RX0) (T := TX0) (N := 12) (ci := 0) (k := 22) (j := 6) (q := 13) dX0_performLot_10 rfl rfl kin0 (by decide) kw59 rfl rfl ?_
    refine gf_i2l (q := 14) dX0_performLot_13 rfl ?_
    refine gf_lrem (q := 15) dX0_performLot_14 rfl ?_
    refine gf_l2i (q := 16) dX0_performLot_15 rfl ?_
    refine gf_istore_n (i := 3) (lv2 := [some (.ref 22), some (.long v1), none, some (.int (Int64.toInt32 (v1 - v1 / (Int32.toInt64 (mi u 22 6)) * (Int32.toInt64 (mi u 22 6)))))]) (q := 17) dX0_performLot_16 rfl (by decide) rfl rfl ?_
    refine gf_lload_n (i := 1) (q := 18) dX0_performLot_17 rfl rfl rfl ?_
    refine gf_ldc2 (q := 21) dX0_performLot_18 kw554 rfl ?_
    refine gf_ldiv_c (q := 22) dX0_performLot_21 (by decide) rfl ?_
    refine gf_ldc2 (q := 25) dX0_performLot_22 kw555 rfl ?_
    refine gf_lrem_c (q := 26) dX0_performLot_25 (by decide) rfl ?_
    refine gf_l2i (q := 27) dX0_performLot_26 rfl ?_
    refine gf_tsw (ts := [52, 61, 83]) (t0 := 104) dX0_performLot_27 (by decide +kernel) (xsw_c ?_ (xsw_c ?_ (xsw_c ?_ (xsw_n)))) ?_
    · refine gf_aload_n (i := 0) (q := 53) dX0_performLot_52 rfl rfl rfl ?_
      refine gf_iconst (q := 54) dX0_performLot_53 ki_1 rfl ?_
      refine gf_iconst (q := 55) dX0_performLot_54 ki_0 rfl ?_
      refine gf_callV_v (n2 := 2) (As := [.int 1, .int 0]) (st := []) (b := 22) (ci := 0) (C := RX0) (q := 58) (hlen := rfl) rfl rfl kw556 kw347 kw348 dX0_performLot_55 kw349 kw3 (by decide +kernel) (by decide) (Nat.le_of_ble_eq_true rfl) (C_X0_perform 1 0 u) rfl rfl (fun x3 => ?_)
      refine gf_goto (q := 110) dX0_performLot_58 (by decide) ?_
      exact gf_retv dX0_performLot_110 rfl
    · refine gf_aload_n (i := 0) (q := 62) dX0_performLot_61 rfl rfl rfl ?_
      refine gf_aload_n (i := 0) (q := 63) dX0_performLot_62 rfl rfl rfl ?_
      refine gf_iload_n (i := 3) (q := 64) dX0_performLot_63 rfl rfl rfl ?_
      refine gf_iconst (q := 65) dX0_performLot_64 ki_1 rfl ?_
      refine gf_callV_i (n2 := 2) (As := [.int (Int64.toInt32 (v1 - v1 / (Int32.toInt64 (mi u 22 6)) * (Int32.toInt64 (mi u 22 6)))), .int 1]) (st := [.ref 22]) (b := 22) (ci := 0) (C := RX0) (q := 68) (hlen := rfl) rfl rfl kw557 kw359 kw360 dX0_performLot_65 kw361 kw3 (by decide +kernel) (by decide) (Nat.le_of_ble_eq_true rfl) (C_X0_canMove (Int64.toInt32 (v1 - v1 / (Int32.toInt64 (mi u 22 6)) * (Int32.toInt64 (mi u 22 6)))) 1 u) rfl rfl (fun x4 => ?_)
      refine gf_if_eq (t := 75) (q := 71) dX0_performLot_68 (by decide) rfl ?_ ?_
      · refine gf_iconst (q := 76) dX0_performLot_75 ki_2 rfl ?_
        exact gf_mask (b := [false, false, false, true]) rfl (T_X0_performLot_76 (Int64.toInt32 (v1 - v1 / (Int32.toInt64 (mi u 22 6)) * (Int32.toInt64 (mi u 22 6)))) 2 x4.2)
      · refine gf_iconst (q := 72) dX0_performLot_71 ki_3 rfl ?_
        refine gf_goto (q := 76) dX0_performLot_72 (by decide) ?_
        exact gf_mask (b := [false, false, false, true]) rfl (T_X0_performLot_76 (Int64.toInt32 (v1 - v1 / (Int32.toInt64 (mi u 22 6)) * (Int32.toInt64 (mi u 22 6)))) 3 x4.2)
    · refine gf_aload_n (i := 0) (q := 84) dX0_performLot_83 rfl rfl rfl ?_
      refine gf_aload_n (i := 0) (q := 85) dX0_performLot_84 rfl rfl rfl ?_
      refine gf_iload_n (i := 3) (q := 86) dX0_performLot_85 rfl rfl rfl ?_
      refine gf_callV_i (n2 := 1) (As := [.int (Int64.toInt32 (v1 - v1 / (Int32.toInt64 (mi u 22 6)) * (Int32.toInt64 (mi u 22 6))))]) (st := [.ref 22]) (b := 22) (ci := 0) (C := RX0) (q := 89) (hlen := rfl) rfl rfl kw558 kw368 kw369 dX0_performLot_86 kw370 kw3 (by decide +kernel) (by decide) (Nat.le_of_ble_eq_true rfl) (C_X0_canTake (Int64.toInt32 (v1 - v1 / (Int32.toInt64 (mi u 22 6)) * (Int32.toInt64 (mi u 22 6)))) u) rfl rfl (fun x5 => ?_)
      refine gf_if_eq (t := 96) (q := 92) dX0_performLot_89 (by decide) rfl ?_ ?_
      · refine gf_iconst (q := 97) dX0_performLot_96 ki_2 rfl ?_
        exact gf_mask (b := [false, false, false, true]) rfl (T_X0_performLot_97 (Int64.toInt32 (v1 - v1 / (Int32.toInt64 (mi u 22 6)) * (Int32.toInt64 (mi u 22 6)))) 2 x5.2)
      · refine gf_iconst (q := 93) dX0_performLot_92 ki_5 rfl ?_
        refine gf_goto (q := 97) dX0_performLot_93 (by decide) ?_
        exact gf_mask (b := [false, false, false, true]) rfl (T_X0_performLot_97 (Int64.toInt32 (v1 - v1 / (Int32.toInt64 (mi u 22 6)) * (Int32.toInt64 (mi u 22 6)))) 5 x5.2)
    · refine gf_aload_n (i := 0) (q := 105) dX0_performLot_104 rfl rfl rfl ?_
      refine gf_iconst (q := 106) dX0_performLot_105 ki_0 rfl ?_
      refine gf_iconst (q := 107) dX0_performLot_106 ki_0 rfl ?_
      refine gf_callV_v (n2 := 2) (As := [.int 0, .int 0]) (st := []) (b := 22) (ci := 0) (C := RX0) (q := 110) (hlen := rfl) rfl rfl kw556 kw347 kw348 dX0_performLot_107 kw349 kw3 (by decide +kernel) (by decide) (Nat.le_of_ble_eq_true rfl) (C_X0_perform 0 0 u) rfl rfl (fun x6 => ?_)
      exact gf_retv dX0_performLot_110 rfl
theorem C_X0_performLot (v1 : Int64) (u : XM) : CF YY 6 yX0_performLot cX0_performLot 4 none [.ref 22, .long v1] u emV (F_X0_performLot v1 u) := cf_of (by decide +kernel) (Nat.le_of_ble_eq_true rfl) rfl (T_X0_performLot v1 u)
def F_X0_drifted_6 : Nat → Int32 → Int32 → Int32 → Int32 → Int32 → XM → Option (Int32 × XM)
  | 0, _, _, _, _, _, _ => none
  | n + 1, v1, v2, v4, v5, v6, u => (if v4 ≤ v6 then some (v5, u) else (Option.bind (F_X0_step v1 v2 v5 ((mi u 22 10) + v6) u) (fun x1 => F_X0_drifted_6 n v1 v2 v4 x1.1 (v6 + 1) x1.2)))
set_option maxRecDepth 20000 in
set_option maxHeartbeats 4000000 in
theorem T_X0_drifted_6 : ∀ (n : Nat) (v1 : Int32) (v2 : Int32) (v4 : Int32) (v5 : Int32) (v6 : Int32) (u : XM), GF E0 YY 3 yX0_drifted cX0_drifted 7 (some .int) 6 [some (.ref 22), some (.int v1), some (.int v2), none, some (.int v4), some (.int v5), some (.int v6)] [] u emI (F_X0_drifted_6 n v1 v2 v4 v5 v6 u) := by
  intro n
  induction n with
  | zero => intro v1 v2 v4 v5 v6 u; exact gf_none
  | succ n ih =>
    intro v1 v2 v4 v5 v6 u
    unfold F_X0_drifted_6
    refine gf_iload (q := 8) dX0_drifted_6 rfl rfl ?_
    refine gf_iload (q := 10) dX0_drifted_8 rfl rfl ?_
    refine gf_icmp_ge (t := 36) (q := 13) dX0_drifted_10 (by decide) rfl ?_ ?_
    · refine gf_iload (q := 38) dX0_drifted_36 rfl rfl ?_
      exact gf_reti dX0_drifted_38 rfl
    · refine gf_aload_n (i := 0) (q := 14) dX0_drifted_13 rfl rfl rfl ?_
      refine gf_iload_n (i := 1) (q := 15) dX0_drifted_14 rfl rfl rfl ?_
      refine gf_iload_n (i := 2) (q := 16) dX0_drifted_15 rfl rfl rfl ?_
      refine gf_iload (q := 18) dX0_drifted_16 rfl rfl ?_
      refine gf_aload_n (i := 0) (q := 19) dX0_drifted_18 rfl rfl rfl ?_
      refine gf_getI (C := RX0) (T := TX0) (N := 12) (ci := 0) (k := 22) (j := 10) (q := 22) dX0_drifted_19 rfl rfl kin0 (by decide) kw67 rfl rfl ?_
      refine gf_iload (q := 24) dX0_drifted_22 rfl rfl ?_
      refine gf_iadd (q := 25) dX0_drifted_24 rfl ?_
      refine gf_callV_i (n2 := 4) (As := [.int v1, .int v2, .int v5, .int ((mi u 22 10) + v6)]) (st := []) (b := 22) (ci := 0) (C := RX0) (q := 28) (hlen := rfl) rfl rfl kw280 kw282 kp4 dX0_drifted_25 kw283 kw3 (by decide +kernel) (by decide) (Nat.le_of_ble_eq_true rfl) (C_X0_step v1 v2 v5 ((mi u 22 10) + v6) u) rfl rfl (fun x1 => ?_)
      refine gf_istore (lv2 := [some (.ref 22), some (.int v1), some (.int v2), none, some (.int v4), some (.int x1.1), some (.int v6)]) (q := 30) dX0_drifted_28 (by decide) rfl rfl ?_
      refine gf_iinc (v := (v6 + 1)) (lv2 := [some (.ref 22), some (.int v1), some (.int v2), none, some (.int v4), some (.int x1.1), some (.int (v6 + 1))]) (q := 33) dX0_drifted_30 rfl (congrArg _ ki_1) (by decide) rfl rfl ?_
      refine gf_goto (q := 6) dX0_drifted_33 (by decide) ?_
      exact (ih v1 v2 v4 x1.1 (v6 + 1) x1.2)
def F_X0_drifted (v1 : Int32) (v2 : Int32) (v3 : Int32) (v4 : Int32) (u : XM) : Option (Int32 × XM) := F_X0_drifted_6 FU v1 v2 v4 v3 0 u
set_option maxRecDepth 20000 in
set_option maxHeartbeats 4000000 in
theorem T_X0_drifted (v1 : Int32) (v2 : Int32) (v3 : Int32) (v4 : Int32) (u : XM) : GF E0 YY 3 yX0_drifted cX0_drifted 7 (some .int) 0 [some (.ref 22), some (.int v1), some (.int v2), some (.int v3), some (.int v4), none, none] [] u emI (F_X0_drifted v1 v2 v3 v4 u) := by
  unfold F_X0_drifted
  refine gf_iload_n (i := 3) (q := 1) dX0_drifted_0 rfl rfl rfl ?_
  refine gf_istore (lv2 := [some (.ref 22), some (.int v1), some (.int v2), some (.int v3), some (.int v4), some (.int v3), none]) (q := 3) dX0_drifted_1 (by decide) rfl rfl ?_
  refine gf_iconst (q := 4) dX0_drifted_3 ki_0 rfl ?_
  refine gf_istore (lv2 := [some (.ref 22), some (.int v1), some (.int v2), some (.int v3), some (.int v4), some (.int v3), some (.int 0)]) (q := 6) dX0_drifted_4 (by decide) rfl rfl ?_
  exact gf_mask (b := [true, true, true, false, true, true, true]) rfl (T_X0_drifted_6 FU v1 v2 v4 v3 0 u)
theorem C_X0_drifted (v1 : Int32) (v2 : Int32) (v3 : Int32) (v4 : Int32) (u : XM) : CF YY 3 yX0_drifted cX0_drifted 7 (some .int) [.ref 22, .int v1, .int v2, .int v3, .int v4] u emI (F_X0_drifted v1 v2 v3 v4 u) := cf_of (by decide +kernel) (Nat.le_of_ble_eq_true rfl) rfl (T_X0_drifted v1 v2 v3 v4 u)
def F_X0_cellAfter (v1 : Int32) (v2 : Int32) (v3 : Int32) (u : XM) : Option (Int32 × XM) := (if ain YY 0 23 v1 = true then (if ain YY 0 26 v1 = true then (Option.bind (F_X0_drifted (mi u 23 (Int32.toNatClampNeg v1)) (mi u 26 (Int32.toNatClampNeg v1)) v2 v3 u) (fun x1 => some (x1.1, x1.2))) else none) else none)
set_option maxRecDepth 20000 in
set_option maxHeartbeats 4000000 in
theorem T_X0_cellAfter (v1 : Int32) (v2 : Int32) (v3 : Int32) (u : XM) : GF E0 YY 4 yX0_cellAfter cX0_cellAfter 4 (some .int) 0 [some (.ref 22), some (.int v1), some (.int v2), some (.int v3)] [] u emI (F_X0_cellAfter v1 v2 v3 u) := by
  unfold F_X0_cellAfter
  refine gf_aload_n (i := 0) (q := 1) dX0_cellAfter_0 rfl rfl rfl ?_
  refine gf_aload_n (i := 0) (q := 2) dX0_cellAfter_1 rfl rfl rfl ?_
  refine gf_getA (C := RX0) (T := TX0) (N := 12) (ci := 0) (k := 22) (j := 0) (t := 23) (q := 5) dX0_cellAfter_2 rfl rfl kin0 (by decide) kw46 rfl rfl ?_
  refine gf_iload_n (i := 1) (q := 6) dX0_cellAfter_5 rfl rfl rfl ?_
  refine gf_iald (q := 7) dX0_cellAfter_6 rfl ?_
  refine gf_aload_n (i := 0) (q := 8) dX0_cellAfter_7 rfl rfl rfl ?_
  refine gf_getA (C := RX0) (T := TX0) (N := 12) (ci := 0) (k := 22) (j := 3) (t := 26) (q := 11) dX0_cellAfter_8 rfl rfl kin0 (by decide) kw52 rfl rfl ?_
  refine gf_iload_n (i := 1) (q := 12) dX0_cellAfter_11 rfl rfl rfl ?_
  refine gf_iald (q := 13) dX0_cellAfter_12 rfl ?_
  refine gf_iload_n (i := 2) (q := 14) dX0_cellAfter_13 rfl rfl rfl ?_
  refine gf_iload_n (i := 3) (q := 15) dX0_cellAfter_14 rfl rfl rfl ?_
  refine gf_callV_i (n2 := 4) (As := [.int (mi u 23 (Int32.toNatClampNeg v1)), .int (mi u 26 (Int32.toNatClampNeg v1)), .int v2, .int v3]) (st := []) (b := 22) (ci := 0) (C := RX0) (q := 18) (hlen := rfl) rfl rfl kw399 kw400 kw401 dX0_cellAfter_15 kw402 kw3 (by decide +kernel) (by decide) (Nat.le_of_ble_eq_true rfl) (C_X0_drifted (mi u 23 (Int32.toNatClampNeg v1)) (mi u 26 (Int32.toNatClampNeg v1)) v2 v3 u) rfl rfl (fun x1 => ?_)
  exact gf_reti dX0_cellAfter_18 rfl
theorem C_X0_cellAfter (v1 : Int32) (v2 : Int32) (v3 : Int32) (u : XM) : CF YY 4 yX0_cellAfter cX0_cellAfter 4 (some .int) [.ref 22, .int v1, .int v2, .int v3] u emI (F_X0_cellAfter v1 v2 v3 u) := cf_of (by decide +kernel) (Nat.le_of_ble_eq_true rfl) rfl (T_X0_cellAfter v1 v2 v3 u)
def F_X0_crowdedCell_70 (k10 : Int32 → Int32 → Int32 → Int32 → Int32 → XM → Option (Int32 × XM)) (v1 : Int32) (v2 : Int32) (v3 : Int32) (v4 : Int32) (v5 : Int32) (u : XM) : Option (Int32 × XM) := k10 v1 v2 v3 v4 (v5 + 1) u
set_option maxRecDepth 20000 in
set_option maxHeartbeats 4000000 in
theorem T_X0_crowdedCell_70 (k10 : Int32 → Int32 → Int32 → Int32 → Int32 → XM → Option (Int32 × XM)) (hk10 : ∀ (v1 : Int32) (v2 : Int32) (v3 : Int32) (v4 : Int32) (v5 : Int32) (u : XM), GF E0 YY 5 yX0_crowdedCell cX0_crowdedCell 7 (some .int) 10 [some (.ref 22), some (.int v1), some (.int v2), some (.int v3), some (.int v4), some (.int v5), none] [] u emI (k10 v1 v2 v3 v4 v5 u)) (v1 : Int32) (v2 : Int32) (v3 : Int32) (v4 : Int32) (v5 : Int32) (u : XM) : GF E0 YY 5 yX0_crowdedCell cX0_crowdedCell 7 (some .int) 70 [some (.ref 22), some (.int v1), some (.int v2), some (.int v3), some (.int v4), some (.int v5), none] [] u emI (F_X0_crowdedCell_70 k10 v1 v2 v3 v4 v5 u) := by
  unfold F_X0_crowdedCell_70
  refine gf_iinc (v := (v5 + 1)) (lv2 := [some (.ref 22), some (.int v1), some (.int v2), some (.int v3), some (.int v4), some (.int (v5 + 1)), none]) (q := 73) dX0_crowdedCell_70 rfl (congrArg _ ki_1) (by decide) rfl rfl ?_
  refine gf_goto (q := 10) dX0_crowdedCell_73 (by decide) ?_
  exact (hk10 v1 v2 v3 v4 (v5 + 1) u)
def F_X0_crowdedCell_10 : Nat → Int32 → Int32 → Int32 → Int32 → Int32 → XM → Option (Int32 × XM)
  | 0, _, _, _, _, _, _ => none
  | n + 1, v1, v2, v3, v4, v5, u => (if (mi u 22 6) ≤ v5 then (if v4 = 0 then some ((-9), u) else (Option.bind (F_J6_numberOfTrailingZeros_0f7a4 YY v4 u) (fun x1 => some (x1.1, x1.2)))) else (Option.bind (F_X0_isTaken v5 u) (fun x2 => (if x2.1 = 0 then (if ain YY 0 25 v5 = true then (Option.bind (F_X0_cellAfter v5 (mi x2.2 25 (Int32.toNatClampNeg v5)) v1 x2.2) (fun x3 => F_X0_crowdedCell_70 (F_X0_crowdedCell_10 n) v1 (v2 ||| (1 <<< (x3.1 &&& 31))) (v3 ||| (v2 &&& (1 <<< (x3.1 &&& 31)))) (v4 ||| (v3 &&& (1 <<< (x3.1 &&& 31)))) v5 x3.2)) else none) else F_X0_crowdedCell_70 (F_X0_crowdedCell_10 n) v1 v2 v3 v4 v5 x2.2))))
set_option maxRecDepth 20000 in
set_option maxHeartbeats 4000000 in
theorem T_X0_crowdedCell_10 : ∀ (n : Nat) (v1 : Int32) (v2 : Int32) (v3 : Int32) (v4 : Int32) (v5 : Int32) (u : XM), GF E0 YY 5 yX0_crowdedCell cX0_crowdedCell 7 (some .int) 10 [some (.ref 22), some (.int v1), some (.int v2), some (.int v3), some (.int v4), some (.int v5), none] [] u emI (F_X0_crowdedCell_10 n v1 v2 v3 v4 v5 u) := by
  intro n
  induction n with
  | zero => intro v1 v2 v3 v4 v5 u; exact gf_none
  | succ n ih =>
    intro v1 v2 v3 v4 v5 u
    unfold F_X0_crowdedCell_10
    refine gf_iload (q := 12) dX0_crowdedCell_10 rfl rfl ?_
    refine gf_aload_n (i := 0) (q := 13) dX0_crowdedCell_12 rfl rfl rfl ?_
    refine gf_getI (C := RX0) (T := TX0) (N := 12) (ci := 0) (k := 22) (j := 6) (q := 16) dX0_crowdedCell_13 rfl rfl kin0 (by decide) kw59 rfl rfl ?_
    refine gf_icmp_ge (t := 76) (q := 19) dX0_crowdedCell_16 (by decide) rfl ?_ ?_
    · refine gf_iload (q := 78) dX0_crowdedCell_76 rfl rfl ?_
      refine gf_if_ne (t := 86) (q := 81) dX0_crowdedCell_78 (by decide) rfl ?_ ?_
      · refine gf_bipush (q := 83) dX0_crowdedCell_81 kb_m9 rfl ?_
        refine gf_goto (q := 91) dX0_crowdedCell_83 (by decide) ?_
        exact gf_reti dX0_crowdedCell_91 rfl
      · refine gf_iload (q := 88) dX0_crowdedCell_86 rfl rfl ?_
        refine gf_callS_i (n2 := 1) (As := [.int v4]) (st := []) (q := 91) (hlen := rfl) kw412 kw413 dX0_crowdedCell_88 kw414 kw10 (by decide +kernel) (by decide) (Nat.le_of_ble_eq_true rfl) (C_J6_numberOfTrailingZeros_0f7a4 YY v4 u) rfl rfl (fun x1 => ?_)
        exact gf_reti dX0_crowdedCell_91 rfl
    · refine gf_aload_n (i := 0) (q := 20) dX0_crowdedCell_19 rfl rfl rfl ?_
      refine gf_iload (q := 22) dX0_crowdedCell_20 rfl rfl ?_
      refine gf_callV_i (n2 := 1) (As := [.int v5]) (st := []) (b := 22) (ci := 0) (C := RX0) (q := 25) (hlen := rfl) rfl rfl kw276 kw277 kw278 dX0_crowdedCell_22 kw279 kw3 (by decide +kernel) (by decide) (Nat.le_of_ble_eq_true rfl) (C_X0_isTaken v5 u) rfl rfl (fun x2 => ?_)
      refine gf_if_eq (t := 31) (q := 28) dX0_crowdedCell_25 (by decide) rfl ?_ ?_
      · refine gf_iconst (q := 32) dX0_crowdedCell_31 ki_1 rfl ?_
        refine gf_aload_n (i := 0) (q := 33) dX0_crowdedCell_32 rfl rfl rfl ?_
        refine gf_iload (q := 35) dX0_crowdedCell_33 rfl rfl ?_
        refine gf_aload_n (i := 0) (q := 36) dX0_crowdedCell_35 rfl rfl rfl ?_
        refine gf_getA (C := RX0) (T := TX0) (N := 12) (ci := 0) (k := 22) (j := 2) (t := 25) (q := 39) dX0_crowdedCell_36 rfl rfl kin0 (by decide) kw49 rfl rfl ?_
        refine gf_iload (q := 41) dX0_crowdedCell_39 rfl rfl ?_
        refine gf_iald (q := 42) dX0_crowdedCell_41 rfl ?_
        refine gf_iload_n (i := 1) (q := 43) dX0_crowdedCell_42 rfl rfl rfl ?_
        refine gf_callV_i (n2 := 3) (As := [.int v5, .int (mi x2.2 25 (Int32.toNatClampNeg v5)), .int v1]) (st := [.int 1]) (b := 22) (ci := 0) (C := RX0) (q := 46) (hlen := rfl) rfl rfl kw411 kw396 kw397 dX0_crowdedCell_43 kw398 kw3 (by decide +kernel) (by decide) (Nat.le_of_ble_eq_true rfl) (C_X0_cellAfter v5 (mi x2.2 25 (Int32.toNatClampNeg v5)) v1 x2.2) rfl rfl (fun x3 => ?_)
        refine gf_ishl (q := 47) dX0_crowdedCell_46 rfl ?_
        refine gf_istore (lv2 := [some (.ref 22), some (.int v1), some (.int v2), some (.int v3), some (.int v4), some (.int v5), some (.int (1 <<< (x3.1 &&& 31)))]) (q := 49) dX0_crowdedCell_47 (by decide) rfl rfl ?_
        refine gf_iload (q := 51) dX0_crowdedCell_49 rfl rfl ?_
        refine gf_iload_n (i := 3) (q := 52) dX0_crowdedCell_51 rfl rfl rfl ?_
        refine gf_iload (q := 54) dX0_crowdedCell_52 rfl rfl ?_
        refine gf_iand (q := 55) dX0_crowdedCell_54 rfl ?_
        refine gf_ior (q := 56) dX0_crowdedCell_55 rfl ?_
        refine gf_istore (lv2 := [some (.ref 22), some (.int v1), some (.int v2), some (.int v3), some (.int (v4 ||| (v3 &&& (1 <<< (x3.1 &&& 31))))), some (.int v5), some (.int (1 <<< (x3.1 &&& 31)))]) (q := 58) dX0_crowdedCell_56 (by decide) rfl rfl ?_
        refine gf_iload_n (i := 3) (q := 59) dX0_crowdedCell_58 rfl rfl rfl ?_
        refine gf_iload_n (i := 2) (q := 60) dX0_crowdedCell_59 rfl rfl rfl ?_
        refine gf_iload (q := 62) dX0_crowdedCell_60 rfl rfl ?_
        refine gf_iand (q := 63) dX0_crowdedCell_62 rfl ?_
        refine gf_ior (q := 64) dX0_crowdedCell_63 rfl ?_
        refine gf_istore_n (i := 3) (lv2 := [some (.ref 22), some (.int v1), some (.int v2), some (.int (v3 ||| (v2 &&& (1 <<< (x3.1 &&& 31))))), some (.int (v4 ||| (v3 &&& (1 <<< (x3.1 &&& 31))))), some (.int v5), some (.int (1 <<< (x3.1 &&& 31)))]) (q := 65) dX0_crowdedCell_64 rfl (by decide) rfl rfl ?_
        refine gf_iload_n (i := 2) (q := 66) dX0_crowdedCell_65 rfl rfl rfl ?_
        refine gf_iload (q := 68) dX0_crowdedCell_66 rfl rfl ?_
        refine gf_ior (q := 69) dX0_crowdedCell_68 rfl ?_
        refine gf_istore_n (i := 2) (lv2 := [some (.ref 22), some (.int v1), some (.int (v2 ||| (1 <<< (x3.1 &&& 31)))), some (.int (v3 ||| (v2 &&& (1 <<< (x3.1 &&& 31))))), some (.int (v4 ||| (v3 &&& (1 <<< (x3.1 &&& 31))))), some (.int v5), some (.int (1 <<< (x3.1 &&& 31)))]) (q := 70) dX0_crowdedCell_69 rfl (by decide) rfl rfl ?_
        exact gf_mask (b := [true, true, true, true, true, true, false]) rfl (T_X0_crowdedCell_70 (F_X0_crowdedCell_10 n) ih v1 (v2 ||| (1 <<< (x3.1 &&& 31))) (v3 ||| (v2 &&& (1 <<< (x3.1 &&& 31)))) (v4 ||| (v3 &&& (1 <<< (x3.1 &&& 31)))) v5 x3.2)
      · refine gf_goto (q := 70) dX0_crowdedCell_28 (by decide) ?_
        exact (T_X0_crowdedCell_70 (F_X0_crowdedCell_10 n) ih v1 v2 v3 v4 v5 x2.2)
def F_X0_crowdedCell (v1 : Int32) (u : XM) : Option (Int32 × XM) := F_X0_crowdedCell_10 FU v1 0 0 0 0 u
set_option maxRecDepth 20000 in
set_option maxHeartbeats 4000000 in
theorem T_X0_crowdedCell (v1 : Int32) (u : XM) : GF E0 YY 5 yX0_crowdedCell cX0_crowdedCell 7 (some .int) 0 [some (.ref 22), some (.int v1), none, none, none, none, none] [] u emI (F_X0_crowdedCell v1 u) := by
  unfold F_X0_crowdedCell
  refine gf_iconst (q := 1) dX0_crowdedCell_0 ki_0 rfl ?_
  refine gf_istore_n (i := 2) (lv2 := [some (.ref 22), some (.int v1), some (.int 0), none, none, none, none]) (q := 2) dX0_crowdedCell_1 rfl (by decide) rfl rfl ?_
  refine gf_iconst (q := 3) dX0_crowdedCell_2 ki_0 rfl ?_
  refine gf_istore_n (i := 3) (lv2 := [some (.ref 22), some (.int v1), some (.int 0), some (.int 0), none, none, none]) (q := 4) dX0_crowdedCell_3 rfl (by decide) rfl rfl ?_
  refine gf_iconst (q := 5) dX0_crowdedCell_4 ki_0 rfl ?_
  refine gf_istore (lv2 := [some (.ref 22), some (.int v1), some (.int 0), some (.int 0), some (.int 0), none, none]) (q := 7) dX0_crowdedCell_5 (by decide) rfl rfl ?_
  refine gf_iconst (q := 8) dX0_crowdedCell_7 ki_0 rfl ?_
  refine gf_istore (lv2 := [some (.ref 22), some (.int v1), some (.int 0), some (.int 0), some (.int 0), some (.int 0), none]) (q := 10) dX0_crowdedCell_8 (by decide) rfl rfl ?_
  exact (T_X0_crowdedCell_10 FU v1 0 0 0 0 u)
theorem C_X0_crowdedCell (v1 : Int32) (u : XM) : CF YY 5 yX0_crowdedCell cX0_crowdedCell 7 (some .int) [.ref 22, .int v1] u emI (F_X0_crowdedCell v1 u) := cf_of (by decide +kernel) (Nat.le_of_ble_eq_true rfl) rfl (T_X0_crowdedCell v1 u)
def F_X0_fewestMoves_61 (k7 : Int32 → Int32 → Int32 → Int32 → Int32 → XM → Option (Int32 × XM)) (v1 : Int32) (v2 : Int32) (v3 : Int32) (v4 : Int32) (v5 : Int32) (u : XM) : Option (Int32 × XM) := k7 v1 v2 v3 v4 (v5 + 1) u
set_option maxRecDepth 20000 in
set_option maxHeartbeats 4000000 in
theorem T_X0_fewestMoves_61 (k7 : Int32 → Int32 → Int32 → Int32 → Int32 → XM → Option (Int32 × XM)) (hk7 : ∀ (v1 : Int32) (v2 : Int32) (v3 : Int32) (v4 : Int32) (v5 : Int32) (u : XM), GF E0 YY 5 yX0_fewestMoves cX0_fewestMoves 7 (some .int) 7 [some (.ref 22), some (.int v1), some (.int v2), some (.int v3), some (.int v4), some (.int v5), none] [] u emI (k7 v1 v2 v3 v4 v5 u)) (v1 : Int32) (v2 : Int32) (v3 : Int32) (v4 : Int32) (v5 : Int32) (u : XM) : GF E0 YY 5 yX0_fewestMoves cX0_fewestMoves 7 (some .int) 61 [some (.ref 22), some (.int v1), some (.int v2), some (.int v3), some (.int v4), some (.int v5), none] [] u emI (F_X0_fewestMoves_61 k7 v1 v2 v3 v4 v5 u) := by
  unfold F_X0_fewestMoves_61
  refine gf_iinc (v := (v5 + 1)) (lv2 := [some (.ref 22), some (.int v1), some (.int v2), some (.int v3), some (.int v4), some (.int (v5 + 1)), none]) (q := 64) dX0_fewestMoves_61 rfl (congrArg _ ki_1) (by decide) rfl rfl ?_
  refine gf_goto (q := 7) dX0_fewestMoves_64 (by decide) ?_
  exact (hk7 v1 v2 v3 v4 (v5 + 1) u)
def F_X0_fewestMoves_57 (k7 : Int32 → Int32 → Int32 → Int32 → Int32 → XM → Option (Int32 × XM)) (v1 : Int32) (v2 : Int32) (v3 : Int32) (v5 : Int32) (v6 : Int32) (u : XM) : Option (Int32 × XM) := F_X0_fewestMoves_61 (k7) v1 v2 v3 v6 v5 u
set_option maxRecDepth 20000 in
set_option maxHeartbeats 4000000 in
theorem T_X0_fewestMoves_57 (k7 : Int32 → Int32 → Int32 → Int32 → Int32 → XM → Option (Int32 × XM)) (hk7 : ∀ (v1 : Int32) (v2 : Int32) (v3 : Int32) (v4 : Int32) (v5 : Int32) (u : XM), GF E0 YY 5 yX0_fewestMoves cX0_fewestMoves 7 (some .int) 7 [some (.ref 22), some (.int v1), some (.int v2), some (.int v3), some (.int v4), some (.int v5), none] [] u emI (k7 v1 v2 v3 v4 v5 u)) (v1 : Int32) (v2 : Int32) (v3 : Int32) (v5 : Int32) (v6 : Int32) (u : XM) : GF E0 YY 5 yX0_fewestMoves cX0_fewestMoves 7 (some .int) 57 [some (.ref 22), some (.int v1), some (.int v2), some (.int v3), none, some (.int v5), some (.int v6)] [] u emI (F_X0_fewestMoves_57 k7 v1 v2 v3 v5 v6 u) := by
  unfold F_X0_fewestMoves_57
  refine gf_iload (q := 59) dX0_fewestMoves_57 rfl rfl ?_
  refine gf_istore (lv2 := [some (.ref 22), some (.int v1), some (.int v2), some (.int v3), some (.int v6), some (.int v5), some (.int v6)]) (q := 61) dX0_fewestMoves_59 (by decide) rfl rfl ?_
  exact gf_mask (b := [true, true, true, true, true, true, false]) rfl (T_X0_fewestMoves_61 (k7) hk7 v1 v2 v3 v6 v5 u)
def F_X0_fewestMoves_7 : Nat → Int32 → Int32 → Int32 → Int32 → Int32 → XM → Option (Int32 × XM)
  | 0, _, _, _, _, _, _ => none
  | n + 1, v1, v2, v3, v4, v5, u => (if 8 ≤ v5 then some (v4, u) else (Option.bind (F_X0_cellAfter v1 v5 v3 u) (fun x1 => (if x1.1 = v2 then (if ain YY 0 25 v1 = true then (Option.bind (F_J9_abs_0f7a4 YY (v5 - (mi x1.2 25 (Int32.toNatClampNeg v1))) x1.2) (fun x2 => (if v4 = (-9) then F_X0_fewestMoves_57 (F_X0_fewestMoves_7 n) v1 v2 v3 v5 x2.1 x2.2 else (if v4 ≤ x2.1 then F_X0_fewestMoves_61 (F_X0_fewestMoves_7 n) v1 v2 v3 v4 v5 x2.2 else F_X0_fewestMoves_57 (F_X0_fewestMoves_7 n) v1 v2 v3 v5 x2.1 x2.2)))) else none) else F_X0_fewestMoves_61 (F_X0_fewestMoves_7 n) v1 v2 v3 v4 v5 x1.2))))
set_option maxRecDepth 20000 in
set_option maxHeartbeats 4000000 in
theorem T_X0_fewestMoves_7 : ∀ (n : Nat) (v1 : Int32) (v2 : Int32) (v3 : Int32) (v4 : Int32) (v5 : Int32) (u : XM), GF E0 YY 5 yX0_fewestMoves cX0_fewestMoves 7 (some .int) 7 [some (.ref 22), some (.int v1), some (.int v2), some (.int v3), some (.int v4), some (.int v5), none] [] u emI (F_X0_fewestMoves_7 n v1 v2 v3 v4 v5 u) := by
  intro n
  induction n with
  | zero => intro v1 v2 v3 v4 v5 u; exact gf_none
  | succ n ih =>
    intro v1 v2 v3 v4 v5 u
    unfold F_X0_fewestMoves_7
    refine gf_iload (q := 9) dX0_fewestMoves_7 rfl rfl ?_
    refine gf_bipush (q := 11) dX0_fewestMoves_9 kb_8 rfl ?_
    refine gf_icmp_ge (t := 67) (q := 14) dX0_fewestMoves_11 (by decide) rfl ?_ ?_
    · refine gf_iload (q := 69) dX0_fewestMoves_67 rfl rfl ?_
      exact gf_reti dX0_fewestMoves_69 rfl
    · refine gf_aload_n (i := 0) (q := 15) dX0_fewestMoves_14 rfl rfl rfl ?_
      refine gf_iload_n (i := 1) (q := 16) dX0_fewestMoves_15 rfl rfl rfl ?_
      refine gf_iload (q := 18) dX0_fewestMoves_16 rfl rfl ?_
      refine gf_iload_n (i := 3) (q := 19) dX0_fewestMoves_18 rfl rfl rfl ?_
      refine gf_callV_i (n2 := 3) (As := [.int v1, .int v5, .int v3]) (st := []) (b := 22) (ci := 0) (C := RX0) (q := 22) (hlen := rfl) rfl rfl kw411 kw396 kw397 dX0_fewestMoves_19 kw398 kw3 (by decide +kernel) (by decide) (Nat.le_of_ble_eq_true rfl) (C_X0_cellAfter v1 v5 v3 u) rfl rfl (fun x1 => ?_)
      refine gf_iload_n (i := 2) (q := 23) dX0_fewestMoves_22 rfl rfl rfl ?_
      refine gf_icmp_eq (t := 29) (q := 26) dX0_fewestMoves_23 (by decide) rfl ?_ ?_
      · refine gf_iload (q := 31) dX0_fewestMoves_29 rfl rfl ?_
        refine gf_aload_n (i := 0) (q := 32) dX0_fewestMoves_31 rfl rfl rfl ?_
        refine gf_getA (C := RX0) (T := TX0) (N := 12) (ci := 0) (k := 22) (j := 2) (t := 25) (q := 35) dX0_fewestMoves_32 rfl rfl kin0 (by decide) kw49 rfl rfl ?_
        refine gf_iload_n (i := 1) (q := 36) dX0_fewestMoves_35 rfl rfl rfl ?_
        refine gf_iald (q := 37) dX0_fewestMoves_36 rfl ?_
        refine gf_isub (q := 38) dX0_fewestMoves_37 rfl ?_
        refine gf_callS_i (n2 := 1) (As := [.int (v5 - (mi x1.2 25 (Int32.toNatClampNeg v1)))]) (st := []) (q := 41) (hlen := rfl) kw424 kw372 dX0_fewestMoves_38 kw373 kw9 (by decide +kernel) (by decide) (Nat.le_of_ble_eq_true rfl) (C_J9_abs_0f7a4 YY (v5 - (mi x1.2 25 (Int32.toNatClampNeg v1))) x1.2) rfl rfl (fun x2 => ?_)
        refine gf_istore (lv2 := [some (.ref 22), some (.int v1), some (.int v2), some (.int v3), some (.int v4), some (.int v5), some (.int x2.1)]) (q := 43) dX0_fewestMoves_41 (by decide) rfl rfl ?_
        refine gf_iload (q := 45) dX0_fewestMoves_43 rfl rfl ?_
        refine gf_bipush (q := 47) dX0_fewestMoves_45 kb_m9 rfl ?_
        refine gf_icmp_eq (t := 57) (q := 50) dX0_fewestMoves_47 (by decide) rfl ?_ ?_
        · exact gf_mask (b := [true, true, true, true, false, true, true]) rfl (T_X0_fewestMoves_57 (F_X0_fewestMoves_7 n) ih v1 v2 v3 v5 x2.1 x2.2)
        · refine gf_iload (q := 52) dX0_fewestMoves_50 rfl rfl ?_
          refine gf_iload (q := 54) dX0_fewestMoves_52 rfl rfl ?_
          refine gf_icmp_ge (t := 61) (q := 57) dX0_fewestMoves_54 (by decide) rfl ?_ ?_
          · exact gf_mask (b := [true, true, true, true, true, true, false]) rfl (T_X0_fewestMoves_61 (F_X0_fewestMoves_7 n) ih v1 v2 v3 v4 v5 x2.2)
          · exact gf_mask (b := [true, true, true, true, false, true, true]) rfl (T_X0_fewestMoves_57 (F_X0_fewestMoves_7 n) ih v1 v2 v3 v5 x2.1 x2.2)
      · refine gf_goto (q := 61) dX0_fewestMoves_26 (by decide) ?_
        exact (T_X0_fewestMoves_61 (F_X0_fewestMoves_7 n) ih v1 v2 v3 v4 v5 x1.2)
def F_X0_fewestMoves (v1 : Int32) (v2 : Int32) (v3 : Int32) (u : XM) : Option (Int32 × XM) := F_X0_fewestMoves_7 FU v1 v2 v3 (-9) 0 u
set_option maxRecDepth 20000 in
set_option maxHeartbeats 4000000 in
theorem T_X0_fewestMoves (v1 : Int32) (v2 : Int32) (v3 : Int32) (u : XM) : GF E0 YY 5 yX0_fewestMoves cX0_fewestMoves 7 (some .int) 0 [some (.ref 22), some (.int v1), some (.int v2), some (.int v3), none, none, none] [] u emI (F_X0_fewestMoves v1 v2 v3 u) := by
  unfold F_X0_fewestMoves
  refine gf_bipush (q := 2) dX0_fewestMoves_0 kb_m9 rfl ?_
  refine gf_istore (lv2 := [some (.ref 22), some (.int v1), some (.int v2), some (.int v3), some (.int (-9)), none, none]) (q := 4) dX0_fewestMoves_2 (by decide) rfl rfl ?_
  refine gf_iconst (q := 5) dX0_fewestMoves_4 ki_0 rfl ?_
  refine gf_istore (lv2 := [some (.ref 22), some (.int v1), some (.int v2), some (.int v3), some (.int (-9)), some (.int 0), none]) (q := 7) dX0_fewestMoves_5 (by decide) rfl rfl ?_
  exact (T_X0_fewestMoves_7 FU v1 v2 v3 (-9) 0 u)
theorem C_X0_fewestMoves (v1 : Int32) (v2 : Int32) (v3 : Int32) (u : XM) : CF YY 5 yX0_fewestMoves cX0_fewestMoves 7 (some .int) [.ref 22, .int v1, .int v2, .int v3] u emI (F_X0_fewestMoves v1 v2 v3 u) := cf_of (by decide +kernel) (Nat.le_of_ble_eq_true rfl) rfl (T_X0_fewestMoves v1 v2 v3 u)
def B_X0_weighWays (kR : Int32 → Int32 → Int32 → Int32 → Int32 → Int32 → XM → Option (Int64 × XM)) (v1 : Int32) (v2 : Int32) (v3 : Int32) (v4 : Int32) (v5 : Int32) (v6 : Int32) (u : XM) : Option (Int64 × XM) := (if 0 < v3 then (if ain YY 0 23 v1 = true then (if ain YY 0 26 v1 = true then (Option.bind (F_X0_step (mi u 23 (Int32.toNatClampNeg v1)) (mi u 26 (Int32.toNatClampNeg v1)) v2 v6 u) (fun x1 => (Option.bind (kR v1 v2 (v3 - 1) v4 v5 (v6 + 1) x1.2) (fun x2 => (Option.bind (kR v1 x1.1 (v3 - 1) v4 v5 (v6 + 1) x2.2) (fun x3 => some ((((Int32.toInt64 v4) * x2.1) + ((Int32.toInt64 (12 - v4)) * x3.1)), x3.2))))))) else none) else none) else (if v5 = (-9) then some ((Int32.toInt64 v2), u) else (if v2 = v5 then some (1, u) else some (0, u))))
set_option maxRecDepth 20000 in
set_option maxHeartbeats 4000000 in
theorem T_X0_weighWays (kR : Int32 → Int32 → Int32 → Int32 → Int32 → Int32 → XM → Option (Int64 × XM)) (d dR : Nat) (hdR : dR < d) (hdB : 3 ≤ d) (hR : ∀ (v1 : Int32) (v2 : Int32) (v3 : Int32) (v4 : Int32) (v5 : Int32) (v6 : Int32) (u : XM), CF YY dR yX0_weighWays cX0_weighWays 8 (some .long) [.ref 22, .int v1, .int v2, .int v3, .int v4, .int v5, .int v6] u emL (kR v1 v2 v3 v4 v5 v6 u)) (v1 : Int32) (v2 : Int32) (v3 : Int32) (v4 : Int32) (v5 : Int32) (v6 : Int32) (u : XM) : GF E0 YY d yX0_weighWays cX0_weighWays 8 (some .long) 0 [some (.ref 22), some (.int v1), some (.int v2), some (.int v3), some (.int v4), some (.int v5), some (.int v6), none] [] u emL (B_X0_weighWays kR v1 v2 v3 v4 v5 v6 u) := by
  unfold B_X0_weighWays
  refine gf_iload_n (i := 3) (q := 1) dX0_weighWays_0 rfl rfl rfl ?_
  refine gf_if_gt (t := 26) (q := 4) dX0_weighWays_1 (by decide) rfl ?_ ?_
  · refine gf_aload_n (i := 0) (q := 27) dX0_weighWays_26 rfl rfl rfl ?_
    refine gf_aload_n (i := 0) (q := 28) dX0_weighWays_27 rfl rfl rfl ?_
    refine gf_getA (C := RX0) (T := TX0) (N := 12) (ci := 0) (k := 22) (j := 0) (t := 23) (q := 31) dX0_weighWays_28 rfl rfl kin0 (by decide) kw46 rfl rfl ?_
    refine gf_iload_n (i := 1) (q := 32) dX0_weighWays_31 rfl rfl rfl ?_
    refine gf_iald (q := 33) dX0_weighWays_32 rfl ?_
    refine gf_aload_n (i := 0) (q := 34) dX0_weighWays_33 rfl rfl rfl ?_
    refine gf_getA (C := RX0) (T := TX0) (N := 12) (ci := 0) (k := 22) (j := 3) (t := 26) (q := 37) dX0_weighWays_34 rfl rfl kin0 (by decide) kw52 rfl rfl ?_
    refine gf_iload_n (i := 1) (q := 38) dX0_weighWays_37 rfl rfl rfl ?_
    refine gf_iald (q := 39) dX0_weighWays_38 rfl ?_
    refine gf_iload_n (i := 2) (q := 40) dX0_weighWays_39 rfl rfl rfl ?_
    refine gf_iload (q := 42) dX0_weighWays_40 rfl rfl ?_
    refine gf_callV_i (n2 := 4) (As := [.int (mi u 23 (Int32.toNatClampNeg v1)), .int (mi u 26 (Int32.toNatClampNeg v1)), .int v2, .int v6]) (st := []) (b := 22) (ci := 0) (C := RX0) (q := 45) (hlen := rfl) rfl rfl kw280 kw282 kp4 dX0_weighWays_42 kw283 kw3 (by decide +kernel) (by omega) (Nat.le_of_ble_eq_true rfl) (C_X0_step (mi u 23 (Int32.toNatClampNeg v1)) (mi u 26 (Int32.toNatClampNeg v1)) v2 v6 u) rfl rfl (fun x1 => ?_)
    refine gf_istore (lv2 := [some (.ref 22), some (.int v1), some (.int v2), some (.int v3), some (.int v4), some (.int v5), some (.int v6), some (.int x1.1)]) (q := 47) dX0_weighWays_45 (by decide) rfl rfl ?_
    refine gf_iload (q := 49) dX0_weighWays_47 rfl rfl ?_
    refine gf_i2l (q := 50) dX0_weighWays_49 rfl ?_
    refine gf_aload_n (i := 0) (q := 51) dX0_weighWays_50 rfl rfl rfl ?_
    refine gf_iload_n (i := 1) (q := 52) dX0_weighWays_51 rfl rfl rfl ?_
    refine gf_iload_n (i := 2) (q := 53) dX0_weighWays_52 rfl rfl rfl ?_
    refine gf_iload_n (i := 3) (q := 54) dX0_weighWays_53 rfl rfl rfl ?_
    refine gf_iconst (q := 55) dX0_weighWays_54 ki_1 rfl ?_
    refine gf_isub (q := 56) dX0_weighWays_55 rfl ?_
    refine gf_iload (q := 58) dX0_weighWays_56 rfl rfl ?_
    refine gf_iload (q := 60) dX0_weighWays_58 rfl rfl ?_
    refine gf_iload (q := 62) dX0_weighWays_60 rfl rfl ?_
    refine gf_iconst (q := 63) dX0_weighWays_62 ki_1 rfl ?_
    refine gf_iadd (q := 64) dX0_weighWays_63 rfl ?_
    refine gf_callV_l (n2 := 6) (As := [.int v1, .int v2, .int (v3 - 1), .int v4, .int v5, .int (v6 + 1)]) (st := [.long (Int32.toInt64 v4)]) (b := 22) (ci := 0) (C := RX0) (q := 67) (hlen := rfl) rfl rfl kw528 kw526 kp10 dX0_weighWays_64 kw527 kw3 (by decide +kernel) (by omega) (Nat.le_of_ble_eq_true rfl) (hR v1 v2 (v3 - 1) v4 v5 (v6 + 1) x1.2) rfl rfl (fun x2 => ?_)
    refine gf_lmul (q := 68) dX0_weighWays_67 rfl ?_
    refine gf_bipush (q := 70) dX0_weighWays_68 kb_12 rfl ?_
    refine gf_iload (q := 72) dX0_weighWays_70 rfl rfl ?_
    refine gf_isub (q := 73) dX0_weighWays_72 rfl ?_
    refine gf_i2l (q := 74) dX0_weighWays_73 rfl ?_
    refine gf_aload_n (i := 0) (q := 75) dX0_weighWays_74 rfl rfl rfl ?_
    refine gf_iload_n (i := 1) (q := 76) dX0_weighWays_75 rfl rfl rfl ?_
    refine gf_iload (q := 78) dX0_weighWays_76 rfl rfl ?_
    refine gf_iload_n (i := 3) (q := 79) dX0_weighWays_78 rfl rfl rfl ?_
    refine gf_iconst (q := 80) dX0_weighWays_79 ki_1 rfl ?_
    refine gf_isub (q := 81) dX0_weighWays_80 rfl ?_
    refine gf_iload (q := 83) dX0_weighWays_81 rfl rfl ?_
    refine gf_iload (q := 85) dX0_weighWays_83 rfl rfl ?_
    refine gf_iload (q := 87) dX0_weighWays_85 rfl rfl ?_
    refine gf_iconst (q := 88) dX0_weighWays_87 ki_1 rfl ?_
    refine gf_iadd (q := 89) dX0_weighWays_88 rfl ?_
    refine gf_callV_l (n2 := 6) (As := [.int v1, .int x1.1, .int (v3 - 1), .int v4, .int v5, .int (v6 + 1)]) (st := [.long (Int32.toInt64 (12 - v4)), .long ((Int32.toInt64 v4) * x2.1)]) (b := 22) (ci := 0) (C := RX0) (q := 92) (hlen := rfl) rfl rfl kw528 kw526 kp10 dX0_weighWays_89 kw527 kw3 (by decide +kernel) (by omega) (Nat.le_of_ble_eq_true rfl) (hR v1 x1.1 (v3 - 1) v4 v5 (v6 + 1) x2.2) rfl rfl (fun x3 => ?_)
    refine gf_lmul (q := 93) dX0_weighWays_92 rfl ?_
    refine gf_ladd (q := 94) dX0_weighWays_93 rfl ?_
    exact gf_retl dX0_weighWays_94 rfl
  · refine gf_iload (q := 6) dX0_weighWays_4 rfl rfl ?_
    refine gf_bipush (q := 8) dX0_weighWays_6 kb_m9 rfl ?_
    refine gf_icmp_ne (t := 14) (q := 11) dX0_weighWays_8 (by decide) rfl ?_ ?_
    · refine gf_iload_n (i := 2) (q := 12) dX0_weighWays_11 rfl rfl rfl ?_
      refine gf_i2l (q := 13) dX0_weighWays_12 rfl ?_
      exact gf_retl dX0_weighWays_13 rfl
    · refine gf_iload_n (i := 2) (q := 15) dX0_weighWays_14 rfl rfl rfl ?_
      refine gf_iload (q := 17) dX0_weighWays_15 rfl rfl ?_
      refine gf_icmp_ne (t := 24) (q := 20) dX0_weighWays_17 (by decide) rfl ?_ ?_
      · refine gf_lconst (v := 1) (q := 21) dX0_weighWays_20 rfl rfl ?_
        refine gf_goto (q := 25) dX0_weighWays_21 (by decide) ?_
        exact gf_retl dX0_weighWays_25 rfl
      · refine gf_lconst (v := 0) (q := 25) dX0_weighWays_24 rfl rfl ?_
        exact gf_retl dX0_weighWays_25 rfl
def F_X0_weighWays : Nat → Int32 → Int32 → Int32 → Int32 → Int32 → Int32 → XM → Option (Int64 × XM)
  | 0, _, _, _, _, _, _, _ => none
  | n + 1, v1, v2, v3, v4, v5, v6, u => B_X0_weighWays (F_X0_weighWays n) v1 v2 v3 v4 v5 v6 u
theorem CR_X0_weighWays : ∀ (n : Nat) (v1 : Int32) (v2 : Int32) (v3 : Int32) (v4 : Int32) (v5 : Int32) (v6 : Int32) (u : XM), CF YY (3 + n) yX0_weighWays cX0_weighWays 8 (some .long) [.ref 22, .int v1, .int v2, .int v3, .int v4, .int v5, .int v6] u emL (F_X0_weighWays n v1 v2 v3 v4 v5 v6 u) := by
  intro n
  induction n with
  | zero => intro v1 v2 v3 v4 v5 v6 u; exact fun _ _ e => by cases e
  | succ n ih => intro v1 v2 v3 v4 v5 v6 u; exact cf_of (by decide +kernel) (Nat.le_of_ble_eq_true rfl) rfl (T_X0_weighWays (F_X0_weighWays n) (3 + (n + 1)) (3 + n) (by omega) (by omega) ih v1 v2 v3 v4 v5 v6 u)
theorem C_X0_weighWays (n : Nat) (v1 : Int32) (v2 : Int32) (v3 : Int32) (v4 : Int32) (v5 : Int32) (v6 : Int32) (u : XM) : CF YY (3 + n) yX0_weighWays cX0_weighWays 8 (some .long) [.ref 22, .int v1, .int v2, .int v3, .int v4, .int v5, .int v6] u emL (F_X0_weighWays n v1 v2 v3 v4 v5 v6 u) := CR_X0_weighWays n v1 v2 v3 v4 v5 v6 u
def F_X0_fact (v1 : Int32) (v2 : Int32) (u : XM) : Option (Int32 × XM) := (tsw v2 0 [(if ain YY 0 23 v1 = true then some ((mi u 23 (Int32.toNatClampNeg v1)), u) else none), (if ain YY 0 25 v1 = true then some ((mi u 25 (Int32.toNatClampNeg v1)), u) else none), (if ain YY 0 26 v1 = true then some ((mi u 26 (Int32.toNatClampNeg v1)), u) else none), (if ain YY 0 27 v1 = true then some ((mi u 27 (Int32.toNatClampNeg v1)), u) else none)] ((if ain YY 0 23 v1 = true then (if ain YY 0 26 v1 = true then (Option.bind (F_X0_drift (mi u 23 (Int32.toNatClampNeg v1)) (mi u 26 (Int32.toNatClampNeg v1)) (mi u 22 10) u) (fun x1 => some (x1.1, x1.2))) else none) else none)))
set_option maxRecDepth 20000 in
set_option maxHeartbeats 4000000 in
theorem T_X0_fact (v1 : Int32) (v2 : Int32) (u : XM) : GF E0 YY 2 yX0_fact cX0_fact 3 (some .int) 0 [some (.ref 22), some (.int v1), some (.int v2)] [] u emI (F_X0_fact v1 v2 u) := by
  unfold F_X0_fact
  refine gf_iload_n (i := 2) (q := 1) dX0_fact_0 rfl rfl rfl ?_
  refine gf_tsw (ts := [32, 39, 46, 53]) (t0 := 60) dX0_fact_1 (by decide +kernel) (xsw_c ?_ (xsw_c ?_ (xsw_c ?_ (xsw_c ?_ (xsw_n))))) ?_
  · refine gf_aload_n (i := 0) (q := 33) dX0_fact_32 rfl rfl rfl ?_
    refine gf_getA (C := RX0) (T := TX0) (N := 12) (ci := 0) (k := 22) (j := 0) (t := 23) (q := 36) dX0_fact_33 rfl rfl kin0 (by decide) kw46 rfl rfl ?_
    refine gf_iload_n (i := 1) (q := 37) dX0_fact_36 rfl rfl rfl ?_
    refine gf_iald (q := 38) dX0_fact_37 rfl ?_
    exact gf_reti dX0_fact_38 rfl
  · refine gf_aload_n (i := 0) (q := 40) dX0_fact_39 rfl rfl rfl ?_
    refine gf_getA (C := RX0) (T := TX0) (N := 12) (ci := 0) (k := 22) (j := 2) (t := 25) (q := 43) dX0_fact_40 rfl rfl kin0 (by decide) kw49 rfl rfl ?_
    refine gf_iload_n (i := 1) (q := 44) dX0_fact_43 rfl rfl rfl ?_
    refine gf_iald (q := 45) dX0_fact_44 rfl ?_
    exact gf_reti dX0_fact_45 rfl
  · refine gf_aload_n (i := 0) (q := 47) dX0_fact_46 rfl rfl rfl ?_
    refine gf_getA (C := RX0) (T := TX0) (N := 12) (ci := 0) (k := 22) (j := 3) (t := 26) (q := 50) dX0_fact_47 rfl rfl kin0 (by decide) kw52 rfl rfl ?_
    refine gf_iload_n (i := 1) (q := 51) dX0_fact_50 rfl rfl rfl ?_
    refine gf_iald (q := 52) dX0_fact_51 rfl ?_
    exact gf_reti dX0_fact_52 rfl
  · refine gf_aload_n (i := 0) (q := 54) dX0_fact_53 rfl rfl rfl ?_
    refine gf_getA (C := RX0) (T := TX0) (N := 12) (ci := 0) (k := 22) (j := 4) (t := 27) (q := 57) dX0_fact_54 rfl rfl kin0 (by decide) kw54 rfl rfl ?_
    refine gf_iload_n (i := 1) (q := 58) dX0_fact_57 rfl rfl rfl ?_
    refine gf_iald (q := 59) dX0_fact_58 rfl ?_
    exact gf_reti dX0_fact_59 rfl
  · refine gf_aload_n (i := 0) (q := 61) dX0_fact_60 rfl rfl rfl ?_
    refine gf_aload_n (i := 0) (q := 62) dX0_fact_61 rfl rfl rfl ?_
    refine gf_getA (C := RX0) (T := TX0) (N := 12) (ci := 0) (k := 22) (j := 0) (t := 23) (q := 65) dX0_fact_62 rfl rfl kin0 (by decide) kw46 rfl rfl ?_
    refine gf_iload_n (i := 1) (q := 66) dX0_fact_65 rfl rfl rfl ?_
    refine gf_iald (q := 67) dX0_fact_66 rfl ?_
    refine gf_aload_n (i := 0) (q := 68) dX0_fact_67 rfl rfl rfl ?_
    refine gf_getA (C := RX0) (T := TX0) (N := 12) (ci := 0) (k := 22) (j := 3) (t := 26) (q := 71) dX0_fact_68 rfl rfl kin0 (by decide) kw52 rfl rfl ?_
    refine gf_iload_n (i := 1) (q := 72) dX0_fact_71 rfl rfl rfl ?_
    refine gf_iald (q := 73) dX0_fact_72 rfl ?_
    refine gf_aload_n (i := 0) (q := 74) dX0_fact_73 rfl rfl rfl ?_
    refine gf_getI (C := RX0) (T := TX0) (N := 12) (ci := 0) (k := 22) (j := 10) (q := 77) dX0_fact_74 rfl rfl kin0 (by decide) kw67 rfl rfl ?_
    refine gf_callV_i (n2 := 3) (As := [.int (mi u 23 (Int32.toNatClampNeg v1)), .int (mi u 26 (Int32.toNatClampNeg v1)), .int (mi u 22 10)]) (st := []) (b := 22) (ci := 0) (C := RX0) (q := 80) (hlen := rfl) rfl rfl kw284 kw285 kw286 dX0_fact_77 kw287 kw3 (by decide +kernel) (by decide) (Nat.le_of_ble_eq_true rfl) (C_X0_drift (mi u 23 (Int32.toNatClampNeg v1)) (mi u 26 (Int32.toNatClampNeg v1)) (mi u 22 10) u) rfl rfl (fun x1 => ?_)
    exact gf_reti dX0_fact_80 rfl
theorem C_X0_fact (v1 : Int32) (v2 : Int32) (u : XM) : CF YY 2 yX0_fact cX0_fact 3 (some .int) [.ref 22, .int v1, .int v2] u emI (F_X0_fact v1 v2 u) := cf_of (by decide +kernel) (Nat.le_of_ble_eq_true rfl) rfl (T_X0_fact v1 v2 u)
def F_X0_lyingIn_28 (k4 : Int32 → Int32 → Int32 → XM → Option (Int32 × XM)) (v1 : Int32) (v2 : Int32) (v3 : Int32) (u : XM) : Option (Int32 × XM) := k4 v1 v2 (v3 + 1) u
set_option maxRecDepth 20000 in
set_option maxHeartbeats 4000000 in
theorem T_X0_lyingIn_28 (k4 : Int32 → Int32 → Int32 → XM → Option (Int32 × XM)) (hk4 : ∀ (v1 : Int32) (v2 : Int32) (v3 : Int32) (u : XM), GF E0 YY 1 yX0_lyingIn cX0_lyingIn 4 (some .int) 4 [some (.ref 22), some (.int v1), some (.int v2), some (.int v3)] [] u emI (k4 v1 v2 v3 u)) (v1 : Int32) (v2 : Int32) (v3 : Int32) (u : XM) : GF E0 YY 1 yX0_lyingIn cX0_lyingIn 4 (some .int) 28 [some (.ref 22), some (.int v1), some (.int v2), some (.int v3)] [] u emI (F_X0_lyingIn_28 k4 v1 v2 v3 u) := by
  unfold F_X0_lyingIn_28
  refine gf_iinc (v := (v3 + 1)) (lv2 := [some (.ref 22), some (.int v1), some (.int v2), some (.int (v3 + 1))]) (q := 31) dX0_lyingIn_28 rfl (congrArg _ ki_1) (by decide) rfl rfl ?_
  refine gf_goto (q := 4) dX0_lyingIn_31 (by decide) ?_
  exact (hk4 v1 v2 (v3 + 1) u)
def F_X0_lyingIn_4 : Nat → Int32 → Int32 → Int32 → XM → Option (Int32 × XM)
  | 0, _, _, _, _ => none
  | n + 1, v1, v2, v3, u => (if (mi u 22 6) ≤ v3 then some (v2, u) else (if ain YY 0 25 v3 = true then (if (mi u 25 (Int32.toNatClampNeg v3)) = v1 then F_X0_lyingIn_28 (F_X0_lyingIn_4 n) v1 (v2 ||| (1 <<< (v3 &&& 31))) v3 u else F_X0_lyingIn_28 (F_X0_lyingIn_4 n) v1 v2 v3 u) else none))
set_option maxRecDepth 20000 in
set_option maxHeartbeats 4000000 in
theorem T_X0_lyingIn_4 : ∀ (n : Nat) (v1 : Int32) (v2 : Int32) (v3 : Int32) (u : XM), GF E0 YY 1 yX0_lyingIn cX0_lyingIn 4 (some .int) 4 [some (.ref 22), some (.int v1), some (.int v2), some (.int v3)] [] u emI (F_X0_lyingIn_4 n v1 v2 v3 u) := by
  intro n
  induction n with
  | zero => intro v1 v2 v3 u; exact gf_none
  | succ n ih =>
    intro v1 v2 v3 u
    unfold F_X0_lyingIn_4
    refine gf_iload_n (i := 3) (q := 5) dX0_lyingIn_4 rfl rfl rfl ?_
    refine gf_aload_n (i := 0) (q := 6) dX0_lyingIn_5 rfl rfl rfl ?_
    refine gf_getI (C := RX0) (T := TX0) (N := 12) (ci := 0) (k := 22) (j := 6) (q := 9) dX0_lyingIn_6 rfl rfl kin0 (by decide) kw59 rfl rfl ?_
    refine gf_icmp_ge (t := 34) (q := 12) dX0_lyingIn_9 (by decide) rfl ?_ ?_
    · refine gf_iload_n (i := 2) (q := 35) dX0_lyingIn_34 rfl rfl rfl ?_
      exact gf_reti dX0_lyingIn_35 rfl
    · refine gf_aload_n (i := 0) (q := 13) dX0_lyingIn_12 rfl rfl rfl ?_
      refine gf_getA (C := RX0) (T := TX0) (N := 12) (ci := 0) (k := 22) (j := 2) (t := 25) (q := 16) dX0_lyingIn_13 rfl rfl kin0 (by decide) kw49 rfl rfl ?_
      refine gf_iload_n (i := 3) (q := 17) dX0_lyingIn_16 rfl rfl rfl ?_
      refine gf_iald (q := 18) dX0_lyingIn_17 rfl ?_
      refine gf_iload_n (i := 1) (q := 19) dX0_lyingIn_18 rfl rfl rfl ?_
      refine gf_icmp_ne (t := 28) (q := 22) dX0_lyingIn_19 (by decide) rfl ?_ ?_
      · refine gf_iload_n (i := 2) (q := 23) dX0_lyingIn_22 rfl rfl rfl ?_
        refine gf_iconst (q := 24) dX0_lyingIn_23 ki_1 rfl ?_
        refine gf_iload_n (i := 3) (q := 25) dX0_lyingIn_24 rfl rfl rfl ?_
        refine gf_ishl (q := 26) dX0_lyingIn_25 rfl ?_
        refine gf_ior (q := 27) dX0_lyingIn_26 rfl ?_
        refine gf_istore_n (i := 2) (lv2 := [some (.ref 22), some (.int v1), some (.int (v2 ||| (1 <<< (v3 &&& 31)))), some (.int v3)]) (q := 28) dX0_lyingIn_27 rfl (by decide) rfl rfl ?_
        exact (T_X0_lyingIn_28 (F_X0_lyingIn_4 n) ih v1 (v2 ||| (1 <<< (v3 &&& 31))) v3 u)
      · exact (T_X0_lyingIn_28 (F_X0_lyingIn_4 n) ih v1 v2 v3 u)
def F_X0_lyingIn (v1 : Int32) (u : XM) : Option (Int32 × XM) := F_X0_lyingIn_4 FU v1 0 0 u
set_option maxRecDepth 20000 in
set_option maxHeartbeats 4000000 in
theorem T_X0_lyingIn (v1 : Int32) (u : XM) : GF E0 YY 1 yX0_lyingIn cX0_lyingIn 4 (some .int) 0 [some (.ref 22), some (.int v1), none, none] [] u emI (F_X0_lyingIn v1 u) := by
  unfold F_X0_lyingIn
  refine gf_iconst (q := 1) dX0_lyingIn_0 ki_0 rfl ?_
  refine gf_istore_n (i := 2) (lv2 := [some (.ref 22), some (.int v1), some (.int 0), none]) (q := 2) dX0_lyingIn_1 rfl (by decide) rfl rfl ?_
  refine gf_iconst (q := 3) dX0_lyingIn_2 ki_0 rfl ?_
  refine gf_istore_n (i := 3) (lv2 := [some (.ref 22), some (.int v1), some (.int 0), some (.int 0)]) (q := 4) dX0_lyingIn_3 rfl (by decide) rfl rfl ?_
  exact (T_X0_lyingIn_4 FU v1 0 0 u)
theorem C_X0_lyingIn (v1 : Int32) (u : XM) : CF YY 1 yX0_lyingIn cX0_lyingIn 4 (some .int) [.ref 22, .int v1] u emI (F_X0_lyingIn v1 u) := cf_of (by decide +kernel) (Nat.le_of_ble_eq_true rfl) rfl (T_X0_lyingIn v1 u)
def F_X4_isOfKind_29  (u : XM) : Option (Int32 × XM) := some (1, u)
set_option maxRecDepth 20000 in
set_option maxHeartbeats 4000000 in
theorem T_X4_isOfKind_29  (u : XM) : GF E0 YY 1 yX4_isOfKind cX4_isOfKind 2 (some .boolean) 29 [none, none] [] u emI (F_X4_isOfKind_29 u) := by
  unfold F_X4_isOfKind_29
  refine gf_iconst (q := 30) dX4_isOfKind_29 ki_1 rfl ?_
  refine gf_goto (q := 34) dX4_isOfKind_30 (by decide) ?_
  exact gf_retz dX4_isOfKind_34 rfl rfl
def F_X4_isOfKind_19 (v0 : Int32) (v1 : Int32) (u : XM) : Option (Int32 × XM) := (if v0 = 5 then (if v1 = 2 then F_X4_isOfKind_29 u else some (0, u)) else some (0, u))
set_option maxRecDepth 20000 in
set_option maxHeartbeats 4000000 in
theorem T_X4_isOfKind_19 (v0 : Int32) (v1 : Int32) (u : XM) : GF E0 YY 1 yX4_isOfKind cX4_isOfKind 2 (some .boolean) 19 [some (.int v0), some (.int v1)] [] u emI (F_X4_isOfKind_19 v0 v1 u) := by
  unfold F_X4_isOfKind_19
  refine gf_iload_n (i := 0) (q := 20) dX4_isOfKind_19 rfl rfl rfl ?_
  refine gf_iconst (q := 21) dX4_isOfKind_20 ki_5 rfl ?_
  refine gf_icmp_ne (t := 33) (q := 24) dX4_isOfKind_21 (by decide) rfl ?_ ?_
  · refine gf_iload_n (i := 1) (q := 25) dX4_isOfKind_24 rfl rfl rfl ?_
    refine gf_iconst (q := 26) dX4_isOfKind_25 ki_2 rfl ?_
    refine gf_icmp_ne (t := 33) (q := 29) dX4_isOfKind_26 (by decide) rfl ?_ ?_
    · exact gf_mask (b := [false, false]) rfl (T_X4_isOfKind_29 u)
    · refine gf_iconst (q := 34) dX4_isOfKind_33 ki_0 rfl ?_
      exact gf_retz dX4_isOfKind_34 rfl rfl
  · refine gf_iconst (q := 34) dX4_isOfKind_33 ki_0 rfl ?_
    exact gf_retz dX4_isOfKind_34 rfl rfl
def F_X4_isOfKind (v0 : Int32) (v1 : Int32) (u : XM) : Option (Int32 × XM) := (if v1 = 0 then F_X4_isOfKind_29 u else (if v0 = v1 then F_X4_isOfKind_29 u else (if v0 = 4 then (if v1 = 1 then F_X4_isOfKind_29 u else F_X4_isOfKind_19 v0 v1 u) else F_X4_isOfKind_19 v0 v1 u)))
set_option maxRecDepth 20000 in
set_option maxHeartbeats 4000000 in
theorem T_X4_isOfKind (v0 : Int32) (v1 : Int32) (u : XM) : GF E0 YY 1 yX4_isOfKind cX4_isOfKind 2 (some .boolean) 0 [some (.int v0), some (.int v1)] [] u emI (F_X4_isOfKind v0 v1 u) := by
  unfold F_X4_isOfKind
  refine gf_iload_n (i := 1) (q := 1) dX4_isOfKind_0 rfl rfl rfl ?_
  refine gf_if_eq (t := 29) (q := 4) dX4_isOfKind_1 (by decide) rfl ?_ ?_
  · exact gf_mask (b := [false, false]) rfl (T_X4_isOfKind_29 u)
  · refine gf_iload_n (i := 0) (q := 5) dX4_isOfKind_4 rfl rfl rfl ?_
    refine gf_iload_n (i := 1) (q := 6) dX4_isOfKind_5 rfl rfl rfl ?_
    refine gf_icmp_eq (t := 29) (q := 9) dX4_isOfKind_6 (by decide) rfl ?_ ?_
    · exact gf_mask (b := [false, false]) rfl (T_X4_isOfKind_29 u)
    · refine gf_iload_n (i := 0) (q := 10) dX4_isOfKind_9 rfl rfl rfl ?_
      refine gf_iconst (q := 11) dX4_isOfKind_10 ki_4 rfl ?_
      refine gf_icmp_ne (t := 19) (q := 14) dX4_isOfKind_11 (by decide) rfl ?_ ?_
      · refine gf_iload_n (i := 1) (q := 15) dX4_isOfKind_14 rfl rfl rfl ?_
        refine gf_iconst (q := 16) dX4_isOfKind_15 ki_1 rfl ?_
        refine gf_icmp_eq (t := 29) (q := 19) dX4_isOfKind_16 (by decide) rfl ?_ ?_
        · exact gf_mask (b := [false, false]) rfl (T_X4_isOfKind_29 u)
        · exact (T_X4_isOfKind_19 v0 v1 u)
      · exact (T_X4_isOfKind_19 v0 v1 u)
theorem C_X4_isOfKind (v0 : Int32) (v1 : Int32) (u : XM) : CF YY 1 yX4_isOfKind cX4_isOfKind 2 (some .boolean) [.int v0, .int v1] u emI (F_X4_isOfKind v0 v1 u) := cf_of (by decide +kernel) (Nat.le_of_ble_eq_true rfl) rfl (T_X4_isOfKind v0 v1 u)
def F_X0_countOfKind_28 (k4 : Int32 → Int32 → Int32 → XM → Option (Int32 × XM)) (v1 : Int32) (v2 : Int32) (v3 : Int32) (u : XM) : Option (Int32 × XM) := k4 v1 v2 (v3 + 1) u
set_option maxRecDepth 20000 in
set_option maxHeartbeats 4000000 in
theorem T_X0_countOfKind_28 (k4 : Int32 → Int32 → Int32 → XM → Option (Int32 × XM)) (hk4 : ∀ (v1 : Int32) (v2 : Int32) (v3 : Int32) (u : XM), GF E0 YY 2 yX0_countOfKind cX0_countOfKind 4 (some .int) 4 [some (.ref 22), some (.int v1), some (.int v2), some (.int v3)] [] u emI (k4 v1 v2 v3 u)) (v1 : Int32) (v2 : Int32) (v3 : Int32) (u : XM) : GF E0 YY 2 yX0_countOfKind cX0_countOfKind 4 (some .int) 28 [some (.ref 22), some (.int v1), some (.int v2), some (.int v3)] [] u emI (F_X0_countOfKind_28 k4 v1 v2 v3 u) := by
  unfold F_X0_countOfKind_28
  refine gf_iinc (v := (v3 + 1)) (lv2 := [some (.ref 22), some (.int v1), some (.int v2), some (.int (v3 + 1))]) (q := 31) dX0_countOfKind_28 rfl (congrArg _ ki_1) (by decide) rfl rfl ?_
  refine gf_goto (q := 4) dX0_countOfKind_31 (by decide) ?_
  exact (hk4 v1 v2 (v3 + 1) u)
def F_X0_countOfKind_4 : Nat → Int32 → Int32 → Int32 → XM → Option (Int32 × XM)
  | 0, _, _, _, _ => none
  | n + 1, v1, v2, v3, u => (if (mi u 22 6) ≤ v3 then some (v2, u) else (if ain YY 0 23 v3 = true then (Option.bind (F_X4_isOfKind (mi u 23 (Int32.toNatClampNeg v3)) v1 u) (fun x1 => (if x1.1 = 0 then F_X0_countOfKind_28 (F_X0_countOfKind_4 n) v1 v2 v3 x1.2 else F_X0_countOfKind_28 (F_X0_countOfKind_4 n) v1 (v2 + 1) v3 x1.2))) else none))
set_option maxRecDepth 20000 in
set_option maxHeartbeats 4000000 in
theorem T_X0_countOfKind_4 : ∀ (n : Nat) (v1 : Int32) (v2 : Int32) (v3 : Int32) (u : XM), GF E0 YY 2 yX0_countOfKind cX0_countOfKind 4 (some .int) 4 [some (.ref 22), some (.int v1), some (.int v2), some (.int v3)] [] u emI (F_X0_countOfKind_4 n v1 v2 v3 u) := by
  intro n
  induction n with
  | zero => intro v1 v2 v3 u; exact gf_none
  | succ n ih =>
    intro v1 v2 v3 u
    unfold F_X0_countOfKind_4
    refine gf_iload_n (i := 3) (q := 5) dX0_countOfKind_4 rfl rfl rfl ?_
    refine gf_aload_n (i := 0) (q := 6) dX0_countOfKind_5 rfl rfl rfl ?_
    refine gf_getI (C := RX0) (T := TX0) (N := 12) (ci := 0) (k := 22) (j := 6) (q := 9) dX0_countOfKind_6 rfl rfl kin0 (by decide) kw59 rfl rfl ?_
    refine gf_icmp_ge (t := 34) (q := 12) dX0_countOfKind_9 (by decide) rfl ?_ ?_
    · refine gf_iload_n (i := 2) (q := 35) dX0_countOfKind_34 rfl rfl rfl ?_
      exact gf_reti dX0_countOfKind_35 rfl
    · refine gf_aload_n (i := 0) (q := 13) dX0_countOfKind_12 rfl rfl rfl ?_
      refine gf_getA (C := RX0) (T := TX0) (N := 12) (ci := 0) (k := 22) (j := 0) (t := 23) (q := 16) dX0_countOfKind_13 rfl rfl kin0 (by decide) kw46 rfl rfl ?_
      refine gf_iload_n (i := 3) (q := 17) dX0_countOfKind_16 rfl rfl rfl ?_
      refine gf_iald (q := 18) dX0_countOfKind_17 rfl ?_
      refine gf_iload_n (i := 1) (q := 19) dX0_countOfKind_18 rfl rfl rfl ?_
      refine gf_callSN_i (n2 := 2) (As := [.int (mi u 23 (Int32.toNatClampNeg v3)), .int v1]) (st := []) (q := 22) (hlen := rfl) kn333 kw313 dX0_countOfKind_19 kw314 kw1 (by decide +kernel) (by decide) (Nat.le_of_ble_eq_true rfl) (C_X4_isOfKind (mi u 23 (Int32.toNatClampNeg v3)) v1 u) rfl rfl (fun x1 => ?_)
      refine gf_if_eq (t := 28) (q := 25) dX0_countOfKind_22 (by decide) rfl ?_ ?_
      · exact (T_X0_countOfKind_28 (F_X0_countOfKind_4 n) ih v1 v2 v3 x1.2)
      · refine gf_iinc (v := (v2 + 1)) (lv2 := [some (.ref 22), some (.int v1), some (.int (v2 + 1)), some (.int v3)]) (q := 28) dX0_countOfKind_25 rfl (congrArg _ ki_1) (by decide) rfl rfl ?_
        exact (T_X0_countOfKind_28 (F_X0_countOfKind_4 n) ih v1 (v2 + 1) v3 x1.2)
def F_X0_countOfKind (v1 : Int32) (u : XM) : Option (Int32 × XM) := F_X0_countOfKind_4 FU v1 0 0 u
set_option maxRecDepth 20000 in
set_option maxHeartbeats 4000000 in
theorem T_X0_countOfKind (v1 : Int32) (u : XM) : GF E0 YY 2 yX0_countOfKind cX0_countOfKind 4 (some .int) 0 [some (.ref 22), some (.int v1), none, none] [] u emI (F_X0_countOfKind v1 u) := by
  unfold F_X0_countOfKind
  refine gf_iconst (q := 1) dX0_countOfKind_0 ki_0 rfl ?_
  refine gf_istore_n (i := 2) (lv2 := [some (.ref 22), some (.int v1), some (.int 0), none]) (q := 2) dX0_countOfKind_1 rfl (by decide) rfl rfl ?_
  refine gf_iconst (q := 3) dX0_countOfKind_2 ki_0 rfl ?_
  refine gf_istore_n (i := 3) (lv2 := [some (.ref 22), some (.int v1), some (.int 0), some (.int 0)]) (q := 4) dX0_countOfKind_3 rfl (by decide) rfl rfl ?_
  exact (T_X0_countOfKind_4 FU v1 0 0 u)
theorem C_X0_countOfKind (v1 : Int32) (u : XM) : CF YY 2 yX0_countOfKind cX0_countOfKind 4 (some .int) [.ref 22, .int v1] u emI (F_X0_countOfKind v1 u) := cf_of (by decide +kernel) (Nat.le_of_ble_eq_true rfl) rfl (T_X0_countOfKind v1 u)
def F_X0_markAs (v1 : Int32) (v2 : Int32) (u : XM) : Option (Int32 × XM) := (tsw v2 1 [(if ain YY 0 26 v1 = true then (Option.bind (F_J9_max_7cf53 YY 0 (((mi u 26 (Int32.toNatClampNeg v1)) + 1) - (mi u 22 7)) u) (fun x1 => some (x1.1, x1.2))) else none), (Option.bind (F_X0_isTaken v1 u) (fun x2 => (if x2.1 = 0 then (if ain YY 0 25 v1 = true then (Option.bind (F_X0_lyingIn (mi x2.2 25 (Int32.toNatClampNeg v1)) x2.2) (fun x3 => (Option.bind (F_J6_bitCount_0f7a4 YY x3.1 x3.2) (fun x4 => some ((x4.1 - 1), x4.2))))) else none) else some (0, x2.2)))), some (((mi u 22 10) - (mi u 22 10) / 2 * 2), u), (Option.bind (F_X0_countOfKind 1 u) (fun x5 => some (x5.1, x5.2)))] ((Option.bind (F_X0_isTaken v1 u) (fun x6 => (if x6.1 = 0 then (if ain YY 0 25 v1 = true then some ((7 - (mi x6.2 25 (Int32.toNatClampNeg v1))), x6.2) else none) else some (0, x6.2))))))
set_option maxRecDepth 20000 in
set_option maxHeartbeats 4000000 in
theorem T_X0_markAs (v1 : Int32) (v2 : Int32) (u : XM) : GF E0 YY 3 yX0_markAs cX0_markAs 3 (some .int) 0 [some (.ref 22), some (.int v1), some (.int v2)] [] u emI (F_X0_markAs v1 v2 u) := by
  unfold F_X0_markAs
  refine gf_iload_n (i := 2) (q := 1) dX0_markAs_0 rfl rfl rfl ?_
  refine gf_tsw (ts := [32, 50, 78, 85]) (t0 := 91) dX0_markAs_1 (by decide +kernel) (xsw_c ?_ (xsw_c ?_ (xsw_c ?_ (xsw_c ?_ (xsw_n))))) ?_
  · refine gf_iconst (q := 33) dX0_markAs_32 ki_0 rfl ?_
    refine gf_aload_n (i := 0) (q := 34) dX0_markAs_33 rfl rfl rfl ?_
    refine gf_getA (C := RX0) (T := TX0) (N := 12) (ci := 0) (k := 22) (j := 3) (t := 26) (q := 37) dX0_markAs_34 rfl rfl kin0 (by decide) kw52 rfl rfl ?_
    refine gf_iload_n (i := 1) (q := 38) dX0_markAs_37 rfl rfl rfl ?_
    refine gf_iald (q := 39) dX0_markAs_38 rfl ?_
    refine gf_iconst (q := 40) dX0_markAs_39 ki_1 rfl ?_
    refine gf_iadd (q := 41) dX0_markAs_40 rfl ?_
    refine gf_aload_n (i := 0) (q := 42) dX0_markAs_41 rfl rfl rfl ?_
    refine gf_getI (C := RX0) (T := TX0) (N := 12) (ci := 0) (k := 22) (j := 7) (q := 45) dX0_markAs_42 rfl rfl kin0 (by decide) kw62 rfl rfl ?_
    refine gf_isub (q := 46) dX0_markAs_45 rfl ?_
    refine gf_callS_i (n2 := 2) (As := [.int 0, .int (((mi u 26 (Int32.toNatClampNeg v1)) + 1) - (mi u 22 7))]) (st := []) (q := 49) (hlen := rfl) kw288 kw289 dX0_markAs_46 kw290 kw9 (by decide +kernel) (by decide) (Nat.le_of_ble_eq_true rfl) (C_J9_max_7cf53 YY 0 (((mi u 26 (Int32.toNatClampNeg v1)) + 1) - (mi u 22 7)) u) rfl rfl (fun x1 => ?_)
    exact gf_reti dX0_markAs_49 rfl
  · refine gf_aload_n (i := 0) (q := 51) dX0_markAs_50 rfl rfl rfl ?_
    refine gf_iload_n (i := 1) (q := 52) dX0_markAs_51 rfl rfl rfl ?_
    refine gf_callV_i (n2 := 1) (As := [.int v1]) (st := []) (b := 22) (ci := 0) (C := RX0) (q := 55) (hlen := rfl) rfl rfl kw276 kw277 kw278 dX0_markAs_52 kw279 kw3 (by decide +kernel) (by decide) (Nat.le_of_ble_eq_true rfl) (C_X0_isTaken v1 u) rfl rfl (fun x2 => ?_)
    refine gf_if_eq (t := 62) (q := 58) dX0_markAs_55 (by decide) rfl ?_ ?_
    · refine gf_aload_n (i := 0) (q := 63) dX0_markAs_62 rfl rfl rfl ?_
      refine gf_aload_n (i := 0) (q := 64) dX0_markAs_63 rfl rfl rfl ?_
      refine gf_getA (C := RX0) (T := TX0) (N := 12) (ci := 0) (k := 22) (j := 2) (t := 25) (q := 67) dX0_markAs_64 rfl rfl kin0 (by decide) kw49 rfl rfl ?_
      refine gf_iload_n (i := 1) (q := 68) dX0_markAs_67 rfl rfl rfl ?_
      refine gf_iald (q := 69) dX0_markAs_68 rfl ?_
      refine gf_callV_i (n2 := 1) (As := [.int (mi x2.2 25 (Int32.toNatClampNeg v1))]) (st := []) (b := 22) (ci := 0) (C := RX0) (q := 72) (hlen := rfl) rfl rfl kw319 kw320 kw321 dX0_markAs_69 kw322 kw3 (by decide +kernel) (by decide) (Nat.le_of_ble_eq_true rfl) (C_X0_lyingIn (mi x2.2 25 (Int32.toNatClampNeg v1)) x2.2) rfl rfl (fun x3 => ?_)
      refine gf_callS_i (n2 := 1) (As := [.int x3.1]) (st := []) (q := 75) (hlen := rfl) kw323 kw324 dX0_markAs_72 kw325 kw10 (by decide +kernel) (by decide) (Nat.le_of_ble_eq_true rfl) (C_J6_bitCount_0f7a4 YY x3.1 x3.2) rfl rfl (fun x4 => ?_)
      refine gf_iconst (q := 76) dX0_markAs_75 ki_1 rfl ?_
      refine gf_isub (q := 77) dX0_markAs_76 rfl ?_
      exact gf_reti dX0_markAs_77 rfl
    · refine gf_iconst (q := 59) dX0_markAs_58 ki_0 rfl ?_
      refine gf_goto (q := 77) dX0_markAs_59 (by decide) ?_
      exact gf_reti dX0_markAs_77 rfl
  · refine gf_aload_n (i := 0) (q := 79) dX0_markAs_78 rfl rfl rfl ?_
    refine gf_getI (C := RX0) (T := TX0) (N := 12) (ci := 0) (k := 22) (j := 10) (q := 82) dX0_markAs_79 rfl rfl kin0 (by decide) kw67 rfl rfl ?_
    refine gf_iconst (q := 83) dX0_markAs_82 ki_2 rfl ?_
    refine gf_irem_c (q := 84) dX0_markAs_83 (by decide) rfl ?_
    exact gf_reti dX0_markAs_84 rfl
  · refine gf_aload_n (i := 0) (q := 86) dX0_markAs_85 rfl rfl rfl ?_
    refine gf_iconst (q := 87) dX0_markAs_86 ki_1 rfl ?_
    refine gf_callV_i (n2 := 1) (As := [.int 1]) (st := []) (b := 22) (ci := 0) (C := RX0) (q := 90) (hlen := rfl) rfl rfl kw329 kw330 kw331 dX0_markAs_87 kw332 kw3 (by decide +kernel) (by decide) (Nat.le_of_ble_eq_true rfl) (C_X0_countOfKind 1 u) rfl rfl (fun x5 => ?_)
    exact gf_reti dX0_markAs_90 rfl
  · refine gf_aload_n (i := 0) (q := 92) dX0_markAs_91 rfl rfl rfl ?_
    refine gf_iload_n (i := 1) (q := 93) dX0_markAs_92 rfl rfl rfl ?_
    refine gf_callV_i (n2 := 1) (As := [.int v1]) (st := []) (b := 22) (ci := 0) (C := RX0) (q := 96) (hlen := rfl) rfl rfl kw276 kw277 kw278 dX0_markAs_93 kw279 kw3 (by decide +kernel) (by decide) (Nat.le_of_ble_eq_true rfl) (C_X0_isTaken v1 u) rfl rfl (fun x6 => ?_)
    refine gf_if_eq (t := 103) (q := 99) dX0_markAs_96 (by decide) rfl ?_ ?_
    · refine gf_bipush (q := 105) dX0_markAs_103 kb_7 rfl ?_
      refine gf_aload_n (i := 0) (q := 106) dX0_markAs_105 rfl rfl rfl ?_
      refine gf_getA (C := RX0) (T := TX0) (N := 12) (ci := 0) (k := 22) (j := 2) (t := 25) (q := 109) dX0_markAs_106 rfl rfl kin0 (by decide) kw49 rfl rfl ?_
      refine gf_iload_n (i := 1) (q := 110) dX0_markAs_109 rfl rfl rfl ?_
      refine gf_iald (q := 111) dX0_markAs_110 rfl ?_
      refine gf_isub (q := 112) dX0_markAs_111 rfl ?_
      exact gf_reti dX0_markAs_112 rfl
    · refine gf_iconst (q := 100) dX0_markAs_99 ki_0 rfl ?_
      refine gf_goto (q := 112) dX0_markAs_100 (by decide) ?_
      exact gf_reti dX0_markAs_112 rfl
theorem C_X0_markAs (v1 : Int32) (v2 : Int32) (u : XM) : CF YY 3 yX0_markAs cX0_markAs 3 (some .int) [.ref 22, .int v1, .int v2] u emI (F_X0_markAs v1 v2 u) := cf_of (by decide +kernel) (Nat.le_of_ble_eq_true rfl) rfl (T_X0_markAs v1 v2 u)
def F_X0_takenBits  (u : XM) : Option (Int32 × XM) := (Option.bind (F_X0_lyingIn (-9) u) (fun x1 => some (x1.1, x1.2)))
set_option maxRecDepth 20000 in
set_option maxHeartbeats 4000000 in
theorem T_X0_takenBits  (u : XM) : GF E0 YY 2 yX0_takenBits cX0_takenBits 1 (some .int) 0 [some (.ref 22)] [] u emI (F_X0_takenBits u) := by
  unfold F_X0_takenBits
  refine gf_aload_n (i := 0) (q := 1) dX0_takenBits_0 rfl rfl rfl ?_
  refine gf_bipush (q := 3) dX0_takenBits_1 kb_m9 rfl ?_
  refine gf_callV_i (n2 := 1) (As := [.int (-9)]) (st := []) (b := 22) (ci := 0) (C := RX0) (q := 6) (hlen := rfl) rfl rfl kw319 kw320 kw321 dX0_takenBits_3 kw322 kw3 (by decide +kernel) (by decide) (Nat.le_of_ble_eq_true rfl) (C_X0_lyingIn (-9) u) rfl rfl (fun x1 => ?_)
  exact gf_reti dX0_takenBits_6 rfl
theorem C_X0_takenBits  (u : XM) : CF YY 2 yX0_takenBits cX0_takenBits 1 (some .int) [.ref 22] u emI (F_X0_takenBits u) := cf_of (by decide +kernel) (Nat.le_of_ble_eq_true rfl) rfl (T_X0_takenBits u)
def F_X1_seat_135 (kR : Int32 → Int32 → Int32 → XM → Option (Unit × XM)) (k63 : Int32 → Int32 → Int32 → Int32 → XM → Option (Unit × XM)) (v2 : Int32) (v3 : Int32) (v4 : Int32) (v5 : Int32) (u : XM) : Option (Unit × XM) := k63 v2 v3 v4 (v5 + 1) u
set_option maxRecDepth 20000 in
set_option maxHeartbeats 4000000 in
theorem T_X1_seat_135 (kR : Int32 → Int32 → Int32 → XM → Option (Unit × XM)) (d dR : Nat) (hdR : dR < d) (hdB : 2 ≤ d) (hR : ∀ (v2 : Int32) (v3 : Int32) (v4 : Int32) (u : XM), CF YY dR yX1_seat cX1_seat 6 none [.ref 29, .ref 22, .int v2, .int v3, .int v4] u emV (kR v2 v3 v4 u)) (k63 : Int32 → Int32 → Int32 → Int32 → XM → Option (Unit × XM)) (hk63 : ∀ (v2 : Int32) (v3 : Int32) (v4 : Int32) (v5 : Int32) (u : XM), GF E0 YY d yX1_seat cX1_seat 6 none 63 [some (.ref 29), some (.ref 22), some (.int v2), some (.int v3), some (.int v4), some (.int v5)] [] u emV (k63 v2 v3 v4 v5 u)) (v2 : Int32) (v3 : Int32) (v4 : Int32) (v5 : Int32) (u : XM) : GF E0 YY d yX1_seat cX1_seat 6 none 135 [some (.ref 29), some (.ref 22), some (.int v2), some (.int v3), some (.int v4), some (.int v5)] [] u emV (F_X1_seat_135 kR k63 v2 v3 v4 v5 u) := by
  unfold F_X1_seat_135
  refine gf_iinc (v := (v5 + 1)) (lv2 := [some (.ref 29), some (.ref 22), some (.int v2), some (.int v3), some (.int v4), some (.int (v5 + 1))]) (q := 138) dX1_seat_135 rfl (congrArg _ ki_1) (by decide) rfl rfl ?_
  refine gf_goto (q := 63) dX1_seat_138 (by decide) ?_
  exact (hk63 v2 v3 v4 (v5 + 1) u)
def F_X1_seat_63 (kR : Int32 → Int32 → Int32 → XM → Option (Unit × XM)) : Nat → Int32 → Int32 → Int32 → Int32 → XM → Option (Unit × XM)
  | 0, _, _, _, _, _ => none
  | n + 1, v2, v3, v4, v5, u => (if (mi u 22 6) ≤ v5 then some ((), u) else (Option.bind (F_X0_isTaken v5 u) (fun x1 => (if x1.1 = 0 then (if ((v3 >>> (v5 &&& 31)) &&& 1) = 0 then (if ain YY 0 30 v2 = true then (if ain YY 0 27 v5 = true then (if ain YY 0 25 v2 = true then (Option.bind (F_J9_abs_0f7a4 YY ((mi (wi x1.2 30 (Int32.toNatClampNeg v2) v5) 27 (Int32.toNatClampNeg v5)) - (mi (wi x1.2 30 (Int32.toNatClampNeg v2) v5) 25 (Int32.toNatClampNeg v2))) (wi x1.2 30 (Int32.toNatClampNeg v2) v5)) (fun x2 => (Option.bind (kR (v2 + 1) (v3 ||| (1 <<< (v5 &&& 31))) (v4 + x2.1) x2.2) (fun x3 => F_X1_seat_135 kR (F_X1_seat_63 kR n) v2 v3 v4 v5 x3.2)))) else none) else none) else none) else F_X1_seat_135 kR (F_X1_seat_63 kR n) v2 v3 v4 v5 x1.2) else F_X1_seat_135 kR (F_X1_seat_63 kR n) v2 v3 v4 v5 x1.2))))
set_option maxRecDepth 20000 in
set_option maxHeartbeats 4000000 in
theorem T_X1_seat_63 (kR : Int32 → Int32 → Int32 → XM → Option (Unit × XM)) (d dR : Nat) (hdR : dR < d) (hdB : 2 ≤ d) (hR : ∀ (v2 : Int32) (v3 : Int32) (v4 : Int32) (u : XM), CF YY dR yX1_seat cX1_seat 6 none [.ref 29, .ref 22, .int v2, .int v3, .int v4] u emV (kR v2 v3 v4 u)) : ∀ (n : Nat) (v2 : Int32) (v3 : Int32) (v4 : Int32) (v5 : Int32) (u : XM), GF E0 YY d yX1_seat cX1_seat 6 none 63 [some (.ref 29), some (.ref 22), some (.int v2), some (.int v3), some (.int v4), some (.int v5)] [] u emV (F_X1_seat_63 kR n v2 v3 v4 v5 u) := by
  intro n
  induction n with
  | zero => intro v2 v3 v4 v5 u; exact gf_none
  | succ n ih =>
    intro v2 v3 v4 v5 u
    unfold F_X1_seat_63
    refine gf_iload (q := 65) dX1_seat_63 rfl rfl ?_
    refine gf_aload_n (i := 1) (q := 66) dX1_seat_65 rfl rfl rfl ?_
    refine gf_getI (C := RX0) (T := TX0) (N := 12) (ci := 0) (k := 22) (j := 6) (q := 69) dX1_seat_66 rfl rfl kin0 (by decide) kw60 rfl rfl ?_
    refine gf_icmp_ge (t := 141) (q := 72) dX1_seat_69 (by decide) rfl ?_ ?_
    · exact gf_retv dX1_seat_141 rfl
    · refine gf_aload_n (i := 1) (q := 73) dX1_seat_72 rfl rfl rfl ?_
      refine gf_iload (q := 75) dX1_seat_73 rfl rfl ?_
      refine gf_callV_i (n2 := 1) (As := [.int v5]) (st := []) (b := 22) (ci := 0) (C := RX0) (q := 78) (hlen := rfl) rfl rfl kw448 kw277 kw278 dX1_seat_75 kw279 kw3 (by decide +kernel) (by omega) (Nat.le_of_ble_eq_true rfl) (C_X0_isTaken v5 u) rfl rfl (fun x1 => ?_)
      refine gf_if_ne (t := 135) (q := 81) dX1_seat_78 (by decide) rfl ?_ ?_
      · refine gf_iload_n (i := 3) (q := 82) dX1_seat_81 rfl rfl rfl ?_
        refine gf_iload (q := 84) dX1_seat_82 rfl rfl ?_
        refine gf_ishr (q := 85) dX1_seat_84 rfl ?_
        refine gf_iconst (q := 86) dX1_seat_85 ki_1 rfl ?_
        refine gf_iand (q := 87) dX1_seat_86 rfl ?_
        refine gf_if_eq (t := 93) (q := 90) dX1_seat_87 (by decide) rfl ?_ ?_
        · refine gf_aload_n (i := 0) (q := 94) dX1_seat_93 rfl rfl rfl ?_
          refine gf_getA (C := RX1) (T := TX1) (N := 3) (ci := 1) (k := 29) (j := 0) (t := 30) (q := 97) dX1_seat_94 rfl rfl kin1 (by decide) kw102 rfl rfl ?_
          refine gf_iload_n (i := 2) (q := 98) dX1_seat_97 rfl rfl rfl ?_
          refine gf_iload (q := 100) dX1_seat_98 rfl rfl ?_
          refine gf_iast (q := 101) dX1_seat_100 rfl ?_
          refine gf_aload_n (i := 0) (q := 102) dX1_seat_101 rfl rfl rfl ?_
          refine gf_aload_n (i := 1) (q := 103) dX1_seat_102 rfl rfl rfl ?_
          refine gf_iload_n (i := 2) (q := 104) dX1_seat_103 rfl rfl rfl ?_
          refine gf_iconst (q := 105) dX1_seat_104 ki_1 rfl ?_
          refine gf_iadd (q := 106) dX1_seat_105 rfl ?_
          refine gf_iload_n (i := 3) (q := 107) dX1_seat_106 rfl rfl rfl ?_
          refine gf_iconst (q := 108) dX1_seat_107 ki_1 rfl ?_
          refine gf_iload (q := 110) dX1_seat_108 rfl rfl ?_
          refine gf_ishl (q := 111) dX1_seat_110 rfl ?_
          refine gf_ior (q := 112) dX1_seat_111 rfl ?_
          refine gf_iload (q := 114) dX1_seat_112 rfl rfl ?_
          refine gf_aload_n (i := 1) (q := 115) dX1_seat_114 rfl rfl rfl ?_
          refine gf_getA (C := RX0) (T := TX0) (N := 12) (ci := 0) (k := 22) (j := 4) (t := 27) (q := 118) dX1_seat_115 rfl rfl kin0 (by decide) kw55 rfl rfl ?_
          refine gf_iload (q := 120) dX1_seat_118 rfl rfl ?_
          refine gf_iald (q := 121) dX1_seat_120 rfl ?_
          refine gf_aload_n (i := 1) (q := 122) dX1_seat_121 rfl rfl rfl ?_
          refine gf_getA (C := RX0) (T := TX0) (N := 12) (ci := 0) (k := 22) (j := 2) (t := 25) (q := 125) dX1_seat_122 rfl rfl kin0 (by decide) kw50 rfl rfl ?_
          refine gf_iload_n (i := 2) (q := 126) dX1_seat_125 rfl rfl rfl ?_
          refine gf_iald (q := 127) dX1_seat_126 rfl ?_
          refine gf_isub (q := 128) dX1_seat_127 rfl ?_
          refine gf_callS_i (n2 := 1) (As := [.int ((mi (wi x1.2 30 (Int32.toNatClampNeg v2) v5) 27 (Int32.toNatClampNeg v5)) - (mi (wi x1.2 30 (Int32.toNatClampNeg v2) v5) 25 (Int32.toNatClampNeg v2)))]) (st := [.int v4, .int (v3 ||| (1 <<< (v5 &&& 31))), .int (v2 + 1), .ref 22, .ref 29]) (q := 131) (hlen := rfl) kw449 kw372 dX1_seat_128 kw373 kw9 (by decide +kernel) (by omega) (Nat.le_of_ble_eq_true rfl) (C_J9_abs_0f7a4 YY ((mi (wi x1.2 30 (Int32.toNatClampNeg v2) v5) 27 (Int32.toNatClampNeg v5)) - (mi (wi x1.2 30 (Int32.toNatClampNeg v2) v5) 25 (Int32.toNatClampNeg v2))) (wi x1.2 30 (Int32.toNatClampNeg v2) v5)) rfl rfl (fun x2 => ?_)
          refine gf_iadd (q := 132) dX1_seat_131 rfl ?_
          refine gf_callV_v (n2 := 4) (As := [.ref 22, .int (v2 + 1), .int (v3 ||| (1 <<< (v5 &&& 31))), .int (v4 + x2.1)]) (st := []) (b := 29) (ci := 1) (C := RX1) (q := 135) (hlen := rfl) rfl rfl kw442 kw444 kp5 dX1_seat_132 kw445 kw4 (by decide +kernel) (by omega) (Nat.le_of_ble_eq_true rfl) (hR (v2 + 1) (v3 ||| (1 <<< (v5 &&& 31))) (v4 + x2.1) x2.2) rfl rfl (fun x3 => ?_)
          exact (T_X1_seat_135 kR d dR hdR hdB hR (F_X1_seat_63 kR n) ih v2 v3 v4 v5 x3.2)
        · refine gf_goto (q := 135) dX1_seat_90 (by decide) ?_
          exact (T_X1_seat_135 kR d dR hdR hdB hR (F_X1_seat_63 kR n) ih v2 v3 v4 v5 x1.2)
      · exact (T_X1_seat_135 kR d dR hdR hdB hR (F_X1_seat_63 kR n) ih v2 v3 v4 v5 x1.2)
def B_X1_seat (kR : Int32 → Int32 → Int32 → XM → Option (Unit × XM)) (v2 : Int32) (v3 : Int32) (v4 : Int32) (u : XM) : Option (Unit × XM) := (if v4 < (mi u 29 2) then (Option.bind (F_X0_has v2 u) (fun x4 => (if x4.1 = 0 then (Option.bind (alen YY 0 30) (fun n7 => Option.bind (alen YY 0 31) (fun n8 => if (0 : Int32) ≤ 0 ∧ (0 : Int32) ≤ 0 ∧ (0 : Int32) ≤ 6 ∧ (Int32.toNatClampNeg 0) + (Int32.toNatClampNeg 6) ≤ n7 ∧ (Int32.toNatClampNeg 0) + (Int32.toNatClampNeg 6) ≤ n8 then some ((), (wc (wi x4.2 29 2 v4) 30 (Int32.toNatClampNeg 0) 31 (Int32.toNatClampNeg 0) (Int32.toNatClampNeg 6))) else none))) else (Option.bind (F_X0_isTaken v2 x4.2) (fun x5 => (if x5.1 = 0 then F_X1_seat_63 kR FU v2 v3 v4 0 x5.2 else (Option.bind (kR (v2 + 1) v3 v4 x5.2) (fun x6 => some ((), x6.2))))))))) else some ((), u))
set_option maxRecDepth 20000 in
set_option maxHeartbeats 4000000 in
theorem T_X1_seat (kR : Int32 → Int32 → Int32 → XM → Option (Unit × XM)) (d dR : Nat) (hdR : dR < d) (hdB : 2 ≤ d) (hR : ∀ (v2 : Int32) (v3 : Int32) (v4 : Int32) (u : XM), CF YY dR yX1_seat cX1_seat 6 none [.ref 29, .ref 22, .int v2, .int v3, .int v4] u emV (kR v2 v3 v4 u)) (v2 : Int32) (v3 : Int32) (v4 : Int32) (u : XM) : GF E0 YY d yX1_seat cX1_seat 6 none 0 [some (.ref 29), some (.ref 22), some (.int v2), some (.int v3), some (.int v4), none] [] u emV (B_X1_seat kR v2 v3 v4 u) := by
  unfold B_X1_seat
  refine gf_iload (q := 2) dX1_seat_0 rfl rfl ?_
  refine gf_aload_n (i := 0) (q := 3) dX1_seat_2 rfl rfl rfl ?_
  refine gf_getI (C := RX1) (T := TX1) (N := 3) (ci := 1) (k := 29) (j := 2) (q := 6) dX1_seat_3 rfl rfl kin1 (by decide) kw105 rfl rfl ?_
  refine gf_icmp_lt (t := 10) (q := 9) dX1_seat_6 (by decide) rfl ?_ ?_
  · refine gf_aload_n (i := 1) (q := 11) dX1_seat_10 rfl rfl rfl ?_
    refine gf_iload_n (i := 2) (q := 12) dX1_seat_11 rfl rfl rfl ?_
    refine gf_callV_i (n2 := 1) (As := [.int v2]) (st := []) (b := 22) (ci := 0) (C := RX0) (q := 15) (hlen := rfl) rfl rfl kw446 kw269 kw270 dX1_seat_12 kw271 kw3 (by decide +kernel) (by omega) (Nat.le_of_ble_eq_true rfl) (C_X0_has v2 u) rfl rfl (fun x4 => ?_)
    refine gf_if_ne (t := 40) (q := 18) dX1_seat_15 (by decide) rfl ?_ ?_
    · refine gf_aload_n (i := 0) (q := 19) dX1_seat_18 rfl rfl rfl ?_
      refine gf_iload (q := 21) dX1_seat_19 rfl rfl ?_
      refine gf_putI (C := RX1) (T := TX1) (N := 3) (ci := 1) (k := 29) (j := 2) (q := 24) dX1_seat_21 rfl rfl kin1 tyX1 tyX1_ok nmX1 (by decide) kw105 rfl rfl rfl rfl ?_
      refine gf_aload_n (i := 0) (q := 25) dX1_seat_24 rfl rfl rfl ?_
      refine gf_getA (C := RX1) (T := TX1) (N := 3) (ci := 1) (k := 29) (j := 0) (t := 30) (q := 28) dX1_seat_25 rfl rfl kin1 (by decide) kw102 rfl rfl ?_
      refine gf_iconst (q := 29) dX1_seat_28 ki_0 rfl ?_
      refine gf_aload_n (i := 0) (q := 30) dX1_seat_29 rfl rfl rfl ?_
      refine gf_getA (C := RX1) (T := TX1) (N := 3) (ci := 1) (k := 29) (j := 1) (t := 31) (q := 33) dX1_seat_30 rfl rfl kin1 (by decide) kw103 rfl rfl ?_
      refine gf_iconst (q := 34) dX1_seat_33 ki_0 rfl ?_
      refine gf_bipush (q := 36) dX1_seat_34 kb_6 rfl ?_
      refine gf_copy (q := 39) dX1_seat_36 kw447 kw209 kw208 kw8 (by omega) (by decide) rfl ?_
      exact gf_retv dX1_seat_39 rfl
    · refine gf_aload_n (i := 1) (q := 41) dX1_seat_40 rfl rfl rfl ?_
      refine gf_iload_n (i := 2) (q := 42) dX1_seat_41 rfl rfl rfl ?_
      refine gf_callV_i (n2 := 1) (As := [.int v2]) (st := []) (b := 22) (ci := 0) (C := RX0) (q := 45) (hlen := rfl) rfl rfl kw448 kw277 kw278 dX1_seat_42 kw279 kw3 (by decide +kernel) (by omega) (Nat.le_of_ble_eq_true rfl) (C_X0_isTaken v2 x4.2) rfl rfl (fun x5 => ?_)
      refine gf_if_eq (t := 60) (q := 48) dX1_seat_45 (by decide) rfl ?_ ?_
      · refine gf_iconst (q := 61) dX1_seat_60 ki_0 rfl ?_
        refine gf_istore (lv2 := [some (.ref 29), some (.ref 22), some (.int v2), some (.int v3), some (.int v4), some (.int 0)]) (q := 63) dX1_seat_61 (by decide) rfl rfl ?_
        exact (T_X1_seat_63 kR d dR hdR hdB hR FU v2 v3 v4 0 x5.2)
      · refine gf_aload_n (i := 0) (q := 49) dX1_seat_48 rfl rfl rfl ?_
        refine gf_aload_n (i := 1) (q := 50) dX1_seat_49 rfl rfl rfl ?_
        refine gf_iload_n (i := 2) (q := 51) dX1_seat_50 rfl rfl rfl ?_
        refine gf_iconst (q := 52) dX1_seat_51 ki_1 rfl ?_
        refine gf_iadd (q := 53) dX1_seat_52 rfl ?_
        refine gf_iload_n (i := 3) (q := 54) dX1_seat_53 rfl rfl rfl ?_
        refine gf_iload (q := 56) dX1_seat_54 rfl rfl ?_
        refine gf_callV_v (n2 := 4) (As := [.ref 22, .int (v2 + 1), .int v3, .int v4]) (st := []) (b := 29) (ci := 1) (C := RX1) (q := 59) (hlen := rfl) rfl rfl kw442 kw444 kp5 dX1_seat_56 kw445 kw4 (by decide +kernel) (by omega) (Nat.le_of_ble_eq_true rfl) (hR (v2 + 1) v3 v4 x5.2) rfl rfl (fun x6 => ?_)
        exact gf_retv dX1_seat_59 rfl
  · exact gf_retv dX1_seat_9 rfl
def F_X1_seat : Nat → Int32 → Int32 → Int32 → XM → Option (Unit × XM)
  | 0, _, _, _, _ => none
  | n + 1, v2, v3, v4, u => B_X1_seat (F_X1_seat n) v2 v3 v4 u
theorem CR_X1_seat : ∀ (n : Nat) (v2 : Int32) (v3 : Int32) (v4 : Int32) (u : XM), CF YY (2 + n) yX1_seat cX1_seat 6 none [.ref 29, .ref 22, .int v2, .int v3, .int v4] u emV (F_X1_seat n v2 v3 v4 u) := by
  intro n
  induction n with
  | zero => intro v2 v3 v4 u; exact fun _ _ e => by cases e
  | succ n ih => intro v2 v3 v4 u; exact cf_of (by decide +kernel) (Nat.le_of_ble_eq_true rfl) rfl (T_X1_seat (F_X1_seat n) (2 + (n + 1)) (2 + n) (by omega) (by omega) ih v2 v3 v4 u)
theorem C_X1_seat (n : Nat) (v2 : Int32) (v3 : Int32) (v4 : Int32) (u : XM) : CF YY (2 + n) yX1_seat cX1_seat 6 none [.ref 29, .ref 22, .int v2, .int v3, .int v4] u emV (F_X1_seat n v2 v3 v4 u) := CR_X1_seat n v2 v3 v4 u
def F_X1_leastSum  (u : XM) : Option (Int32 × XM) := (Option.bind (F_X1_seat 10 0 0 0 (wi u 29 2 2147483647)) (fun x1 => some ((mi x1.2 29 2), x1.2)))
set_option maxRecDepth 20000 in
set_option maxHeartbeats 4000000 in
theorem T_X1_leastSum  (u : XM) : GF E0 YY 13 yX1_leastSum cX1_leastSum 2 (some .int) 0 [some (.ref 29), some (.ref 22)] [] u emI (F_X1_leastSum u) := by
  unfold F_X1_leastSum
  refine gf_aload_n (i := 0) (q := 1) dX1_leastSum_0 rfl rfl rfl ?_
  refine gf_ldc (q := 3) dX1_leastSum_1 kw441 rfl ?_
  refine gf_putI (C := RX1) (T := TX1) (N := 3) (ci := 1) (k := 29) (j := 2) (q := 6) dX1_leastSum_3 rfl rfl kin1 tyX1 tyX1_ok nmX1 (by decide) kw105 rfl rfl rfl rfl ?_
  refine gf_aload_n (i := 0) (q := 7) dX1_leastSum_6 rfl rfl rfl ?_
  refine gf_aload_n (i := 1) (q := 8) dX1_leastSum_7 rfl rfl rfl ?_
  refine gf_iconst (q := 9) dX1_leastSum_8 ki_0 rfl ?_
  refine gf_iconst (q := 10) dX1_leastSum_9 ki_0 rfl ?_
  refine gf_iconst (q := 11) dX1_leastSum_10 ki_0 rfl ?_
  refine gf_callV_v (n2 := 4) (As := [.ref 22, .int 0, .int 0, .int 0]) (st := []) (b := 29) (ci := 1) (C := RX1) (q := 14) (hlen := rfl) rfl rfl kw442 kw444 kp5 dX1_leastSum_11 kw445 kw4 (by decide +kernel) (by decide) (Nat.le_of_ble_eq_true rfl) (C_X1_seat 10 0 0 0 (wi u 29 2 2147483647)) rfl rfl (fun x1 => ?_)
  refine gf_aload_n (i := 0) (q := 15) dX1_leastSum_14 rfl rfl rfl ?_
  refine gf_getI (C := RX1) (T := TX1) (N := 3) (ci := 1) (k := 29) (j := 2) (q := 18) dX1_leastSum_15 rfl rfl kin1 (by decide) kw105 rfl rfl ?_
  exact gf_reti dX1_leastSum_18 rfl
theorem C_X1_leastSum  (u : XM) : CF YY 13 yX1_leastSum cX1_leastSum 2 (some .int) [.ref 29, .ref 22] u emI (F_X1_leastSum u) := cf_of (by decide +kernel) (Nat.le_of_ble_eq_true rfl) rfl (T_X1_leastSum u)
def F_X2_countTurnsTo_26 (k18 : Int32 → XM → Option (Unit × XM)) : Nat → Int32 → Int32 → XM → Option (Unit × XM)
  | 0, _, _, _ => none
  | n + 1, v2, v3, u => (if 9 < v3 then k18 (v2 + 1) u else (Option.bind (F_X2_drawn v3 u) (fun x1 => (if ain YY 0 33 x1.1 = true then (Option.bind (F_X2_filled v3 x1.2) (fun x2 => (if ain YY 0 33 x2.1 = true then (Option.bind (F_J9_min_7cf53 YY (mi x1.2 33 (Int32.toNatClampNeg x1.1)) (mi x2.2 33 (Int32.toNatClampNeg x2.1)) x2.2) (fun x3 => (if ain YY 0 33 v3 = true then (Option.bind (F_J9_min_7cf53 YY (mi x3.2 33 (Int32.toNatClampNeg v3)) (1 + x3.1) x3.2) (fun x4 => (if ain YY 0 33 v3 = true then F_X2_countTurnsTo_26 k18 n v2 (v3 + 1) (wi x4.2 33 (Int32.toNatClampNeg v3) x4.1) else none))) else none))) else none))) else none))))
set_option maxRecDepth 20000 in
set_option maxHeartbeats 4000000 in
theorem T_X2_countTurnsTo_26 (k18 : Int32 → XM → Option (Unit × XM)) (hk18 : ∀ (v2 : Int32) (u : XM), GF E0 YY 3 yX2_countTurnsTo cX2_countTurnsTo 5 none 18 [some (.ref 32), none, some (.int v2), none, none] [] u emV (k18 v2 u)) : ∀ (n : Nat) (v2 : Int32) (v3 : Int32) (u : XM), GF E0 YY 3 yX2_countTurnsTo cX2_countTurnsTo 5 none 26 [some (.ref 32), none, some (.int v2), some (.int v3), none] [] u emV (F_X2_countTurnsTo_26 k18 n v2 v3 u) := by
  intro n
  induction n with
  | zero => intro v2 v3 u; exact gf_none
  | succ n ih =>
    intro v2 v3 u
    unfold F_X2_countTurnsTo_26
    refine gf_iload_n (i := 3) (q := 27) dX2_countTurnsTo_26 rfl rfl rfl ?_
    refine gf_bipush (q := 29) dX2_countTurnsTo_27 kb_9 rfl ?_
    refine gf_icmp_gt (t := 80) (q := 32) dX2_countTurnsTo_29 (by decide) rfl ?_ ?_
    · refine gf_iinc (v := (v2 + 1)) (lv2 := [some (.ref 32), none, some (.int (v2 + 1)), some (.int v3), none]) (q := 83) dX2_countTurnsTo_80 rfl (congrArg _ ki_1) (by decide) rfl rfl ?_
      refine gf_goto (q := 18) dX2_countTurnsTo_83 (by decide) ?_
      exact gf_mask (b := [true, false, true, false, false]) rfl (hk18 (v2 + 1) u)
    · refine gf_iconst (q := 33) dX2_countTurnsTo_32 ki_1 rfl ?_
      refine gf_aload_n (i := 0) (q := 34) dX2_countTurnsTo_33 rfl rfl rfl ?_
      refine gf_getA (C := RX2) (T := TX2) (N := 1) (ci := 2) (k := 32) (j := 0) (t := 33) (q := 37) dX2_countTurnsTo_34 rfl rfl kin2 (by decide) kw119 rfl rfl ?_
      refine gf_iload_n (i := 3) (q := 38) dX2_countTurnsTo_37 rfl rfl rfl ?_
      refine gf_callS_i (n2 := 1) (As := [.int v3]) (st := [.ref 33, .int 1]) (q := 41) (hlen := rfl) kw459 kw292 dX2_countTurnsTo_38 kw293 kw5 (by decide +kernel) (by decide) (Nat.le_of_ble_eq_true rfl) (C_X2_drawn v3 u) rfl rfl (fun x1 => ?_)
      refine gf_iald (q := 42) dX2_countTurnsTo_41 rfl ?_
      refine gf_aload_n (i := 0) (q := 43) dX2_countTurnsTo_42 rfl rfl rfl ?_
      refine gf_getA (C := RX2) (T := TX2) (N := 1) (ci := 2) (k := 32) (j := 0) (t := 33) (q := 46) dX2_countTurnsTo_43 rfl rfl kin2 (by decide) kw119 rfl rfl ?_
      refine gf_iload_n (i := 3) (q := 47) dX2_countTurnsTo_46 rfl rfl rfl ?_
      refine gf_callS_i (n2 := 1) (As := [.int v3]) (st := [.ref 33, .int (mi x1.2 33 (Int32.toNatClampNeg x1.1)), .int 1]) (q := 50) (hlen := rfl) kw460 kw296 dX2_countTurnsTo_47 kw297 kw5 (by decide +kernel) (by decide) (Nat.le_of_ble_eq_true rfl) (C_X2_filled v3 x1.2) rfl rfl (fun x2 => ?_)
      refine gf_iald (q := 51) dX2_countTurnsTo_50 rfl ?_
      refine gf_callS_i (n2 := 2) (As := [.int (mi x1.2 33 (Int32.toNatClampNeg x1.1)), .int (mi x2.2 33 (Int32.toNatClampNeg x2.1))]) (st := [.int 1]) (q := 54) (hlen := rfl) kw298 kw257 dX2_countTurnsTo_51 kw258 kw9 (by decide +kernel) (by decide) (Nat.le_of_ble_eq_true rfl) (C_J9_min_7cf53 YY (mi x1.2 33 (Int32.toNatClampNeg x1.1)) (mi x2.2 33 (Int32.toNatClampNeg x2.1)) x2.2) rfl rfl (fun x3 => ?_)
      refine gf_iadd (q := 55) dX2_countTurnsTo_54 rfl ?_
      refine gf_istore (lv2 := [some (.ref 32), none, some (.int v2), some (.int v3), some (.int (1 + x3.1))]) (q := 57) dX2_countTurnsTo_55 (by decide) rfl rfl ?_
      refine gf_aload_n (i := 0) (q := 58) dX2_countTurnsTo_57 rfl rfl rfl ?_
      refine gf_getA (C := RX2) (T := TX2) (N := 1) (ci := 2) (k := 32) (j := 0) (t := 33) (q := 61) dX2_countTurnsTo_58 rfl rfl kin2 (by decide) kw119 rfl rfl ?_
      refine gf_iload_n (i := 3) (q := 62) dX2_countTurnsTo_61 rfl rfl rfl ?_
      refine gf_aload_n (i := 0) (q := 63) dX2_countTurnsTo_62 rfl rfl rfl ?_
      refine gf_getA (C := RX2) (T := TX2) (N := 1) (ci := 2) (k := 32) (j := 0) (t := 33) (q := 66) dX2_countTurnsTo_63 rfl rfl kin2 (by decide) kw119 rfl rfl ?_
      refine gf_iload_n (i := 3) (q := 67) dX2_countTurnsTo_66 rfl rfl rfl ?_
      refine gf_iald (q := 68) dX2_countTurnsTo_67 rfl ?_
      refine gf_iload (q := 70) dX2_countTurnsTo_68 rfl rfl ?_
      refine gf_callS_i (n2 := 2) (As := [.int (mi x3.2 33 (Int32.toNatClampNeg v3)), .int (1 + x3.1)]) (st := [.int v3, .ref 33]) (q := 73) (hlen := rfl) kw298 kw257 dX2_countTurnsTo_70 kw258 kw9 (by decide +kernel) (by decide) (Nat.le_of_ble_eq_true rfl) (C_J9_min_7cf53 YY (mi x3.2 33 (Int32.toNatClampNeg v3)) (1 + x3.1) x3.2) rfl rfl (fun x4 => ?_)
      refine gf_iast (q := 74) dX2_countTurnsTo_73 rfl ?_
      refine gf_iinc (v := (v3 + 1)) (lv2 := [some (.ref 32), none, some (.int v2), some (.int (v3 + 1)), some (.int (1 + x3.1))]) (q := 77) dX2_countTurnsTo_74 rfl (congrArg _ ki_1) (by decide) rfl rfl ?_
      refine gf_goto (q := 26) dX2_countTurnsTo_77 (by decide) ?_
      exact gf_mask (b := [true, false, true, true, false]) rfl (ih v2 (v3 + 1) (wi x4.2 33 (Int32.toNatClampNeg v3) x4.1))
def F_X2_countTurnsTo_18 : Nat → Int32 → XM → Option (Unit × XM)
  | 0, _, _ => none
  | n + 1, v2, u => (if 9 < v2 then some ((), u) else F_X2_countTurnsTo_26 (F_X2_countTurnsTo_18 n) FU v2 0 u)
set_option maxRecDepth 20000 in
set_option maxHeartbeats 4000000 in
theorem T_X2_countTurnsTo_18 : ∀ (n : Nat) (v2 : Int32) (u : XM), GF E0 YY 3 yX2_countTurnsTo cX2_countTurnsTo 5 none 18 [some (.ref 32), none, some (.int v2), none, none] [] u emV (F_X2_countTurnsTo_18 n v2 u) := by
  intro n
  induction n with
  | zero => intro v2 u; exact gf_none
  | succ n ih =>
    intro v2 u
    unfold F_X2_countTurnsTo_18
    refine gf_iload_n (i := 2) (q := 19) dX2_countTurnsTo_18 rfl rfl rfl ?_
    refine gf_bipush (q := 21) dX2_countTurnsTo_19 kb_9 rfl ?_
    refine gf_icmp_gt (t := 86) (q := 24) dX2_countTurnsTo_21 (by decide) rfl ?_ ?_
    · exact gf_retv dX2_countTurnsTo_86 rfl
    · refine gf_iconst (q := 25) dX2_countTurnsTo_24 ki_0 rfl ?_
      refine gf_istore_n (i := 3) (lv2 := [some (.ref 32), none, some (.int v2), some (.int 0), none]) (q := 26) dX2_countTurnsTo_25 rfl (by decide) rfl rfl ?_
      exact (T_X2_countTurnsTo_26 (F_X2_countTurnsTo_18 n) ih FU v2 0 u)
def F_X2_countTurnsTo (v1 : Int32) (u : XM) : Option (Unit × XM) := (Option.bind (F_J7_fill_53178 YY 33 10 u) (fun x5 => (if ain YY 0 33 v1 = true then F_X2_countTurnsTo_18 FU 0 (wi x5.2 33 (Int32.toNatClampNeg v1) 0) else none)))
set_option maxRecDepth 20000 in
set_option maxHeartbeats 4000000 in
theorem T_X2_countTurnsTo (v1 : Int32) (u : XM) : GF E0 YY 3 yX2_countTurnsTo cX2_countTurnsTo 5 none 0 [some (.ref 32), some (.int v1), none, none, none] [] u emV (F_X2_countTurnsTo v1 u) := by
  unfold F_X2_countTurnsTo
  refine gf_aload_n (i := 0) (q := 1) dX2_countTurnsTo_0 rfl rfl rfl ?_
  refine gf_getA (C := RX2) (T := TX2) (N := 1) (ci := 2) (k := 32) (j := 0) (t := 33) (q := 4) dX2_countTurnsTo_1 rfl rfl kin2 (by decide) kw119 rfl rfl ?_
  refine gf_bipush (q := 6) dX2_countTurnsTo_4 kb_10 rfl ?_
  refine gf_callS_v (n2 := 2) (As := [.ref 33, .int 10]) (st := []) (q := 9) (hlen := rfl) kw458 kw125 dX2_countTurnsTo_6 kw126 kw6 (by decide +kernel) (by decide) (Nat.le_of_ble_eq_true rfl) (C_J7_fill_53178 YY 33 10 u) rfl rfl (fun x5 => ?_)
  refine gf_aload_n (i := 0) (q := 10) dX2_countTurnsTo_9 rfl rfl rfl ?_
  refine gf_getA (C := RX2) (T := TX2) (N := 1) (ci := 2) (k := 32) (j := 0) (t := 33) (q := 13) dX2_countTurnsTo_10 rfl rfl kin2 (by decide) kw119 rfl rfl ?_
  refine gf_iload_n (i := 1) (q := 14) dX2_countTurnsTo_13 rfl rfl rfl ?_
  refine gf_iconst (q := 15) dX2_countTurnsTo_14 ki_0 rfl ?_
  refine gf_iast (q := 16) dX2_countTurnsTo_15 rfl ?_
  refine gf_iconst (q := 17) dX2_countTurnsTo_16 ki_0 rfl ?_
  refine gf_istore_n (i := 2) (lv2 := [some (.ref 32), some (.int v1), some (.int 0), none, none]) (q := 18) dX2_countTurnsTo_17 rfl (by decide) rfl rfl ?_
  exact gf_mask (b := [true, false, true, false, false]) rfl (T_X2_countTurnsTo_18 FU 0 (wi x5.2 33 (Int32.toNatClampNeg v1) 0))
theorem C_X2_countTurnsTo (v1 : Int32) (u : XM) : CF YY 3 yX2_countTurnsTo cX2_countTurnsTo 5 none [.ref 32, .int v1] u emV (F_X2_countTurnsTo v1 u) := cf_of (by decide +kernel) (Nat.le_of_ble_eq_true rfl) rfl (T_X2_countTurnsTo v1 u)
def F_X2_firstRowFrom_68 (k15 : Int32 → Int32 → Int32 → Int32 → XM → Option (Int32 × XM)) (v2 : Int32) (v3 : Int32) (v4 : Int32) (v5 : Int32) (u : XM) : Option (Int32 × XM) := k15 v2 v3 v4 (v5 + 1) u
set_option maxRecDepth 20000 in
set_option maxHeartbeats 4000000 in
theorem T_X2_firstRowFrom_68 (k15 : Int32 → Int32 → Int32 → Int32 → XM → Option (Int32 × XM)) (hk15 : ∀ (v2 : Int32) (v3 : Int32) (v4 : Int32) (v5 : Int32) (u : XM), GF E0 YY 3 yX2_firstRowFrom cX2_firstRowFrom 6 (some .int) 15 [some (.ref 32), none, some (.int v2), some (.int v3), some (.int v4), some (.int v5)] [] u emI (k15 v2 v3 v4 v5 u)) (v2 : Int32) (v3 : Int32) (v4 : Int32) (v5 : Int32) (u : XM) : GF E0 YY 3 yX2_firstRowFrom cX2_firstRowFrom 6 (some .int) 68 [some (.ref 32), none, some (.int v2), some (.int v3), some (.int v4), some (.int v5)] [] u emI (F_X2_firstRowFrom_68 k15 v2 v3 v4 v5 u) := by
  unfold F_X2_firstRowFrom_68
  refine gf_iinc (v := (v5 + 1)) (lv2 := [some (.ref 32), none, some (.int v2), some (.int v3), some (.int v4), some (.int (v5 + 1))]) (q := 71) dX2_firstRowFrom_68 rfl (congrArg _ ki_1) (by decide) rfl rfl ?_
  refine gf_goto (q := 15) dX2_firstRowFrom_71 (by decide) ?_
  exact (hk15 v2 v3 v4 (v5 + 1) u)
def F_X2_firstRowFrom_15 : Nat → Int32 → Int32 → Int32 → Int32 → XM → Option (Int32 × XM)
  | 0, _, _, _, _, _ => none
  | n + 1, v2, v3, v4, v5, u => (if v4 ≤ v5 then some (v2, u) else (if 9 < v5 then some (v2, u) else (Option.bind (F_X2_drawn v3 u) (fun x1 => (if ain YY 0 33 x1.1 = true then (if (mi x1.2 33 (Int32.toNatClampNeg x1.1)) = ((v4 - v5) - 1) then (Option.bind (F_X2_drawn v3 x1.2) (fun x3 => F_X2_firstRowFrom_68 (F_X2_firstRowFrom_15 n) v2 x3.1 v4 v5 x3.2)) else (Option.bind (F_X2_filled v3 x1.2) (fun x2 => F_X2_firstRowFrom_68 (F_X2_firstRowFrom_15 n) (v2 ||| (1 <<< (v5 &&& 31))) x2.1 v4 v5 x2.2))) else none)))))
set_option maxRecDepth 20000 in
set_option maxHeartbeats 4000000 in
theorem T_X2_firstRowFrom_15 : ∀ (n : Nat) (v2 : Int32) (v3 : Int32) (v4 : Int32) (v5 : Int32) (u : XM), GF E0 YY 3 yX2_firstRowFrom cX2_firstRowFrom 6 (some .int) 15 [some (.ref 32), none, some (.int v2), some (.int v3), some (.int v4), some (.int v5)] [] u emI (F_X2_firstRowFrom_15 n v2 v3 v4 v5 u) := by
  intro n
  induction n with
  | zero => intro v2 v3 v4 v5 u; exact gf_none
  | succ n ih =>
    intro v2 v3 v4 v5 u
    unfold F_X2_firstRowFrom_15
    refine gf_iload (q := 17) dX2_firstRowFrom_15 rfl rfl ?_
    refine gf_iload (q := 19) dX2_firstRowFrom_17 rfl rfl ?_
    refine gf_icmp_ge (t := 74) (q := 22) dX2_firstRowFrom_19 (by decide) rfl ?_ ?_
    · refine gf_iload_n (i := 2) (q := 75) dX2_firstRowFrom_74 rfl rfl rfl ?_
      exact gf_reti dX2_firstRowFrom_75 rfl
    · refine gf_iload (q := 24) dX2_firstRowFrom_22 rfl rfl ?_
      refine gf_bipush (q := 26) dX2_firstRowFrom_24 kb_9 rfl ?_
      refine gf_icmp_gt (t := 74) (q := 29) dX2_firstRowFrom_26 (by decide) rfl ?_ ?_
      · refine gf_iload_n (i := 2) (q := 75) dX2_firstRowFrom_74 rfl rfl rfl ?_
        exact gf_reti dX2_firstRowFrom_75 rfl
      · refine gf_aload_n (i := 0) (q := 30) dX2_firstRowFrom_29 rfl rfl rfl ?_
        refine gf_getA (C := RX2) (T := TX2) (N := 1) (ci := 2) (k := 32) (j := 0) (t := 33) (q := 33) dX2_firstRowFrom_30 rfl rfl kin2 (by decide) kw119 rfl rfl ?_
        refine gf_iload_n (i := 3) (q := 34) dX2_firstRowFrom_33 rfl rfl rfl ?_
        refine gf_callS_i (n2 := 1) (As := [.int v3]) (st := [.ref 33]) (q := 37) (hlen := rfl) kw459 kw292 dX2_firstRowFrom_34 kw293 kw5 (by decide +kernel) (by decide) (Nat.le_of_ble_eq_true rfl) (C_X2_drawn v3 u) rfl rfl (fun x1 => ?_)
        refine gf_iald (q := 38) dX2_firstRowFrom_37 rfl ?_
        refine gf_iload (q := 40) dX2_firstRowFrom_38 rfl rfl ?_
        refine gf_iload (q := 42) dX2_firstRowFrom_40 rfl rfl ?_
        refine gf_isub (q := 43) dX2_firstRowFrom_42 rfl ?_
        refine gf_iconst (q := 44) dX2_firstRowFrom_43 ki_1 rfl ?_
        refine gf_isub (q := 45) dX2_firstRowFrom_44 rfl ?_
        refine gf_icmp_ne (t := 56) (q := 48) dX2_firstRowFrom_45 (by decide) rfl ?_ ?_
        · refine gf_iload_n (i := 3) (q := 49) dX2_firstRowFrom_48 rfl rfl rfl ?_
          refine gf_callS_i (n2 := 1) (As := [.int v3]) (st := []) (q := 52) (hlen := rfl) kw459 kw292 dX2_firstRowFrom_49 kw293 kw5 (by decide +kernel) (by decide) (Nat.le_of_ble_eq_true rfl) (C_X2_drawn v3 x1.2) rfl rfl (fun x3 => ?_)
          refine gf_istore_n (i := 3) (lv2 := [some (.ref 32), none, some (.int v2), some (.int x3.1), some (.int v4), some (.int v5)]) (q := 53) dX2_firstRowFrom_52 rfl (by decide) rfl rfl ?_
          refine gf_goto (q := 68) dX2_firstRowFrom_53 (by decide) ?_
          exact (T_X2_firstRowFrom_68 (F_X2_firstRowFrom_15 n) ih v2 x3.1 v4 v5 x3.2)
        · refine gf_iload_n (i := 3) (q := 57) dX2_firstRowFrom_56 rfl rfl rfl ?_
          refine gf_callS_i (n2 := 1) (As := [.int v3]) (st := []) (q := 60) (hlen := rfl) kw460 kw296 dX2_firstRowFrom_57 kw297 kw5 (by decide +kernel) (by decide) (Nat.le_of_ble_eq_true rfl) (C_X2_filled v3 x1.2) rfl rfl (fun x2 => ?_)
          refine gf_istore_n (i := 3) (lv2 := [some (.ref 32), none, some (.int v2), some (.int x2.1), some (.int v4), some (.int v5)]) (q := 61) dX2_firstRowFrom_60 rfl (by decide) rfl rfl ?_
          refine gf_iload_n (i := 2) (q := 62) dX2_firstRowFrom_61 rfl rfl rfl ?_
          refine gf_iconst (q := 63) dX2_firstRowFrom_62 ki_1 rfl ?_
          refine gf_iload (q := 65) dX2_firstRowFrom_63 rfl rfl ?_
          refine gf_ishl (q := 66) dX2_firstRowFrom_65 rfl ?_
          refine gf_ior (q := 67) dX2_firstRowFrom_66 rfl ?_
          refine gf_istore_n (i := 2) (lv2 := [some (.ref 32), none, some (.int (v2 ||| (1 <<< (v5 &&& 31)))), some (.int x2.1), some (.int v4), some (.int v5)]) (q := 68) dX2_firstRowFrom_67 rfl (by decide) rfl rfl ?_
          exact (T_X2_firstRowFrom_68 (F_X2_firstRowFrom_15 n) ih (v2 ||| (1 <<< (v5 &&& 31))) x2.1 v4 v5 x2.2)
def F_X2_firstRowFrom (v1 : Int32) (u : XM) : Option (Int32 × XM) := (if ain YY 0 33 v1 = true then F_X2_firstRowFrom_15 FU 0 v1 (mi u 33 (Int32.toNatClampNeg v1)) 0 u else none)
set_option maxRecDepth 20000 in
set_option maxHeartbeats 4000000 in
theorem T_X2_firstRowFrom (v1 : Int32) (u : XM) : GF E0 YY 3 yX2_firstRowFrom cX2_firstRowFrom 6 (some .int) 0 [some (.ref 32), some (.int v1), none, none, none, none] [] u emI (F_X2_firstRowFrom v1 u) := by
  unfold F_X2_firstRowFrom
  refine gf_iconst (q := 1) dX2_firstRowFrom_0 ki_0 rfl ?_
  refine gf_istore_n (i := 2) (lv2 := [some (.ref 32), some (.int v1), some (.int 0), none, none, none]) (q := 2) dX2_firstRowFrom_1 rfl (by decide) rfl rfl ?_
  refine gf_iload_n (i := 1) (q := 3) dX2_firstRowFrom_2 rfl rfl rfl ?_
  refine gf_istore_n (i := 3) (lv2 := [some (.ref 32), some (.int v1), some (.int 0), some (.int v1), none, none]) (q := 4) dX2_firstRowFrom_3 rfl (by decide) rfl rfl ?_
  refine gf_aload_n (i := 0) (q := 5) dX2_firstRowFrom_4 rfl rfl rfl ?_
  refine gf_getA (C := RX2) (T := TX2) (N := 1) (ci := 2) (k := 32) (j := 0) (t := 33) (q := 8) dX2_firstRowFrom_5 rfl rfl kin2 (by decide) kw119 rfl rfl ?_
  refine gf_iload_n (i := 1) (q := 9) dX2_firstRowFrom_8 rfl rfl rfl ?_
  refine gf_iald (q := 10) dX2_firstRowFrom_9 rfl ?_
  refine gf_istore (lv2 := [some (.ref 32), some (.int v1), some (.int 0), some (.int v1), some (.int (mi u 33 (Int32.toNatClampNeg v1))), none]) (q := 12) dX2_firstRowFrom_10 (by decide) rfl rfl ?_
  refine gf_iconst (q := 13) dX2_firstRowFrom_12 ki_0 rfl ?_
  refine gf_istore (lv2 := [some (.ref 32), some (.int v1), some (.int 0), some (.int v1), some (.int (mi u 33 (Int32.toNatClampNeg v1))), some (.int 0)]) (q := 15) dX2_firstRowFrom_13 (by decide) rfl rfl ?_
  exact gf_mask (b := [true, false, true, true, true, true]) rfl (T_X2_firstRowFrom_15 FU 0 v1 (mi u 33 (Int32.toNatClampNeg v1)) 0 u)
theorem C_X2_firstRowFrom (v1 : Int32) (u : XM) : CF YY 3 yX2_firstRowFrom cX2_firstRowFrom 6 (some .int) [.ref 32, .int v1] u emI (F_X2_firstRowFrom v1 u) := cf_of (by decide +kernel) (Nat.le_of_ble_eq_true rfl) rfl (T_X2_firstRowFrom v1 u)
