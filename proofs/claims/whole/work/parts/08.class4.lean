def F_X4_presentIn_20 (k4 : Nat → Int32 → Int32 → XM → Option (Int32 × XM)) (v0 : Nat) (v1 : Int32) (v2 : Int32) (u : XM) : Option (Int32 × XM) := k4 v0 v1 (v2 + 1) u
set_option maxRecDepth 20000 in
set_option maxHeartbeats 4000000 in
theorem T_X4_presentIn_20 (k4 : Nat → Int32 → Int32 → XM → Option (Int32 × XM)) (hk4 : ∀ (v0 : Nat) (v1 : Int32) (v2 : Int32) (u : XM), GF E0 YY 1 yX4_presentIn cX4_presentIn 3 (some .int) 4 [some (.ref v0), some (.int v1), some (.int v2)] [] u emI (k4 v0 v1 v2 u)) (v0 : Nat) (v1 : Int32) (v2 : Int32) (u : XM) : GF E0 YY 1 yX4_presentIn cX4_presentIn 3 (some .int) 20 [some (.ref v0), some (.int v1), some (.int v2)] [] u emI (F_X4_presentIn_20 k4 v0 v1 v2 u) := by
  unfold F_X4_presentIn_20
  refine gf_iinc (v := (v2 + 1)) (lv2 := [some (.ref v0), some (.int v1), some (.int (v2 + 1))]) (q := 23) dX4_presentIn_20 rfl (congrArg _ ki_1) (by decide) rfl rfl ?_
  refine gf_goto (q := 4) dX4_presentIn_23 (by decide) ?_
  exact (hk4 v0 v1 (v2 + 1) u)
def F_X4_presentIn_4 : Nat → Nat → Int32 → Int32 → XM → Option (Int32 × XM)
  | 0, _, _, _, _ => none
  | n + 1, v0, v1, v2, u => (Option.bind (alen YY 0 v0) (fun n1 => (if (nI n1) ≤ v2 then some (v1, u) else (if ain YY 0 v0 v2 = true then (if (mi u v0 (Int32.toNatClampNeg v2)) = (-1) then F_X4_presentIn_20 (F_X4_presentIn_4 n) v0 v1 v2 u else F_X4_presentIn_20 (F_X4_presentIn_4 n) v0 (v1 + 1) v2 u) else none))))
set_option maxRecDepth 20000 in
set_option maxHeartbeats 4000000 in
theorem T_X4_presentIn_4 : ∀ (n : Nat) (v0 : Nat) (v1 : Int32) (v2 : Int32) (u : XM), GF E0 YY 1 yX4_presentIn cX4_presentIn 3 (some .int) 4 [some (.ref v0), some (.int v1), some (.int v2)] [] u emI (F_X4_presentIn_4 n v0 v1 v2 u) := by
  intro n
  induction n with
  | zero => intro v0 v1 v2 u; exact gf_none
  | succ n ih =>
    intro v0 v1 v2 u
    unfold F_X4_presentIn_4
    refine gf_iload_n (i := 2) (q := 5) dX4_presentIn_4 rfl rfl rfl ?_
    refine gf_aload_n (i := 0) (q := 6) dX4_presentIn_5 rfl rfl rfl ?_
    refine gf_alenS0 (q := 7) dX4_presentIn_6 rfl (fun n1 => ?_)
    refine gf_icmp_ge (t := 26) (q := 10) dX4_presentIn_7 (by decide) rfl ?_ ?_
    · refine gf_iload_n (i := 1) (q := 27) dX4_presentIn_26 rfl rfl rfl ?_
      exact gf_reti dX4_presentIn_27 rfl
    · refine gf_aload_n (i := 0) (q := 11) dX4_presentIn_10 rfl rfl rfl ?_
      refine gf_iload_n (i := 2) (q := 12) dX4_presentIn_11 rfl rfl rfl ?_
      refine gf_iald (q := 13) dX4_presentIn_12 rfl ?_
      refine gf_iconst (q := 14) dX4_presentIn_13 ki_m1 rfl ?_
      refine gf_icmp_eq (t := 20) (q := 17) dX4_presentIn_14 (by decide) rfl ?_ ?_
      · exact (T_X4_presentIn_20 (F_X4_presentIn_4 n) ih v0 v1 v2 u)
      · refine gf_iinc (v := (v1 + 1)) (lv2 := [some (.ref v0), some (.int (v1 + 1)), some (.int v2)]) (q := 20) dX4_presentIn_17 rfl (congrArg _ ki_1) (by decide) rfl rfl ?_
        exact (T_X4_presentIn_20 (F_X4_presentIn_4 n) ih v0 (v1 + 1) v2 u)
def F_X4_presentIn (v0 : Nat) (u : XM) : Option (Int32 × XM) := F_X4_presentIn_4 FU v0 0 0 u
set_option maxRecDepth 20000 in
set_option maxHeartbeats 4000000 in
theorem T_X4_presentIn (v0 : Nat) (u : XM) : GF E0 YY 1 yX4_presentIn cX4_presentIn 3 (some .int) 0 [some (.ref v0), none, none] [] u emI (F_X4_presentIn v0 u) := by
  unfold F_X4_presentIn
  refine gf_iconst (q := 1) dX4_presentIn_0 ki_0 rfl ?_
  refine gf_istore_n (i := 1) (lv2 := [some (.ref v0), some (.int 0), none]) (q := 2) dX4_presentIn_1 rfl (by decide) rfl rfl ?_
  refine gf_iconst (q := 3) dX4_presentIn_2 ki_0 rfl ?_
  refine gf_istore_n (i := 2) (lv2 := [some (.ref v0), some (.int 0), some (.int 0)]) (q := 4) dX4_presentIn_3 rfl (by decide) rfl rfl ?_
  exact (T_X4_presentIn_4 FU v0 0 0 u)
theorem C_X4_presentIn (v0 : Nat) (u : XM) : CF YY 1 yX4_presentIn cX4_presentIn 3 (some .int) [.ref v0] u emI (F_X4_presentIn v0 u) := cf_of (by decide +kernel) (Nat.le_of_ble_eq_true rfl) rfl (T_X4_presentIn v0 u)
def F_X4_count (v1 : Int32) (u : XM) : Option (Int32 × XM) := (tsw v1 0 [some ((mi u 22 6), u), some ((mi u 22 10), u), some ((mi u 22 11), u), some ((mi u 22 9), u), some ((mi u 22 7), u), (Option.bind (F_X0_takenBits u) (fun x1 => some (x1.1, x1.2))), (Option.bind (F_X0_countOfKind 1 u) (fun x2 => some (x2.1, x2.2))), (Option.bind (F_X0_countOfKind 2 u) (fun x3 => some (x3.1, x3.2))), (Option.bind (F_X4_presentIn 8 u) (fun x4 => some (x4.1, x4.2))), (Option.bind (F_X4_presentIn 14 u) (fun x5 => some (x5.1, x5.2))), (Option.bind (F_X4_presentIn 19 u) (fun x6 => some (x6.1, x6.2)))] (some ((-1), u)))
set_option maxRecDepth 20000 in
set_option maxHeartbeats 4000000 in
theorem T_X4_count (v1 : Int32) (u : XM) : GF E0 YY 3 yX4_count cX4_count 2 (some .int) 0 [some (.ref 0), some (.int v1)] [] u emI (F_X4_count v1 u) := by
  unfold F_X4_count
  refine gf_iload_n (i := 1) (q := 1) dX4_count_0 rfl rfl rfl ?_
  refine gf_tsw (ts := [60, 68, 76, 84, 92, 100, 108, 117, 126, 134, 142]) (t0 := 150) dX4_count_1 (by decide +kernel) (xsw_c ?_ (xsw_c ?_ (xsw_c ?_ (xsw_c ?_ (xsw_c ?_ (xsw_c ?_ (xsw_c ?_ (xsw_c ?_ (xsw_c ?_ (xsw_c ?_ (xsw_c ?_ (xsw_n)))))))))))) ?_
  · refine gf_aload_n (i := 0) (q := 61) dX4_count_60 rfl rfl rfl ?_
    refine gf_getA (C := RX4) (T := TX4) (N := 15) (ci := 4) (k := 0) (j := 7) (t := 22) (q := 64) dX4_count_61 rfl rfl kin4 (by decide) kw134 rfl rfl ?_
    refine gf_getI (C := RX0) (T := TX0) (N := 12) (ci := 0) (k := 22) (j := 6) (q := 67) dX4_count_64 rfl rfl kin0 (by decide) kw61 rfl rfl ?_
    exact gf_reti dX4_count_67 rfl
  · refine gf_aload_n (i := 0) (q := 69) dX4_count_68 rfl rfl rfl ?_
    refine gf_getA (C := RX4) (T := TX4) (N := 15) (ci := 4) (k := 0) (j := 7) (t := 22) (q := 72) dX4_count_69 rfl rfl kin4 (by decide) kw134 rfl rfl ?_
    refine gf_getI (C := RX0) (T := TX0) (N := 12) (ci := 0) (k := 22) (j := 10) (q := 75) dX4_count_72 rfl rfl kin0 (by decide) kw68 rfl rfl ?_
    exact gf_reti dX4_count_75 rfl
  · refine gf_aload_n (i := 0) (q := 77) dX4_count_76 rfl rfl rfl ?_
    refine gf_getA (C := RX4) (T := TX4) (N := 15) (ci := 4) (k := 0) (j := 7) (t := 22) (q := 80) dX4_count_77 rfl rfl kin4 (by decide) kw134 rfl rfl ?_
    refine gf_getI (C := RX0) (T := TX0) (N := 12) (ci := 0) (k := 22) (j := 11) (q := 83) dX4_count_80 rfl rfl kin0 (by decide) kw70 rfl rfl ?_
    exact gf_reti dX4_count_83 rfl
  · refine gf_aload_n (i := 0) (q := 85) dX4_count_84 rfl rfl rfl ?_
    refine gf_getA (C := RX4) (T := TX4) (N := 15) (ci := 4) (k := 0) (j := 7) (t := 22) (q := 88) dX4_count_85 rfl rfl kin4 (by decide) kw134 rfl rfl ?_
    refine gf_getI (C := RX0) (T := TX0) (N := 12) (ci := 0) (k := 22) (j := 9) (q := 91) dX4_count_88 rfl rfl kin0 (by decide) kw66 rfl rfl ?_
    exact gf_reti dX4_count_91 rfl
  · refine gf_aload_n (i := 0) (q := 93) dX4_count_92 rfl rfl rfl ?_
    refine gf_getA (C := RX4) (T := TX4) (N := 15) (ci := 4) (k := 0) (j := 7) (t := 22) (q := 96) dX4_count_93 rfl rfl kin4 (by decide) kw134 rfl rfl ?_
    refine gf_getI (C := RX0) (T := TX0) (N := 12) (ci := 0) (k := 22) (j := 7) (q := 99) dX4_count_96 rfl rfl kin0 (by decide) kw63 rfl rfl ?_
    exact gf_reti dX4_count_99 rfl
  · refine gf_aload_n (i := 0) (q := 101) dX4_count_100 rfl rfl rfl ?_
    refine gf_getA (C := RX4) (T := TX4) (N := 15) (ci := 4) (k := 0) (j := 7) (t := 22) (q := 104) dX4_count_101 rfl rfl kin4 (by decide) kw134 rfl rfl ?_
    refine gf_callV_i (n2 := 0) (As := []) (st := []) (b := 22) (ci := 0) (C := RX0) (q := 107) (hlen := rfl) rfl rfl kw575 kw576 kw577 dX4_count_104 kw578 kw3 (by decide +kernel) (by decide) (Nat.le_of_ble_eq_true rfl) (C_X0_takenBits u) rfl rfl (fun x1 => ?_)
    exact gf_reti dX4_count_107 rfl
  · refine gf_aload_n (i := 0) (q := 109) dX4_count_108 rfl rfl rfl ?_
    refine gf_getA (C := RX4) (T := TX4) (N := 15) (ci := 4) (k := 0) (j := 7) (t := 22) (q := 112) dX4_count_109 rfl rfl kin4 (by decide) kw134 rfl rfl ?_
    refine gf_iconst (q := 113) dX4_count_112 ki_1 rfl ?_
    refine gf_callV_i (n2 := 1) (As := [.int 1]) (st := []) (b := 22) (ci := 0) (C := RX0) (q := 116) (hlen := rfl) rfl rfl kw579 kw330 kw331 dX4_count_113 kw332 kw3 (by decide +kernel) (by decide) (Nat.le_of_ble_eq_true rfl) (C_X0_countOfKind 1 u) rfl rfl (fun x2 => ?_)
    exact gf_reti dX4_count_116 rfl
  · refine gf_aload_n (i := 0) (q := 118) dX4_count_117 rfl rfl rfl ?_
    refine gf_getA (C := RX4) (T := TX4) (N := 15) (ci := 4) (k := 0) (j := 7) (t := 22) (q := 121) dX4_count_118 rfl rfl kin4 (by decide) kw134 rfl rfl ?_
    refine gf_iconst (q := 122) dX4_count_121 ki_2 rfl ?_
    refine gf_callV_i (n2 := 1) (As := [.int 2]) (st := []) (b := 22) (ci := 0) (C := RX0) (q := 125) (hlen := rfl) rfl rfl kw579 kw330 kw331 dX4_count_122 kw332 kw3 (by decide +kernel) (by decide) (Nat.le_of_ble_eq_true rfl) (C_X0_countOfKind 2 u) rfl rfl (fun x3 => ?_)
    exact gf_reti dX4_count_125 rfl
  · refine gf_aload_n (i := 0) (q := 127) dX4_count_126 rfl rfl rfl ?_
    refine gf_getA (C := RX4) (T := TX4) (N := 15) (ci := 4) (k := 0) (j := 1) (t := 8) (q := 130) dX4_count_127 rfl rfl kin4 (by decide) kw128 rfl rfl ?_
    refine gf_callS_i (n2 := 1) (As := [.ref 8]) (st := []) (q := 133) (hlen := rfl) kw580 kw581 dX4_count_130 kw582 kw1 (by decide +kernel) (by decide) (Nat.le_of_ble_eq_true rfl) (C_X4_presentIn 8 u) rfl rfl (fun x4 => ?_)
    exact gf_reti dX4_count_133 rfl
  · refine gf_aload_n (i := 0) (q := 135) dX4_count_134 rfl rfl rfl ?_
    refine gf_getA (C := RX4) (T := TX4) (N := 15) (ci := 4) (k := 0) (j := 3) (t := 14) (q := 138) dX4_count_135 rfl rfl kin4 (by decide) kw130 rfl rfl ?_
    refine gf_callS_i (n2 := 1) (As := [.ref 14]) (st := []) (q := 141) (hlen := rfl) kw580 kw581 dX4_count_138 kw582 kw1 (by decide +kernel) (by decide) (Nat.le_of_ble_eq_true rfl) (C_X4_presentIn 14 u) rfl rfl (fun x5 => ?_)
    exact gf_reti dX4_count_141 rfl
  · refine gf_aload_n (i := 0) (q := 143) dX4_count_142 rfl rfl rfl ?_
    refine gf_getA (C := RX4) (T := TX4) (N := 15) (ci := 4) (k := 0) (j := 5) (t := 19) (q := 146) dX4_count_143 rfl rfl kin4 (by decide) kw132 rfl rfl ?_
    refine gf_callS_i (n2 := 1) (As := [.ref 19]) (st := []) (q := 149) (hlen := rfl) kw580 kw581 dX4_count_146 kw582 kw1 (by decide +kernel) (by decide) (Nat.le_of_ble_eq_true rfl) (C_X4_presentIn 19 u) rfl rfl (fun x6 => ?_)
    exact gf_reti dX4_count_149 rfl
  · refine gf_iconst (q := 151) dX4_count_150 ki_m1 rfl ?_
    exact gf_reti dX4_count_151 rfl
theorem C_X4_count (v1 : Int32) (u : XM) : CF YY 3 yX4_count cX4_count 2 (some .int) [.ref 0, .int v1] u emI (F_X4_count v1 u) := cf_of (by decide +kernel) (Nat.le_of_ble_eq_true rfl) rfl (T_X4_count v1 u)
def F_X4_finding  (u : XM) : Option (Int32 × XM) := some ((mi u 0 11), u)
set_option maxRecDepth 20000 in
set_option maxHeartbeats 4000000 in
theorem T_X4_finding  (u : XM) : GF E0 YY 1 yX4_finding cX4_finding 1 (some .int) 0 [some (.ref 0)] [] u emI (F_X4_finding u) := by
  unfold F_X4_finding
  refine gf_aload_n (i := 0) (q := 1) dX4_finding_0 rfl rfl rfl ?_
  refine gf_getI (C := RX4) (T := TX4) (N := 15) (ci := 4) (k := 0) (j := 11) (q := 4) dX4_finding_1 rfl rfl kin4 (by decide) kw138 rfl rfl ?_
  exact gf_reti dX4_finding_4 rfl
theorem C_X4_finding  (u : XM) : CF YY 1 yX4_finding cX4_finding 1 (some .int) [.ref 0] u emI (F_X4_finding u) := cf_of (by decide +kernel) (Nat.le_of_ble_eq_true rfl) rfl (T_X4_finding u)
def F_X4_findings (v1 : Int32) (u : XM) : Option (Int32 × XM) := (if v1 < 1 then some ((-1), u) else (if v1 ≤ 5 then (if ain YY 0 34 v1 = true then some ((mi u 34 (Int32.toNatClampNeg v1)), u) else none) else some ((-1), u)))
set_option maxRecDepth 20000 in
set_option maxHeartbeats 4000000 in
theorem T_X4_findings (v1 : Int32) (u : XM) : GF E0 YY 1 yX4_findings cX4_findings 2 (some .int) 0 [some (.ref 0), some (.int v1)] [] u emI (F_X4_findings v1 u) := by
  unfold F_X4_findings
  refine gf_iload_n (i := 1) (q := 1) dX4_findings_0 rfl rfl rfl ?_
  refine gf_iconst (q := 2) dX4_findings_1 ki_1 rfl ?_
  refine gf_icmp_lt (t := 10) (q := 5) dX4_findings_2 (by decide) rfl ?_ ?_
  · refine gf_iconst (q := 11) dX4_findings_10 ki_m1 rfl ?_
    exact gf_reti dX4_findings_11 rfl
  · refine gf_iload_n (i := 1) (q := 6) dX4_findings_5 rfl rfl rfl ?_
    refine gf_iconst (q := 7) dX4_findings_6 ki_5 rfl ?_
    refine gf_icmp_le (t := 12) (q := 10) dX4_findings_7 (by decide) rfl ?_ ?_
    · refine gf_aload_n (i := 0) (q := 13) dX4_findings_12 rfl rfl rfl ?_
      refine gf_getA (C := RX4) (T := TX4) (N := 15) (ci := 4) (k := 0) (j := 10) (t := 34) (q := 16) dX4_findings_13 rfl rfl kin4 (by decide) kw137 rfl rfl ?_
      refine gf_iload_n (i := 1) (q := 17) dX4_findings_16 rfl rfl rfl ?_
      refine gf_iald (q := 18) dX4_findings_17 rfl ?_
      exact gf_reti dX4_findings_18 rfl
    · refine gf_iconst (q := 11) dX4_findings_10 ki_m1 rfl ?_
      exact gf_reti dX4_findings_11 rfl
theorem C_X4_findings (v1 : Int32) (u : XM) : CF YY 1 yX4_findings cX4_findings 2 (some .int) [.ref 0, .int v1] u emI (F_X4_findings v1 u) := cf_of (by decide +kernel) (Nat.le_of_ble_eq_true rfl) rfl (T_X4_findings v1 u)
def F_X4_digest_199 (k177 : Int64 → Int32 → XM → Option (Int64 × XM)) : Nat → Int64 → Int32 → Int32 → XM → Option (Int64 × XM)
  | 0, _, _, _, _ => none
  | n + 1, v1, v3, v4, u => (if ain YY 0 14 v3 = true then (if (mi u 14 (Int32.toNatClampNeg v3)) ≤ v4 then k177 v1 (v3 + 1) u else (if ain YY 4 9 v3 = true then (if ain YY 1 (10 + Int32.toNatClampNeg v3) v4 = true then F_X4_digest_199 k177 n ((31 * v1) + (Int32.toInt64 (mi u (10 + Int32.toNatClampNeg v3) (Int32.toNatClampNeg v4)))) v3 (v4 + 1) u else none) else none)) else none)
set_option maxRecDepth 20000 in
set_option maxHeartbeats 4000000 in
theorem T_X4_digest_199 (k177 : Int64 → Int32 → XM → Option (Int64 × XM)) (hk177 : ∀ (v1 : Int64) (v3 : Int32) (u : XM), GF E0 YY 4 yX4_digest cX4_digest 5 (some .long) 177 [some (.ref 0), some (.long v1), none, some (.int v3), none] [] u emL (k177 v1 v3 u)) : ∀ (n : Nat) (v1 : Int64) (v3 : Int32) (v4 : Int32) (u : XM), GF E0 YY 4 yX4_digest cX4_digest 5 (some .long) 199 [some (.ref 0), some (.long v1), none, some (.int v3), some (.int v4)] [] u emL (F_X4_digest_199 k177 n v1 v3 v4 u) := by
  intro n
  induction n with
  | zero => intro v1 v3 v4 u; exact gf_none
  | succ n ih =>
    intro v1 v3 v4 u
    unfold F_X4_digest_199
    refine gf_iload (q := 201) dX4_digest_199 rfl rfl ?_
    refine gf_aload_n (i := 0) (q := 202) dX4_digest_201 rfl rfl rfl ?_
    refine gf_getA (C := RX4) (T := TX4) (N := 15) (ci := 4) (k := 0) (j := 3) (t := 14) (q := 205) dX4_digest_202 rfl rfl kin4 (by decide) kw130 rfl rfl ?_
    refine gf_iload_n (i := 3) (q := 206) dX4_digest_205 rfl rfl rfl ?_
    refine gf_iald (q := 207) dX4_digest_206 rfl ?_
    refine gf_icmp_ge (t := 233) (q := 210) dX4_digest_207 (by decide) rfl ?_ ?_
    · refine gf_iinc (v := (v3 + 1)) (lv2 := [some (.ref 0), some (.long v1), none, some (.int (v3 + 1)), some (.int v4)]) (q := 236) dX4_digest_233 rfl (congrArg _ ki_1) (by decide) rfl rfl ?_
      refine gf_goto (q := 177) dX4_digest_236 (by decide) ?_
      exact gf_mask (b := [true, true, false, true, false]) rfl (hk177 v1 (v3 + 1) u)
    · refine gf_ldc2 (q := 213) dX4_digest_210 kw596 rfl ?_
      refine gf_lload_n (i := 1) (q := 214) dX4_digest_213 rfl rfl rfl ?_
      refine gf_lmul (q := 215) dX4_digest_214 rfl ?_
      refine gf_aload_n (i := 0) (q := 216) dX4_digest_215 rfl rfl rfl ?_
      refine gf_getA (C := RX4) (T := TX4) (N := 15) (ci := 4) (k := 0) (j := 2) (t := 9) (q := 219) dX4_digest_216 rfl rfl kin4 (by decide) kw129 rfl rfl ?_
      refine gf_iload_n (i := 3) (q := 220) dX4_digest_219 rfl rfl rfl ?_
      refine gf_aald4 (n := 4) (b := 10) (q := 221) dX4_digest_220 rfl rfl ?_
      refine gf_iload (q := 223) dX4_digest_221 rfl rfl ?_
      refine gf_bald (q := 224) dX4_digest_223 rfl ?_
      refine gf_i2l (q := 225) dX4_digest_224 rfl ?_
      refine gf_ladd (q := 226) dX4_digest_225 rfl ?_
      refine gf_lstore_n (i := 1) (lv2 := [some (.ref 0), some (.long ((31 * v1) + (Int32.toInt64 (mi u (10 + Int32.toNatClampNeg v3) (Int32.toNatClampNeg v4))))), none, some (.int v3), some (.int v4)]) (q := 227) dX4_digest_226 rfl (by decide) rfl rfl ?_
      refine gf_iinc (v := (v4 + 1)) (lv2 := [some (.ref 0), some (.long ((31 * v1) + (Int32.toInt64 (mi u (10 + Int32.toNatClampNeg v3) (Int32.toNatClampNeg v4))))), none, some (.int v3), some (.int (v4 + 1))]) (q := 230) dX4_digest_227 rfl (congrArg _ ki_1) (by decide) rfl rfl ?_
      refine gf_goto (q := 199) dX4_digest_230 (by decide) ?_
      exact (ih ((31 * v1) + (Int32.toInt64 (mi u (10 + Int32.toNatClampNeg v3) (Int32.toNatClampNeg v4)))) v3 (v4 + 1) u)
def F_X4_digest_177 : Nat → Int64 → Int32 → XM → Option (Int64 × XM)
  | 0, _, _, _ => none
  | n + 1, v1, v3, u => (if 4 ≤ v3 then some (v1, u) else (if ain YY 0 14 v3 = true then F_X4_digest_199 (F_X4_digest_177 n) FU ((31 * v1) + (Int32.toInt64 (mi u 14 (Int32.toNatClampNeg v3)))) v3 0 u else none))
set_option maxRecDepth 20000 in
set_option maxHeartbeats 4000000 in
theorem T_X4_digest_177 : ∀ (n : Nat) (v1 : Int64) (v3 : Int32) (u : XM), GF E0 YY 4 yX4_digest cX4_digest 5 (some .long) 177 [some (.ref 0), some (.long v1), none, some (.int v3), none] [] u emL (F_X4_digest_177 n v1 v3 u) := by
  intro n
  induction n with
  | zero => intro v1 v3 u; exact gf_none
  | succ n ih =>
    intro v1 v3 u
    unfold F_X4_digest_177
    refine gf_iload_n (i := 3) (q := 178) dX4_digest_177 rfl rfl rfl ?_
    refine gf_iconst (q := 179) dX4_digest_178 ki_4 rfl ?_
    refine gf_icmp_ge (t := 239) (q := 182) dX4_digest_179 (by decide) rfl ?_ ?_
    · refine gf_lload_n (i := 1) (q := 240) dX4_digest_239 rfl rfl rfl ?_
      exact gf_retl dX4_digest_240 rfl
    · refine gf_ldc2 (q := 185) dX4_digest_182 kw596 rfl ?_
      refine gf_lload_n (i := 1) (q := 186) dX4_digest_185 rfl rfl rfl ?_
      refine gf_lmul (q := 187) dX4_digest_186 rfl ?_
      refine gf_aload_n (i := 0) (q := 188) dX4_digest_187 rfl rfl rfl ?_
      refine gf_getA (C := RX4) (T := TX4) (N := 15) (ci := 4) (k := 0) (j := 3) (t := 14) (q := 191) dX4_digest_188 rfl rfl kin4 (by decide) kw130 rfl rfl ?_
      refine gf_iload_n (i := 3) (q := 192) dX4_digest_191 rfl rfl rfl ?_
      refine gf_iald (q := 193) dX4_digest_192 rfl ?_
      refine gf_i2l (q := 194) dX4_digest_193 rfl ?_
      refine gf_ladd (q := 195) dX4_digest_194 rfl ?_
      refine gf_lstore_n (i := 1) (lv2 := [some (.ref 0), some (.long ((31 * v1) + (Int32.toInt64 (mi u 14 (Int32.toNatClampNeg v3))))), none, some (.int v3), none]) (q := 196) dX4_digest_195 rfl (by decide) rfl rfl ?_
      refine gf_iconst (q := 197) dX4_digest_196 ki_0 rfl ?_
      refine gf_istore (lv2 := [some (.ref 0), some (.long ((31 * v1) + (Int32.toInt64 (mi u 14 (Int32.toNatClampNeg v3))))), none, some (.int v3), some (.int 0)]) (q := 199) dX4_digest_197 (by decide) rfl rfl ?_
      exact (T_X4_digest_199 (F_X4_digest_177 n) ih FU ((31 * v1) + (Int32.toInt64 (mi u 14 (Int32.toNatClampNeg v3)))) v3 0 u)
def F_X4_digest_135 (k112 : Int64 → Int32 → XM → Option (Int64 × XM)) : Nat → Int64 → Int32 → Int32 → XM → Option (Int64 × XM)
  | 0, _, _, _, _ => none
  | n + 1, v1, v3, v4, u => (if ain YY 0 8 v3 = true then (if (mi u 8 (Int32.toNatClampNeg v3)) ≤ v4 then k112 v1 (v3 + 1) u else (if ain YY 3 1 v3 = true then (if ain YY 0 (2 + Int32.toNatClampNeg v3) v4 = true then F_X4_digest_135 k112 n ((31 * v1) + (Int32.toInt64 (mi u (2 + Int32.toNatClampNeg v3) (Int32.toNatClampNeg v4)))) v3 (v4 + 1) u else none) else none)) else none)
set_option maxRecDepth 20000 in
set_option maxHeartbeats 4000000 in
theorem T_X4_digest_135 (k112 : Int64 → Int32 → XM → Option (Int64 × XM)) (hk112 : ∀ (v1 : Int64) (v3 : Int32) (u : XM), GF E0 YY 4 yX4_digest cX4_digest 5 (some .long) 112 [some (.ref 0), some (.long v1), none, some (.int v3), none] [] u emL (k112 v1 v3 u)) : ∀ (n : Nat) (v1 : Int64) (v3 : Int32) (v4 : Int32) (u : XM), GF E0 YY 4 yX4_digest cX4_digest 5 (some .long) 135 [some (.ref 0), some (.long v1), none, some (.int v3), some (.int v4)] [] u emL (F_X4_digest_135 k112 n v1 v3 v4 u) := by
  intro n
  induction n with
  | zero => intro v1 v3 v4 u; exact gf_none
  | succ n ih =>
    intro v1 v3 v4 u
    unfold F_X4_digest_135
    refine gf_iload (q := 137) dX4_digest_135 rfl rfl ?_
    refine gf_aload_n (i := 0) (q := 138) dX4_digest_137 rfl rfl rfl ?_
    refine gf_getA (C := RX4) (T := TX4) (N := 15) (ci := 4) (k := 0) (j := 1) (t := 8) (q := 141) dX4_digest_138 rfl rfl kin4 (by decide) kw128 rfl rfl ?_
    refine gf_iload_n (i := 3) (q := 142) dX4_digest_141 rfl rfl rfl ?_
    refine gf_iald (q := 143) dX4_digest_142 rfl ?_
    refine gf_icmp_ge (t := 169) (q := 146) dX4_digest_143 (by decide) rfl ?_ ?_
    · refine gf_iinc (v := (v3 + 1)) (lv2 := [some (.ref 0), some (.long v1), none, some (.int (v3 + 1)), some (.int v4)]) (q := 172) dX4_digest_169 rfl (congrArg _ ki_1) (by decide) rfl rfl ?_
      refine gf_goto (q := 112) dX4_digest_172 (by decide) ?_
      exact gf_mask (b := [true, true, false, true, false]) rfl (hk112 v1 (v3 + 1) u)
    · refine gf_ldc2 (q := 149) dX4_digest_146 kw596 rfl ?_
      refine gf_lload_n (i := 1) (q := 150) dX4_digest_149 rfl rfl rfl ?_
      refine gf_lmul (q := 151) dX4_digest_150 rfl ?_
      refine gf_aload_n (i := 0) (q := 152) dX4_digest_151 rfl rfl rfl ?_
      refine gf_getA (C := RX4) (T := TX4) (N := 15) (ci := 4) (k := 0) (j := 0) (t := 1) (q := 155) dX4_digest_152 rfl rfl kin4 (by decide) kw127 rfl rfl ?_
      refine gf_iload_n (i := 3) (q := 156) dX4_digest_155 rfl rfl rfl ?_
      refine gf_aald3 (n := 6) (b := 2) (q := 157) dX4_digest_156 rfl rfl ?_
      refine gf_iload (q := 159) dX4_digest_157 rfl rfl ?_
      refine gf_iald (q := 160) dX4_digest_159 rfl ?_
      refine gf_i2l (q := 161) dX4_digest_160 rfl ?_
      refine gf_ladd (q := 162) dX4_digest_161 rfl ?_
      refine gf_lstore_n (i := 1) (lv2 := [some (.ref 0), some (.long ((31 * v1) + (Int32.toInt64 (mi u (2 + Int32.toNatClampNeg v3) (Int32.toNatClampNeg v4))))), none, some (.int v3), some (.int v4)]) (q := 163) dX4_digest_162 rfl (by decide) rfl rfl ?_
      refine gf_iinc (v := (v4 + 1)) (lv2 := [some (.ref 0), some (.long ((31 * v1) + (Int32.toInt64 (mi u (2 + Int32.toNatClampNeg v3) (Int32.toNatClampNeg v4))))), none, some (.int v3), some (.int (v4 + 1))]) (q := 166) dX4_digest_163 rfl (congrArg _ ki_1) (by decide) rfl rfl ?_
      refine gf_goto (q := 135) dX4_digest_166 (by decide) ?_
      exact (ih ((31 * v1) + (Int32.toInt64 (mi u (2 + Int32.toNatClampNeg v3) (Int32.toNatClampNeg v4)))) v3 (v4 + 1) u)
def F_X4_digest_112 : Nat → Int64 → Int32 → XM → Option (Int64 × XM)
  | 0, _, _, _ => none
  | n + 1, v1, v3, u => (if 6 ≤ v3 then F_X4_digest_177 FU v1 0 u else (if ain YY 0 8 v3 = true then F_X4_digest_135 (F_X4_digest_112 n) FU ((31 * v1) + (Int32.toInt64 (mi u 8 (Int32.toNatClampNeg v3)))) v3 0 u else none))
set_option maxRecDepth 20000 in
set_option maxHeartbeats 4000000 in
theorem T_X4_digest_112 : ∀ (n : Nat) (v1 : Int64) (v3 : Int32) (u : XM), GF E0 YY 4 yX4_digest cX4_digest 5 (some .long) 112 [some (.ref 0), some (.long v1), none, some (.int v3), none] [] u emL (F_X4_digest_112 n v1 v3 u) := by
  intro n
  induction n with
  | zero => intro v1 v3 u; exact gf_none
  | succ n ih =>
    intro v1 v3 u
    unfold F_X4_digest_112
    refine gf_iload_n (i := 3) (q := 113) dX4_digest_112 rfl rfl rfl ?_
    refine gf_bipush (q := 115) dX4_digest_113 kb_6 rfl ?_
    refine gf_icmp_ge (t := 175) (q := 118) dX4_digest_115 (by decide) rfl ?_ ?_
    · refine gf_iconst (q := 176) dX4_digest_175 ki_0 rfl ?_
      refine gf_istore_n (i := 3) (lv2 := [some (.ref 0), some (.long v1), none, some (.int 0), none]) (q := 177) dX4_digest_176 rfl (by decide) rfl rfl ?_
      exact (T_X4_digest_177 FU v1 0 u)
    · refine gf_ldc2 (q := 121) dX4_digest_118 kw596 rfl ?_
      refine gf_lload_n (i := 1) (q := 122) dX4_digest_121 rfl rfl rfl ?_
      refine gf_lmul (q := 123) dX4_digest_122 rfl ?_
      refine gf_aload_n (i := 0) (q := 124) dX4_digest_123 rfl rfl rfl ?_
      refine gf_getA (C := RX4) (T := TX4) (N := 15) (ci := 4) (k := 0) (j := 1) (t := 8) (q := 127) dX4_digest_124 rfl rfl kin4 (by decide) kw128 rfl rfl ?_
      refine gf_iload_n (i := 3) (q := 128) dX4_digest_127 rfl rfl rfl ?_
      refine gf_iald (q := 129) dX4_digest_128 rfl ?_
      refine gf_i2l (q := 130) dX4_digest_129 rfl ?_
      refine gf_ladd (q := 131) dX4_digest_130 rfl ?_
      refine gf_lstore_n (i := 1) (lv2 := [some (.ref 0), some (.long ((31 * v1) + (Int32.toInt64 (mi u 8 (Int32.toNatClampNeg v3))))), none, some (.int v3), none]) (q := 132) dX4_digest_131 rfl (by decide) rfl rfl ?_
      refine gf_iconst (q := 133) dX4_digest_132 ki_0 rfl ?_
      refine gf_istore (lv2 := [some (.ref 0), some (.long ((31 * v1) + (Int32.toInt64 (mi u 8 (Int32.toNatClampNeg v3))))), none, some (.int v3), some (.int 0)]) (q := 135) dX4_digest_133 (by decide) rfl rfl ?_
      exact (T_X4_digest_135 (F_X4_digest_112 n) ih FU ((31 * v1) + (Int32.toInt64 (mi u 8 (Int32.toNatClampNeg v3)))) v3 0 u)
def F_X4_digest_85 : Nat → Int64 → Int32 → XM → Option (Int64 × XM)
  | 0, _, _, _ => none
  | n + 1, v1, v3, u => (if 3 ≤ v3 then F_X4_digest_112 FU v1 0 u else (if ain YY 0 19 v3 = true then F_X4_digest_85 n ((31 * v1) + (Int32.toInt64 (mi u 19 (Int32.toNatClampNeg v3)))) (v3 + 1) u else none))
set_option maxRecDepth 20000 in
set_option maxHeartbeats 4000000 in
theorem T_X4_digest_85 : ∀ (n : Nat) (v1 : Int64) (v3 : Int32) (u : XM), GF E0 YY 4 yX4_digest cX4_digest 5 (some .long) 85 [some (.ref 0), some (.long v1), none, some (.int v3), none] [] u emL (F_X4_digest_85 n v1 v3 u) := by
  intro n
  induction n with
  | zero => intro v1 v3 u; exact gf_none
  | succ n ih =>
    intro v1 v3 u
    unfold F_X4_digest_85
    refine gf_iload_n (i := 3) (q := 86) dX4_digest_85 rfl rfl rfl ?_
    refine gf_iconst (q := 87) dX4_digest_86 ki_3 rfl ?_
    refine gf_icmp_ge (t := 110) (q := 90) dX4_digest_87 (by decide) rfl ?_ ?_
    · refine gf_iconst (q := 111) dX4_digest_110 ki_0 rfl ?_
      refine gf_istore_n (i := 3) (lv2 := [some (.ref 0), some (.long v1), none, some (.int 0), none]) (q := 112) dX4_digest_111 rfl (by decide) rfl rfl ?_
      exact (T_X4_digest_112 FU v1 0 u)
    · refine gf_ldc2 (q := 93) dX4_digest_90 kw596 rfl ?_
      refine gf_lload_n (i := 1) (q := 94) dX4_digest_93 rfl rfl rfl ?_
      refine gf_lmul (q := 95) dX4_digest_94 rfl ?_
      refine gf_aload_n (i := 0) (q := 96) dX4_digest_95 rfl rfl rfl ?_
      refine gf_getA (C := RX4) (T := TX4) (N := 15) (ci := 4) (k := 0) (j := 5) (t := 19) (q := 99) dX4_digest_96 rfl rfl kin4 (by decide) kw132 rfl rfl ?_
      refine gf_iload_n (i := 3) (q := 100) dX4_digest_99 rfl rfl rfl ?_
      refine gf_iald (q := 101) dX4_digest_100 rfl ?_
      refine gf_i2l (q := 102) dX4_digest_101 rfl ?_
      refine gf_ladd (q := 103) dX4_digest_102 rfl ?_
      refine gf_lstore_n (i := 1) (lv2 := [some (.ref 0), some (.long ((31 * v1) + (Int32.toInt64 (mi u 19 (Int32.toNatClampNeg v3))))), none, some (.int v3), none]) (q := 104) dX4_digest_103 rfl (by decide) rfl rfl ?_
      refine gf_iinc (v := (v3 + 1)) (lv2 := [some (.ref 0), some (.long ((31 * v1) + (Int32.toInt64 (mi u 19 (Int32.toNatClampNeg v3))))), none, some (.int (v3 + 1)), none]) (q := 107) dX4_digest_104 rfl (congrArg _ ki_1) (by decide) rfl rfl ?_
      refine gf_goto (q := 85) dX4_digest_107 (by decide) ?_
      exact (ih ((31 * v1) + (Int32.toInt64 (mi u 19 (Int32.toNatClampNeg v3)))) (v3 + 1) u)
def F_X4_digest_47 (k33 : Int64 → Int32 → XM → Option (Int64 × XM)) : Nat → Int64 → Int32 → Int32 → XM → Option (Int64 × XM)
  | 0, _, _, _, _ => none
  | n + 1, v1, v3, v4, u => (if 5 ≤ v4 then k33 v1 (v3 + 1) u else (Option.bind (F_X0_fact v3 v4 u) (fun x1 => F_X4_digest_47 k33 n ((31 * v1) + (Int32.toInt64 x1.1)) v3 (v4 + 1) x1.2)))
set_option maxRecDepth 20000 in
set_option maxHeartbeats 4000000 in
theorem T_X4_digest_47 (k33 : Int64 → Int32 → XM → Option (Int64 × XM)) (hk33 : ∀ (v1 : Int64) (v3 : Int32) (u : XM), GF E0 YY 4 yX4_digest cX4_digest 5 (some .long) 33 [some (.ref 0), some (.long v1), none, some (.int v3), none] [] u emL (k33 v1 v3 u)) : ∀ (n : Nat) (v1 : Int64) (v3 : Int32) (v4 : Int32) (u : XM), GF E0 YY 4 yX4_digest cX4_digest 5 (some .long) 47 [some (.ref 0), some (.long v1), none, some (.int v3), some (.int v4)] [] u emL (F_X4_digest_47 k33 n v1 v3 v4 u) := by
  intro n
  induction n with
  | zero => intro v1 v3 v4 u; exact gf_none
  | succ n ih =>
    intro v1 v3 v4 u
    unfold F_X4_digest_47
    refine gf_iload (q := 49) dX4_digest_47 rfl rfl ?_
    refine gf_iconst (q := 50) dX4_digest_49 ki_5 rfl ?_
    refine gf_icmp_ge (t := 77) (q := 53) dX4_digest_50 (by decide) rfl ?_ ?_
    · refine gf_iinc (v := (v3 + 1)) (lv2 := [some (.ref 0), some (.long v1), none, some (.int (v3 + 1)), some (.int v4)]) (q := 80) dX4_digest_77 rfl (congrArg _ ki_1) (by decide) rfl rfl ?_
      refine gf_goto (q := 33) dX4_digest_80 (by decide) ?_
      exact gf_mask (b := [true, true, false, true, false]) rfl (hk33 v1 (v3 + 1) u)
    · refine gf_ldc2 (q := 56) dX4_digest_53 kw596 rfl ?_
      refine gf_lload_n (i := 1) (q := 57) dX4_digest_56 rfl rfl rfl ?_
      refine gf_lmul (q := 58) dX4_digest_57 rfl ?_
      refine gf_aload_n (i := 0) (q := 59) dX4_digest_58 rfl rfl rfl ?_
      refine gf_getA (C := RX4) (T := TX4) (N := 15) (ci := 4) (k := 0) (j := 7) (t := 22) (q := 62) dX4_digest_59 rfl rfl kin4 (by decide) kw134 rfl rfl ?_
      refine gf_iload_n (i := 3) (q := 63) dX4_digest_62 rfl rfl rfl ?_
      refine gf_iload (q := 65) dX4_digest_63 rfl rfl ?_
      refine gf_callV_i (n2 := 2) (As := [.int v3, .int v4]) (st := [.long (31 * v1)]) (b := 22) (ci := 0) (C := RX0) (q := 68) (hlen := rfl) rfl rfl kw304 kw305 kw306 dX4_digest_65 kw307 kw3 (by decide +kernel) (by decide) (Nat.le_of_ble_eq_true rfl) (C_X0_fact v3 v4 u) rfl rfl (fun x1 => ?_)
      refine gf_i2l (q := 69) dX4_digest_68 rfl ?_
      refine gf_ladd (q := 70) dX4_digest_69 rfl ?_
      refine gf_lstore_n (i := 1) (lv2 := [some (.ref 0), some (.long ((31 * v1) + (Int32.toInt64 x1.1))), none, some (.int v3), some (.int v4)]) (q := 71) dX4_digest_70 rfl (by decide) rfl rfl ?_
      refine gf_iinc (v := (v4 + 1)) (lv2 := [some (.ref 0), some (.long ((31 * v1) + (Int32.toInt64 x1.1))), none, some (.int v3), some (.int (v4 + 1))]) (q := 74) dX4_digest_71 rfl (congrArg _ ki_1) (by decide) rfl rfl ?_
      refine gf_goto (q := 47) dX4_digest_74 (by decide) ?_
      exact (ih ((31 * v1) + (Int32.toInt64 x1.1)) v3 (v4 + 1) x1.2)
def F_X4_digest_33 : Nat → Int64 → Int32 → XM → Option (Int64 × XM)
  | 0, _, _, _ => none
  | n + 1, v1, v3, u => (if (mi u 22 6) ≤ v3 then F_X4_digest_85 FU v1 0 u else F_X4_digest_47 (F_X4_digest_33 n) FU v1 v3 0 u)
set_option maxRecDepth 20000 in
set_option maxHeartbeats 4000000 in
theorem T_X4_digest_33 : ∀ (n : Nat) (v1 : Int64) (v3 : Int32) (u : XM), GF E0 YY 4 yX4_digest cX4_digest 5 (some .long) 33 [some (.ref 0), some (.long v1), none, some (.int v3), none] [] u emL (F_X4_digest_33 n v1 v3 u) := by
  intro n
  induction n with
  | zero => intro v1 v3 u; exact gf_none
  | succ n ih =>
    intro v1 v3 u
    unfold F_X4_digest_33
    refine gf_iload_n (i := 3) (q := 34) dX4_digest_33 rfl rfl rfl ?_
    refine gf_aload_n (i := 0) (q := 35) dX4_digest_34 rfl rfl rfl ?_
    refine gf_getA (C := RX4) (T := TX4) (N := 15) (ci := 4) (k := 0) (j := 7) (t := 22) (q := 38) dX4_digest_35 rfl rfl kin4 (by decide) kw134 rfl rfl ?_
    refine gf_getI (C := RX0) (T := TX0) (N := 12) (ci := 0) (k := 22) (j := 6) (q := 41) dX4_digest_38 rfl rfl kin0 (by decide) kw61 rfl rfl ?_
    refine gf_icmp_ge (t := 83) (q := 44) dX4_digest_41 (by decide) rfl ?_ ?_
    · refine gf_iconst (q := 84) dX4_digest_83 ki_0 rfl ?_
      refine gf_istore_n (i := 3) (lv2 := [some (.ref 0), some (.long v1), none, some (.int 0), none]) (q := 85) dX4_digest_84 rfl (by decide) rfl rfl ?_
      exact (T_X4_digest_85 FU v1 0 u)
    · refine gf_iconst (q := 45) dX4_digest_44 ki_0 rfl ?_
      refine gf_istore (lv2 := [some (.ref 0), some (.long v1), none, some (.int v3), some (.int 0)]) (q := 47) dX4_digest_45 (by decide) rfl rfl ?_
      exact (T_X4_digest_47 (F_X4_digest_33 n) ih FU v1 v3 0 u)
def F_X4_digest_6 : Nat → Int64 → Int32 → XM → Option (Int64 × XM)
  | 0, _, _, _ => none
  | n + 1, v1, v3, u => (if 11 ≤ v3 then F_X4_digest_33 FU v1 0 u else (Option.bind (F_X4_count v3 u) (fun x2 => F_X4_digest_6 n ((31 * v1) + (Int32.toInt64 x2.1)) (v3 + 1) x2.2)))
set_option maxRecDepth 20000 in
set_option maxHeartbeats 4000000 in
theorem T_X4_digest_6 : ∀ (n : Nat) (v1 : Int64) (v3 : Int32) (u : XM), GF E0 YY 4 yX4_digest cX4_digest 5 (some .long) 6 [some (.ref 0), some (.long v1), none, some (.int v3), none] [] u emL (F_X4_digest_6 n v1 v3 u) := by
  intro n
  induction n with
  | zero => intro v1 v3 u; exact gf_none
  | succ n ih =>
    intro v1 v3 u
    unfold F_X4_digest_6
    refine gf_iload_n (i := 3) (q := 7) dX4_digest_6 rfl rfl rfl ?_
    refine gf_bipush (q := 9) dX4_digest_7 kb_11 rfl ?_
    refine gf_icmp_ge (t := 31) (q := 12) dX4_digest_9 (by decide) rfl ?_ ?_
    · refine gf_iconst (q := 32) dX4_digest_31 ki_0 rfl ?_
      refine gf_istore_n (i := 3) (lv2 := [some (.ref 0), some (.long v1), none, some (.int 0), none]) (q := 33) dX4_digest_32 rfl (by decide) rfl rfl ?_
      exact (T_X4_digest_33 FU v1 0 u)
    · refine gf_ldc2 (q := 15) dX4_digest_12 kw596 rfl ?_
      refine gf_lload_n (i := 1) (q := 16) dX4_digest_15 rfl rfl rfl ?_
      refine gf_lmul (q := 17) dX4_digest_16 rfl ?_
      refine gf_aload_n (i := 0) (q := 18) dX4_digest_17 rfl rfl rfl ?_
      refine gf_iload_n (i := 3) (q := 19) dX4_digest_18 rfl rfl rfl ?_
      refine gf_callV_i (n2 := 1) (As := [.int v3]) (st := [.long (31 * v1)]) (b := 0) (ci := 4) (C := RX4) (q := 22) (hlen := rfl) rfl rfl kw597 kw572 kw573 dX4_digest_19 kw574 kw1 (by decide +kernel) (by decide) (Nat.le_of_ble_eq_true rfl) (C_X4_count v3 u) rfl rfl (fun x2 => ?_)
      refine gf_i2l (q := 23) dX4_digest_22 rfl ?_
      refine gf_ladd (q := 24) dX4_digest_23 rfl ?_
      refine gf_lstore_n (i := 1) (lv2 := [some (.ref 0), some (.long ((31 * v1) + (Int32.toInt64 x2.1))), none, some (.int v3), none]) (q := 25) dX4_digest_24 rfl (by decide) rfl rfl ?_
      refine gf_iinc (v := (v3 + 1)) (lv2 := [some (.ref 0), some (.long ((31 * v1) + (Int32.toInt64 x2.1))), none, some (.int (v3 + 1)), none]) (q := 28) dX4_digest_25 rfl (congrArg _ ki_1) (by decide) rfl rfl ?_
      refine gf_goto (q := 6) dX4_digest_28 (by decide) ?_
      exact (ih ((31 * v1) + (Int32.toInt64 x2.1)) (v3 + 1) x2.2)
def F_X4_digest  (u : XM) : Option (Int64 × XM) := F_X4_digest_6 FU 17 0 u
set_option maxRecDepth 20000 in
set_option maxHeartbeats 4000000 in
theorem T_X4_digest  (u : XM) : GF E0 YY 4 yX4_digest cX4_digest 5 (some .long) 0 [some (.ref 0), none, none, none, none] [] u emL (F_X4_digest u) := by
  unfold F_X4_digest
  refine gf_ldc2 (q := 3) dX4_digest_0 kw595 rfl ?_
  refine gf_lstore_n (i := 1) (lv2 := [some (.ref 0), some (.long 17), none, none, none]) (q := 4) dX4_digest_3 rfl (by decide) rfl rfl ?_
  refine gf_iconst (q := 5) dX4_digest_4 ki_0 rfl ?_
  refine gf_istore_n (i := 3) (lv2 := [some (.ref 0), some (.long 17), none, some (.int 0), none]) (q := 6) dX4_digest_5 rfl (by decide) rfl rfl ?_
  exact (T_X4_digest_6 FU 17 0 u)
theorem C_X4_digest  (u : XM) : CF YY 4 yX4_digest cX4_digest 5 (some .long) [.ref 0] u emL (F_X4_digest u) := cf_of (by decide +kernel) (Nat.le_of_ble_eq_true rfl) rfl (T_X4_digest u)
