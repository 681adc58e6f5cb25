def F_J9_max_7cf53 (Y : List XS) (v0 : Int32) (v1 : Int32) (u : XM) : Option (Int32 × XM) := (if v0 < v1 then some (v1, u) else some (v0, u))
set_option maxRecDepth 20000 in
set_option maxHeartbeats 4000000 in
theorem T_J9_max_7cf53 (Y : List XS) (v0 : Int32) (v1 : Int32) (u : XM) : GF E0 Y 1 yJ9_max_7cf53 cJ9_max_7cf53 2 (some .int) 0 [some (.int v0), some (.int v1)] [] u emI (F_J9_max_7cf53 Y v0 v1 u) := by
  unfold F_J9_max_7cf53
  refine gf_iload_n (i := 0) (q := 1) dJ9_max_7cf53_0 rfl rfl rfl ?_
  refine gf_iload_n (i := 1) (q := 2) dJ9_max_7cf53_1 rfl rfl rfl ?_
  refine gf_icmp_lt (t := 9) (q := 5) dJ9_max_7cf53_2 (by decide) rfl ?_ ?_
  · refine gf_iload_n (i := 1) (q := 10) dJ9_max_7cf53_9 rfl rfl rfl ?_
    exact gf_reti dJ9_max_7cf53_10 rfl
  · refine gf_iload_n (i := 0) (q := 6) dJ9_max_7cf53_5 rfl rfl rfl ?_
    refine gf_goto (q := 10) dJ9_max_7cf53_6 (by decide) ?_
    exact gf_reti dJ9_max_7cf53_10 rfl
theorem C_J9_max_7cf53 (Y : List XS) (v0 : Int32) (v1 : Int32) (u : XM) : CF Y 1 yJ9_max_7cf53 cJ9_max_7cf53 2 (some .int) [.int v0, .int v1] u emI (F_J9_max_7cf53 Y v0 v1 u) := cf_of (by decide +kernel) (Nat.le_of_ble_eq_true rfl) rfl (T_J9_max_7cf53 Y v0 v1 u)
def F_J9_min_7cf53 (Y : List XS) (v0 : Int32) (v1 : Int32) (u : XM) : Option (Int32 × XM) := (if v1 < v0 then some (v1, u) else some (v0, u))
set_option maxRecDepth 20000 in
set_option maxHeartbeats 4000000 in
theorem T_J9_min_7cf53 (Y : List XS) (v0 : Int32) (v1 : Int32) (u : XM) : GF E0 Y 1 yJ9_min_7cf53 cJ9_min_7cf53 2 (some .int) 0 [some (.int v0), some (.int v1)] [] u emI (F_J9_min_7cf53 Y v0 v1 u) := by
  unfold F_J9_min_7cf53
  refine gf_iload_n (i := 0) (q := 1) dJ9_min_7cf53_0 rfl rfl rfl ?_
  refine gf_iload_n (i := 1) (q := 2) dJ9_min_7cf53_1 rfl rfl rfl ?_
  refine gf_icmp_gt (t := 9) (q := 5) dJ9_min_7cf53_2 (by decide) rfl ?_ ?_
  · refine gf_iload_n (i := 1) (q := 10) dJ9_min_7cf53_9 rfl rfl rfl ?_
    exact gf_reti dJ9_min_7cf53_10 rfl
  · refine gf_iload_n (i := 0) (q := 6) dJ9_min_7cf53_5 rfl rfl rfl ?_
    refine gf_goto (q := 10) dJ9_min_7cf53_6 (by decide) ?_
    exact gf_reti dJ9_min_7cf53_10 rfl
theorem C_J9_min_7cf53 (Y : List XS) (v0 : Int32) (v1 : Int32) (u : XM) : CF Y 1 yJ9_min_7cf53 cJ9_min_7cf53 2 (some .int) [.int v0, .int v1] u emI (F_J9_min_7cf53 Y v0 v1 u) := cf_of (by decide +kernel) (Nat.le_of_ble_eq_true rfl) rfl (T_J9_min_7cf53 Y v0 v1 u)
def F_J6_numberOfTrailingZeros_0f7a4_74 (Y : List XS) (v0 : Int32) (v1 : Int32) (u : XM) : Option (Int32 × XM) := some ((v1 + ((Int32.toUInt32 v0 >>> (Int32.toUInt32 1 &&& Int32.toUInt32 31)).toInt32)), u)
set_option maxRecDepth 20000 in
set_option maxHeartbeats 4000000 in
theorem T_J6_numberOfTrailingZeros_0f7a4_74 (Y : List XS) (v0 : Int32) (v1 : Int32) (u : XM) : GF E0 Y 1 yJ6_numberOfTrailingZeros_0f7a4 cJ6_numberOfTrailingZeros_0f7a4 2 (some .int) 74 [some (.int v0), some (.int v1)] [] u emI (F_J6_numberOfTrailingZeros_0f7a4_74 Y v0 v1 u) := by
  unfold F_J6_numberOfTrailingZeros_0f7a4_74
  refine gf_iload_n (i := 1) (q := 75) dJ6_numberOfTrailingZeros_0f7a4_74 rfl rfl rfl ?_
  refine gf_iload_n (i := 0) (q := 76) dJ6_numberOfTrailingZeros_0f7a4_75 rfl rfl rfl ?_
  refine gf_iconst (q := 77) dJ6_numberOfTrailingZeros_0f7a4_76 ki_1 rfl ?_
  refine gf_iushr (q := 78) dJ6_numberOfTrailingZeros_0f7a4_77 rfl ?_
  refine gf_iadd (q := 79) dJ6_numberOfTrailingZeros_0f7a4_78 rfl ?_
  exact gf_reti dJ6_numberOfTrailingZeros_0f7a4_79 rfl
def F_J6_numberOfTrailingZeros_0f7a4_62 (Y : List XS) (v0 : Int32) (v1 : Int32) (u : XM) : Option (Int32 × XM) := (if v0 ≤ 4 then F_J6_numberOfTrailingZeros_0f7a4_74 Y v0 v1 u else F_J6_numberOfTrailingZeros_0f7a4_74 Y ((Int32.toUInt32 v0 >>> (Int32.toUInt32 2 &&& Int32.toUInt32 31)).toInt32) (v1 + 2) u)
set_option maxRecDepth 20000 in
set_option maxHeartbeats 4000000 in
theorem T_J6_numberOfTrailingZeros_0f7a4_62 (Y : List XS) (v0 : Int32) (v1 : Int32) (u : XM) : GF E0 Y 1 yJ6_numberOfTrailingZeros_0f7a4 cJ6_numberOfTrailingZeros_0f7a4 2 (some .int) 62 [some (.int v0), some (.int v1)] [] u emI (F_J6_numberOfTrailingZeros_0f7a4_62 Y v0 v1 u) := by
  unfold F_J6_numberOfTrailingZeros_0f7a4_62
  refine gf_iload_n (i := 0) (q := 63) dJ6_numberOfTrailingZeros_0f7a4_62 rfl rfl rfl ?_
  refine gf_iconst (q := 64) dJ6_numberOfTrailingZeros_0f7a4_63 ki_4 rfl ?_
  refine gf_icmp_le (t := 74) (q := 67) dJ6_numberOfTrailingZeros_0f7a4_64 (by decide) rfl ?_ ?_
  · exact (T_J6_numberOfTrailingZeros_0f7a4_74 Y v0 v1 u)
  · refine gf_iinc (v := (v1 + 2)) (lv2 := [some (.int v0), some (.int (v1 + 2))]) (q := 70) dJ6_numberOfTrailingZeros_0f7a4_67 rfl (congrArg _ ki_2) (by decide) rfl rfl ?_
    refine gf_iload_n (i := 0) (q := 71) dJ6_numberOfTrailingZeros_0f7a4_70 rfl rfl rfl ?_
    refine gf_iconst (q := 72) dJ6_numberOfTrailingZeros_0f7a4_71 ki_2 rfl ?_
    refine gf_iushr (q := 73) dJ6_numberOfTrailingZeros_0f7a4_72 rfl ?_
    refine gf_istore_n (i := 0) (lv2 := [some (.int ((Int32.toUInt32 v0 >>> (Int32.toUInt32 2 &&& Int32.toUInt32 31)).toInt32)), some (.int (v1 + 2))]) (q := 74) dJ6_numberOfTrailingZeros_0f7a4_73 rfl (by decide) rfl rfl ?_
    exact (T_J6_numberOfTrailingZeros_0f7a4_74 Y ((Int32.toUInt32 v0 >>> (Int32.toUInt32 2 &&& Int32.toUInt32 31)).toInt32) (v1 + 2) u)
def F_J6_numberOfTrailingZeros_0f7a4_49 (Y : List XS) (v0 : Int32) (v1 : Int32) (u : XM) : Option (Int32 × XM) := (if v0 ≤ 16 then F_J6_numberOfTrailingZeros_0f7a4_62 Y v0 v1 u else F_J6_numberOfTrailingZeros_0f7a4_62 Y ((Int32.toUInt32 v0 >>> (Int32.toUInt32 4 &&& Int32.toUInt32 31)).toInt32) (v1 + 4) u)
set_option maxRecDepth 20000 in
set_option maxHeartbeats 4000000 in
theorem T_J6_numberOfTrailingZeros_0f7a4_49 (Y : List XS) (v0 : Int32) (v1 : Int32) (u : XM) : GF E0 Y 1 yJ6_numberOfTrailingZeros_0f7a4 cJ6_numberOfTrailingZeros_0f7a4 2 (some .int) 49 [some (.int v0), some (.int v1)] [] u emI (F_J6_numberOfTrailingZeros_0f7a4_49 Y v0 v1 u) := by
  unfold F_J6_numberOfTrailingZeros_0f7a4_49
  refine gf_iload_n (i := 0) (q := 50) dJ6_numberOfTrailingZeros_0f7a4_49 rfl rfl rfl ?_
  refine gf_bipush (q := 52) dJ6_numberOfTrailingZeros_0f7a4_50 kb_16 rfl ?_
  refine gf_icmp_le (t := 62) (q := 55) dJ6_numberOfTrailingZeros_0f7a4_52 (by decide) rfl ?_ ?_
  · exact (T_J6_numberOfTrailingZeros_0f7a4_62 Y v0 v1 u)
  · refine gf_iinc (v := (v1 + 4)) (lv2 := [some (.int v0), some (.int (v1 + 4))]) (q := 58) dJ6_numberOfTrailingZeros_0f7a4_55 rfl (congrArg _ ki_4) (by decide) rfl rfl ?_
    refine gf_iload_n (i := 0) (q := 59) dJ6_numberOfTrailingZeros_0f7a4_58 rfl rfl rfl ?_
    refine gf_iconst (q := 60) dJ6_numberOfTrailingZeros_0f7a4_59 ki_4 rfl ?_
    refine gf_iushr (q := 61) dJ6_numberOfTrailingZeros_0f7a4_60 rfl ?_
    refine gf_istore_n (i := 0) (lv2 := [some (.int ((Int32.toUInt32 v0 >>> (Int32.toUInt32 4 &&& Int32.toUInt32 31)).toInt32)), some (.int (v1 + 4))]) (q := 62) dJ6_numberOfTrailingZeros_0f7a4_61 rfl (by decide) rfl rfl ?_
    exact (T_J6_numberOfTrailingZeros_0f7a4_62 Y ((Int32.toUInt32 v0 >>> (Int32.toUInt32 4 &&& Int32.toUInt32 31)).toInt32) (v1 + 4) u)
def F_J6_numberOfTrailingZeros_0f7a4_34 (Y : List XS) (v0 : Int32) (v1 : Int32) (u : XM) : Option (Int32 × XM) := (if v0 ≤ 256 then F_J6_numberOfTrailingZeros_0f7a4_49 Y v0 v1 u else F_J6_numberOfTrailingZeros_0f7a4_49 Y ((Int32.toUInt32 v0 >>> (Int32.toUInt32 8 &&& Int32.toUInt32 31)).toInt32) (v1 + 8) u)
set_option maxRecDepth 20000 in
set_option maxHeartbeats 4000000 in
theorem T_J6_numberOfTrailingZeros_0f7a4_34 (Y : List XS) (v0 : Int32) (v1 : Int32) (u : XM) : GF E0 Y 1 yJ6_numberOfTrailingZeros_0f7a4 cJ6_numberOfTrailingZeros_0f7a4 2 (some .int) 34 [some (.int v0), some (.int v1)] [] u emI (F_J6_numberOfTrailingZeros_0f7a4_34 Y v0 v1 u) := by
  unfold F_J6_numberOfTrailingZeros_0f7a4_34
  refine gf_iload_n (i := 0) (q := 35) dJ6_numberOfTrailingZeros_0f7a4_34 rfl rfl rfl ?_
  refine gf_sipush (q := 38) dJ6_numberOfTrailingZeros_0f7a4_35 ks_256 rfl ?_
  refine gf_icmp_le (t := 49) (q := 41) dJ6_numberOfTrailingZeros_0f7a4_38 (by decide) rfl ?_ ?_
  · exact (T_J6_numberOfTrailingZeros_0f7a4_49 Y v0 v1 u)
  · refine gf_iinc (v := (v1 + 8)) (lv2 := [some (.int v0), some (.int (v1 + 8))]) (q := 44) dJ6_numberOfTrailingZeros_0f7a4_41 rfl (congrArg _ ki_8) (by decide) rfl rfl ?_
    refine gf_iload_n (i := 0) (q := 45) dJ6_numberOfTrailingZeros_0f7a4_44 rfl rfl rfl ?_
    refine gf_bipush (q := 47) dJ6_numberOfTrailingZeros_0f7a4_45 kb_8 rfl ?_
    refine gf_iushr (q := 48) dJ6_numberOfTrailingZeros_0f7a4_47 rfl ?_
    refine gf_istore_n (i := 0) (lv2 := [some (.int ((Int32.toUInt32 v0 >>> (Int32.toUInt32 8 &&& Int32.toUInt32 31)).toInt32)), some (.int (v1 + 8))]) (q := 49) dJ6_numberOfTrailingZeros_0f7a4_48 rfl (by decide) rfl rfl ?_
    exact (T_J6_numberOfTrailingZeros_0f7a4_49 Y ((Int32.toUInt32 v0 >>> (Int32.toUInt32 8 &&& Int32.toUInt32 31)).toInt32) (v1 + 8) u)
def F_J6_numberOfTrailingZeros_0f7a4 (Y : List XS) (v0 : Int32) (u : XM) : Option (Int32 × XM) := (if 0 < ((v0 ^^^ (-1)) &&& (v0 - 1)) then (if ((v0 ^^^ (-1)) &&& (v0 - 1)) ≤ 65536 then F_J6_numberOfTrailingZeros_0f7a4_34 Y ((v0 ^^^ (-1)) &&& (v0 - 1)) 1 u else F_J6_numberOfTrailingZeros_0f7a4_34 Y ((Int32.toUInt32 ((v0 ^^^ (-1)) &&& (v0 - 1)) >>> (Int32.toUInt32 16 &&& Int32.toUInt32 31)).toInt32) (1 + 16) u) else some ((((v0 ^^^ (-1)) &&& (v0 - 1)) &&& 32), u))
set_option maxRecDepth 20000 in
set_option maxHeartbeats 4000000 in
theorem T_J6_numberOfTrailingZeros_0f7a4 (Y : List XS) (v0 : Int32) (u : XM) : GF E0 Y 1 yJ6_numberOfTrailingZeros_0f7a4 cJ6_numberOfTrailingZeros_0f7a4 2 (some .int) 0 [some (.int v0), none] [] u emI (F_J6_numberOfTrailingZeros_0f7a4 Y v0 u) := by
  unfold F_J6_numberOfTrailingZeros_0f7a4
  refine gf_iload_n (i := 0) (q := 1) dJ6_numberOfTrailingZeros_0f7a4_0 rfl rfl rfl ?_
  refine gf_iconst (q := 2) dJ6_numberOfTrailingZeros_0f7a4_1 ki_m1 rfl ?_
  refine gf_ixor (q := 3) dJ6_numberOfTrailingZeros_0f7a4_2 rfl ?_
  refine gf_iload_n (i := 0) (q := 4) dJ6_numberOfTrailingZeros_0f7a4_3 rfl rfl rfl ?_
  refine gf_iconst (q := 5) dJ6_numberOfTrailingZeros_0f7a4_4 ki_1 rfl ?_
  refine gf_isub (q := 6) dJ6_numberOfTrailingZeros_0f7a4_5 rfl ?_
  refine gf_iand (q := 7) dJ6_numberOfTrailingZeros_0f7a4_6 rfl ?_
  refine gf_istore_n (i := 0) (lv2 := [some (.int ((v0 ^^^ (-1)) &&& (v0 - 1))), none]) (q := 8) dJ6_numberOfTrailingZeros_0f7a4_7 rfl (by decide) rfl rfl ?_
  refine gf_iload_n (i := 0) (q := 9) dJ6_numberOfTrailingZeros_0f7a4_8 rfl rfl rfl ?_
  refine gf_if_gt (t := 17) (q := 12) dJ6_numberOfTrailingZeros_0f7a4_9 (by decide) rfl ?_ ?_
  · refine gf_iconst (q := 18) dJ6_numberOfTrailingZeros_0f7a4_17 ki_1 rfl ?_
    refine gf_istore_n (i := 1) (lv2 := [some (.int ((v0 ^^^ (-1)) &&& (v0 - 1))), some (.int 1)]) (q := 19) dJ6_numberOfTrailingZeros_0f7a4_18 rfl (by decide) rfl rfl ?_
    refine gf_iload_n (i := 0) (q := 20) dJ6_numberOfTrailingZeros_0f7a4_19 rfl rfl rfl ?_
    refine gf_ldcw (q := 23) dJ6_numberOfTrailingZeros_0f7a4_20 kw415 rfl ?_
    refine gf_icmp_le (t := 34) (q := 26) dJ6_numberOfTrailingZeros_0f7a4_23 (by decide) rfl ?_ ?_
    · exact (T_J6_numberOfTrailingZeros_0f7a4_34 Y ((v0 ^^^ (-1)) &&& (v0 - 1)) 1 u)
    · refine gf_iinc (v := (1 + 16)) (lv2 := [some (.int ((v0 ^^^ (-1)) &&& (v0 - 1))), some (.int (1 + 16))]) (q := 29) dJ6_numberOfTrailingZeros_0f7a4_26 rfl (congrArg _ ki_16) (by decide) rfl rfl ?_
      refine gf_iload_n (i := 0) (q := 30) dJ6_numberOfTrailingZeros_0f7a4_29 rfl rfl rfl ?_
      refine gf_bipush (q := 32) dJ6_numberOfTrailingZeros_0f7a4_30 kb_16 rfl ?_
      refine gf_iushr (q := 33) dJ6_numberOfTrailingZeros_0f7a4_32 rfl ?_
      refine gf_istore_n (i := 0) (lv2 := [some (.int ((Int32.toUInt32 ((v0 ^^^ (-1)) &&& (v0 - 1)) >>> (Int32.toUInt32 16 &&& Int32.toUInt32 31)).toInt32)), some (.int (1 + 16))]) (q := 34) dJ6_numberOfTrailingZeros_0f7a4_33 rfl (by decide) rfl rfl ?_
      exact (T_J6_numberOfTrailingZeros_0f7a4_34 Y ((Int32.toUInt32 ((v0 ^^^ (-1)) &&& (v0 - 1)) >>> (Int32.toUInt32 16 &&& Int32.toUInt32 31)).toInt32) (1 + 16) u)
  · refine gf_iload_n (i := 0) (q := 13) dJ6_numberOfTrailingZeros_0f7a4_12 rfl rfl rfl ?_
    refine gf_bipush (q := 15) dJ6_numberOfTrailingZeros_0f7a4_13 kb_32 rfl ?_
    refine gf_iand (q := 16) dJ6_numberOfTrailingZeros_0f7a4_15 rfl ?_
    exact gf_reti dJ6_numberOfTrailingZeros_0f7a4_16 rfl
theorem C_J6_numberOfTrailingZeros_0f7a4 (Y : List XS) (v0 : Int32) (u : XM) : CF Y 1 yJ6_numberOfTrailingZeros_0f7a4 cJ6_numberOfTrailingZeros_0f7a4 2 (some .int) [.int v0] u emI (F_J6_numberOfTrailingZeros_0f7a4 Y v0 u) := cf_of (by decide +kernel) (Nat.le_of_ble_eq_true rfl) rfl (T_J6_numberOfTrailingZeros_0f7a4 Y v0 u)
def F_J9_abs_0f7a4 (Y : List XS) (v0 : Int32) (u : XM) : Option (Int32 × XM) := (if 0 ≤ v0 then some (v0, u) else some ((-v0), u))
set_option maxRecDepth 20000 in
set_option maxHeartbeats 4000000 in
theorem T_J9_abs_0f7a4 (Y : List XS) (v0 : Int32) (u : XM) : GF E0 Y 1 yJ9_abs_0f7a4 cJ9_abs_0f7a4 1 (some .int) 0 [some (.int v0)] [] u emI (F_J9_abs_0f7a4 Y v0 u) := by
  unfold F_J9_abs_0f7a4
  refine gf_iload_n (i := 0) (q := 1) dJ9_abs_0f7a4_0 rfl rfl rfl ?_
  refine gf_if_ge (t := 9) (q := 4) dJ9_abs_0f7a4_1 (by decide) rfl ?_ ?_
  · refine gf_iload_n (i := 0) (q := 10) dJ9_abs_0f7a4_9 rfl rfl rfl ?_
    exact gf_reti dJ9_abs_0f7a4_10 rfl
  · refine gf_iload_n (i := 0) (q := 5) dJ9_abs_0f7a4_4 rfl rfl rfl ?_
    refine gf_ineg (q := 6) dJ9_abs_0f7a4_5 rfl ?_
    refine gf_goto (q := 10) dJ9_abs_0f7a4_6 (by decide) ?_
    exact gf_reti dJ9_abs_0f7a4_10 rfl
theorem C_J9_abs_0f7a4 (Y : List XS) (v0 : Int32) (u : XM) : CF Y 1 yJ9_abs_0f7a4 cJ9_abs_0f7a4 1 (some .int) [.int v0] u emI (F_J9_abs_0f7a4 Y v0 u) := cf_of (by decide +kernel) (Nat.le_of_ble_eq_true rfl) rfl (T_J9_abs_0f7a4 Y v0 u)
def F_J6_bitCount_0f7a4 (Y : List XS) (v0 : Int32) (u : XM) : Option (Int32 × XM) := some (((((((((v0 - (((Int32.toUInt32 v0 >>> (Int32.toUInt32 1 &&& Int32.toUInt32 31)).toInt32) &&& 1431655765)) &&& 858993459) + (((Int32.toUInt32 (v0 - (((Int32.toUInt32 v0 >>> (Int32.toUInt32 1 &&& Int32.toUInt32 31)).toInt32) &&& 1431655765)) >>> (Int32.toUInt32 2 &&& Int32.toUInt32 31)).toInt32) &&& 858993459)) + ((Int32.toUInt32 (((v0 - (((Int32.toUInt32 v0 >>> (Int32.toUInt32 1 &&& Int32.toUInt32 31)).toInt32) &&& 1431655765)) &&& 858993459) + (((Int32.toUInt32 (v0 - (((Int32.toUInt32 v0 >>> (Int32.toUInt32 1 &&& Int32.toUInt32 31)).toInt32) &&& 1431655765)) >>> (Int32.toUInt32 2 &&& Int32.toUInt32 31)).toInt32) &&& 858993459)) >>> (Int32.toUInt32 4 &&& Int32.toUInt32 31)).toInt32)) &&& 252645135) + ((Int32.toUInt32 (((((v0 - (((Int32.toUInt32 v0 >>> (Int32.toUInt32 1 &&& Int32.toUInt32 31)).toInt32) &&& 1431655765)) &&& 858993459) + (((Int32.toUInt32 (v0 - (((Int32.toUInt32 v0 >>> (Int32.toUInt32 1 &&& Int32.toUInt32 31)).toInt32) &&& 1431655765)) >>> (Int32.toUInt32 2 &&& Int32.toUInt32 31)).toInt32) &&& 858993459)) + ((Int32.toUInt32 (((v0 - (((Int32.toUInt32 v0 >>> (Int32.toUInt32 1 &&& Int32.toUInt32 31)).toInt32) &&& 1431655765)) &&& 858993459) + (((Int32.toUInt32 (v0 - (((Int32.toUInt32 v0 >>> (Int32.toUInt32 1 &&& Int32.toUInt32 31)).toInt32) &&& 1431655765)) >>> (Int32.toUInt32 2 &&& Int32.toUInt32 31)).toInt32) &&& 858993459)) >>> (Int32.toUInt32 4 &&& Int32.toUInt32 31)).toInt32)) &&& 252645135) >>> (Int32.toUInt32 8 &&& Int32.toUInt32 31)).toInt32)) + ((Int32.toUInt32 ((((((v0 - (((Int32.toUInt32 v0 >>> (Int32.toUInt32 1 &&& Int32.toUInt32 31)).toInt32) &&& 1431655765)) &&& 858993459) + (((Int32.toUInt32 (v0 - (((Int32.toUInt32 v0 >>> (Int32.toUInt32 1 &&& Int32.toUInt32 31)).toInt32) &&& 1431655765)) >>> (Int32.toUInt32 2 &&& Int32.toUInt32 31)).toInt32) &&& 858993459)) + ((Int32.toUInt32 (((v0 - (((Int32.toUInt32 v0 >>> (Int32.toUInt32 1 &&& Int32.toUInt32 31)).toInt32) &&& 1431655765)) &&& 858993459) + (((Int32.toUInt32 (v0 - (((Int32.toUInt32 v0 >>> (Int32.toUInt32 1 &&& Int32.toUInt32 31)).toInt32) &&& 1431655765)) >>> (Int32.toUInt32 2 &&& Int32.toUInt32 31)).toInt32) &&& 858993459)) >>> (Int32.toUInt32 4 &&& Int32.toUInt32 31)).toInt32)) &&& 252645135) + ((Int32.toUInt32 (((((v0 - (((Int32.toUInt32 v0 >>> (Int32.toUInt32 1 &&& Int32.toUInt32 31)).toInt32) &&& 1431655765)) &&& 858993459) + (((Int32.toUInt32 (v0 - (((Int32.toUInt32 v0 >>> (Int32.toUInt32 1 &&& Int32.toUInt32 31)).toInt32) &&& 1431655765)) >>> (Int32.toUInt32 2 &&& Int32.toUInt32 31)).toInt32) &&& 858993459)) + ((Int32.toUInt32 (((v0 - (((Int32.toUInt32 v0 >>> (Int32.toUInt32 1 &&& Int32.toUInt32 31)).toInt32) &&& 1431655765)) &&& 858993459) + (((Int32.toUInt32 (v0 - (((Int32.toUInt32 v0 >>> (Int32.toUInt32 1 &&& Int32.toUInt32 31)).toInt32) &&& 1431655765)) >>> (Int32.toUInt32 2 &&& Int32.toUInt32 31)).toInt32) &&& 858993459)) >>> (Int32.toUInt32 4 &&& Int32.toUInt32 31)).toInt32)) &&& 252645135) >>> (Int32.toUInt32 8 &&& Int32.toUInt32 31)).toInt32)) >>> (Int32.toUInt32 16 &&& Int32.toUInt32 31)).toInt32)) &&& 63), u)
set_option maxRecDepth 20000 in
set_option maxHeartbeats 4000000 in
theorem T_J6_bitCount_0f7a4 (Y : List XS) (v0 : Int32) (u : XM) : GF E0 Y 1 yJ6_bitCount_0f7a4 cJ6_bitCount_0f7a4 1 (some .int) 0 [some (.int v0)] [] u emI (F_J6_bitCount_0f7a4 Y v0 u) := by
  unfold F_J6_bitCount_0f7a4
  refine gf_iload_n (i := 0) (q := 1) dJ6_bitCount_0f7a4_0 rfl rfl rfl ?_
  refine gf_iload_n (i := 0) (q := 2) dJ6_bitCount_0f7a4_1 rfl rfl rfl ?_
  refine gf_iconst (q := 3) dJ6_bitCount_0f7a4_2 ki_1 rfl ?_
  refine gf_iushr (q := 4) dJ6_bitCount_0f7a4_3 rfl ?_
  refine gf_ldcw (q := 7) dJ6_bitCount_0f7a4_4 kw326 rfl ?_
  refine gf_iand (q := 8) dJ6_bitCount_0f7a4_7 rfl ?_
  refine gf_isub (q := 9) dJ6_bitCount_0f7a4_8 rfl ?_
  refine gf_istore_n (i := 0) (lv2 := [some (.int (v0 - (((Int32.toUInt32 v0 >>> (Int32.toUInt32 1 &&& Int32.toUInt32 31)).toInt32) &&& 1431655765)))]) (q := 10) dJ6_bitCount_0f7a4_9 rfl (by decide) rfl rfl ?_
  refine gf_iload_n (i := 0) (q := 11) dJ6_bitCount_0f7a4_10 rfl rfl rfl ?_
  refine gf_ldcw (q := 14) dJ6_bitCount_0f7a4_11 kw327 rfl ?_
  refine gf_iand (q := 15) dJ6_bitCount_0f7a4_14 rfl ?_
  refine gf_iload_n (i := 0) (q := 16) dJ6_bitCount_0f7a4_15 rfl rfl rfl ?_
  refine gf_iconst (q := 17) dJ6_bitCount_0f7a4_16 ki_2 rfl ?_
  refine gf_iushr (q := 18) dJ6_bitCount_0f7a4_17 rfl ?_
  refine gf_ldcw (q := 21) dJ6_bitCount_0f7a4_18 kw327 rfl ?_
  refine gf_iand (q := 22) dJ6_bitCount_0f7a4_21 rfl ?_
  refine gf_iadd (q := 23) dJ6_bitCount_0f7a4_22 rfl ?_
  refine gf_istore_n (i := 0) (lv2 := [some (.int (((v0 - (((Int32.toUInt32 v0 >>> (Int32.toUInt32 1 &&& Int32.toUInt32 31)).toInt32) &&& 1431655765)) &&& 858993459) + (((Int32.toUInt32 (v0 - (((Int32.toUInt32 v0 >>> (Int32.toUInt32 1 &&& Int32.toUInt32 31)).toInt32) &&& 1431655765)) >>> (Int32.toUInt32 2 &&& Int32.toUInt32 31)).toInt32) &&& 858993459)))]) (q := 24) dJ6_bitCount_0f7a4_23 rfl (by decide) rfl rfl ?_
  refine gf_iload_n (i := 0) (q := 25) dJ6_bitCount_0f7a4_24 rfl rfl rfl ?_
  refine gf_iload_n (i := 0) (q := 26) dJ6_bitCount_0f7a4_25 rfl rfl rfl ?_
  refine gf_iconst (q := 27) dJ6_bitCount_0f7a4_26 ki_4 rfl ?_
  refine gf_iushr (q := 28) dJ6_bitCount_0f7a4_27 rfl ?_
  refine gf_iadd (q := 29) dJ6_bitCount_0f7a4_28 rfl ?_
  refine gf_ldcw (q := 32) dJ6_bitCount_0f7a4_29 kw328 rfl ?_
  refine gf_iand (q := 33) dJ6_bitCount_0f7a4_32 rfl ?_
  refine gf_istore_n (i := 0) (lv2 := [some (.int (((((v0 - (((Int32.toUInt32 v0 >>> (Int32.toUInt32 1 &&& Int32.toUInt32 31)).toInt32) &&& 1431655765)) &&& 858993459) + (((Int32.toUInt32 (v0 - (((Int32.toUInt32 v0 >>> (Int32.toUInt32 1 &&& Int32.toUInt32 31)).toInt32) &&& 1431655765)) >>> (Int32.toUInt32 2 &&& Int32.toUInt32 31)).toInt32) &&& 858993459)) + ((Int32.toUInt32 (((v0 - (((Int32.toUInt32 v0 >>> (Int32.toUInt32 1 &&& Int32.toUInt32 31)).toInt32) &&& 1431655765)) &&& 858993459) + (((Int32.toUInt32 (v0 - (((Int32.toUInt32 v0 >>> (Int32.toUInt32 1 &&& Int32.toUInt32 31)).toInt32) &&& 1431655765)) >>> (Int32.toUInt32 2 &&& Int32.toUInt32 31)).toInt32) &&& 858993459)) >>> (Int32.toUInt32 4 &&& Int32.toUInt32 31)).toInt32)) &&& 252645135))]) (q := 34) dJ6_bitCount_0f7a4_33 rfl (by decide) rfl rfl ?_
  refine gf_iload_n (i := 0) (q := 35) dJ6_bitCount_0f7a4_34 rfl rfl rfl ?_
  refine gf_iload_n (i := 0) (q := 36) dJ6_bitCount_0f7a4_35 rfl rfl rfl ?_
  refine gf_bipush (q := 38) dJ6_bitCount_0f7a4_36 kb_8 rfl ?_
  refine gf_iushr (q := 39) dJ6_bitCount_0f7a4_38 rfl ?_
  refine gf_iadd (q := 40) dJ6_bitCount_0f7a4_39 rfl ?_
  refine gf_istore_n (i := 0) (lv2 := [some (.int ((((((v0 - (((Int32.toUInt32 v0 >>> (Int32.toUInt32 1 &&& Int32.toUInt32 31)).toInt32) &&& 1431655765)) &&& 858993459) + (((Int32.toUInt32 (v0 - (((Int32.toUInt32 v0 >>> (Int32.toUInt32 1 &&& Int32.toUInt32 31)).toInt32) &&& 1431655765)) >>> (Int32.toUInt32 2 &&& Int32.toUInt32 31)).toInt32) &&& 858993459)) + ((Int32.toUInt32 (((v0 - (((Int32.toUInt32 v0 >>> (Int32.toUInt32 1 &&& Int32.toUInt32 31)).toInt32) &&& 1431655765)) &&& 858993459) + (((Int32.toUInt32 (v0 - (((Int32.toUInt32 v0 >>> (Int32.toUInt32 1 &&& Int32.toUInt32 31)).toInt32) &&& 1431655765)) >>> (Int32.toUInt32 2 &&& Int32.toUInt32 31)).toInt32) &&& 858993459)) >>> (Int32.toUInt32 4 &&& Int32.toUInt32 31)).toInt32)) &&& 252645135) + ((Int32.toUInt32 (((((v0 - (((Int32.toUInt32 v0 >>> (Int32.toUInt32 1 &&& Int32.toUInt32 31)).toInt32) &&& 1431655765)) &&& 858993459) + (((Int32.toUInt32 (v0 - (((Int32.toUInt32 v0 >>> (Int32.toUInt32 1 &&& Int32.toUInt32 31)).toInt32) &&& 1431655765)) >>> (Int32.toUInt32 2 &&& Int32.toUInt32 31)).toInt32) &&& 858993459)) + ((Int32.toUInt32 (((v0 - (((Int32.toUInt32 v0 >>> (Int32.toUInt32 1 &&& Int32.toUInt32 31)).toInt32) &&& 1431655765)) &&& 858993459) + (((Int32.toUInt32 (v0 - (((Int32.toUInt32 v0 >>> (Int32.toUInt32 1 &&& Int32.toUInt32 31)).toInt32) &&& 1431655765)) >>> (Int32.toUInt32 2 &&& Int32.toUInt32 31)).toInt32) &&& 858993459)) >>> (Int32.toUInt32 4 &&& Int32.toUInt32 31)).toInt32)) &&& 252645135) >>> (Int32.toUInt32 8 &&& Int32.toUInt32 31)).toInt32)))]) (q := 41) dJ6_bitCount_0f7a4_40 rfl (by decide) rfl rfl ?_
  refine gf_iload_n (i := 0) (q := 42) dJ6_bitCount_0f7a4_41 rfl rfl rfl ?_
  refine gf_iload_n (i := 0) (q := 43) dJ6_bitCount_0f7a4_42 rfl rfl rfl ?_
  refine gf_bipush (q := 45) dJ6_bitCount_0f7a4_43 kb_16 rfl ?_
  refine gf_iushr (q := 46) dJ6_bitCount_0f7a4_45 rfl ?_
  refine gf_iadd (q := 47) dJ6_bitCount_0f7a4_46 rfl ?_
  refine gf_istore_n (i := 0) (lv2 := [some (.int (((((((v0 - (((Int32.toUInt32 v0 >>> (Int32.toUInt32 1 &&& Int32.toUInt32 31)).toInt32) &&& 1431655765)) &&& 858993459) + (((Int32.toUInt32 (v0 - (((Int32.toUInt32 v0 >>> (Int32.toUInt32 1 &&& Int32.toUInt32 31)).toInt32) &&& 1431655765)) >>> (Int32.toUInt32 2 &&& Int32.toUInt32 31)).toInt32) &&& 858993459)) + ((Int32.toUInt32 (((v0 - (((Int32.toUInt32 v0 >>> (Int32.toUInt32 1 &&& Int32.toUInt32 31)).toInt32) &&& 1431655765)) &&& 858993459) + (((Int32.toUInt32 (v0 - (((Int32.toUInt32 v0 >>> (Int32.toUInt32 1 &&& Int32.toUInt32 31)).toInt32) &&& 1431655765)) >>> (Int32.toUInt32 2 &&& Int32.toUInt32 31)).toInt32) &&& 858993459)) >>> (Int32.toUInt32 4 &&& Int32.toUInt32 31)).toInt32)) &&& 252645135) + ((Int32.toUInt32 (((((v0 - (((Int32.toUInt32 v0 >>> (Int32.toUInt32 1 &&& Int32.toUInt32 31)).toInt32) &&& 1431655765)) &&& 858993459) + (((Int32.toUInt32 (v0 - (((Int32.toUInt32 v0 >>> (Int32.toUInt32 1 &&& Int32.toUInt32 31)).toInt32) &&& 1431655765)) >>> (Int32.toUInt32 2 &&& Int32.toUInt32 31)).toInt32) &&& 858993459)) + ((Int32.toUInt32 (((v0 - (((Int32.toUInt32 v0 >>> (Int32.toUInt32 1 &&& Int32.toUInt32 31)).toInt32) &&& 1431655765)) &&& 858993459) + (((Int32.toUInt32 (v0 - (((Int32.toUInt32 v0 >>> (Int32.toUInt32 1 &&& Int32.toUInt32 31)).toInt32) &&& 1431655765)) >>> (Int32.toUInt32 2 &&& Int32.toUInt32 31)).toInt32) &&& 858993459)) >>> (Int32.toUInt32 4 &&& Int32.toUInt32 31)).toInt32)) &&& 252645135) >>> (Int32.toUInt32 8 &&& Int32.toUInt32 31)).toInt32)) + ((Int32.toUInt32 ((((((v0 - (((Int32.toUInt32 v0 >>> (Int32.toUInt32 1 &&& Int32.toUInt32 31)).toInt32) &&& 1431655765)) &&& 858993459) + (((Int32.toUInt32 (v0 - (((Int32.toUInt32 v0 >>> (Int32.toUInt32 1 &&& Int32.toUInt32 31)).toInt32) &&& 1431655765)) >>> (Int32.toUInt32 2 &&& Int32.toUInt32 31)).toInt32) &&& 858993459)) + ((Int32.toUInt32 (((v0 - (((Int32.toUInt32 v0 >>> (Int32.toUInt32 1 &&& Int32.toUInt32 31)).toInt32) &&& 1431655765)) &&& 858993459) + (((Int32.toUInt32 (v0 - (((Int32.toUInt32 v0 >>> (Int32.toUInt32 1 &&& Int32.toUInt32 31)).toInt32) &&& 1431655765)) >>> (Int32.toUInt32 2 &&& Int32.toUInt32 31)).toInt32) &&& 858993459)) >>> (Int32.toUInt32 4 &&& Int32.toUInt32 31)).toInt32)) &&& 252645135) + ((Int32.toUInt32 (((((v0 - (((Int32.toUInt32 v0 >>> (Int32.toUInt32 1 &&& Int32.toUInt32 31)).toInt32) &&& 1431655765)) &&& 858993459) + (((Int32.toUInt32 (v0 - (((Int32.toUInt32 v0 >>> (Int32.toUInt32 1 &&& Int32.toUInt32 31)).toInt32) &&& 1431655765)) >>> (Int32.toUInt32 2 &&& Int32.toUInt32 31)).toInt32) &&& 858993459)) + ((Int32.toUInt32 (((v0 - (((Int32.toUInt32 v0 >>> (Int32.toUInt32 1 &&& Int32.toUInt32 31)).toInt32) &&& 1431655765)) &&& 858993459) + (((Int32.toUInt32 (v0 - (((Int32.toUInt32 v0 >>> (Int32.toUInt32 1 &&& Int32.toUInt32 31)).toInt32) &&& 1431655765)) >>> (Int32.toUInt32 2 &&& Int32.toUInt32 31)).toInt32) &&& 858993459)) >>> (Int32.toUInt32 4 &&& Int32.toUInt32 31)).toInt32)) &&& 252645135) >>> (Int32.toUInt32 8 &&& Int32.toUInt32 31)).toInt32)) >>> (Int32.toUInt32 16 &&& Int32.toUInt32 31)).toInt32)))]) (q := 48) dJ6_bitCount_0f7a4_47 rfl (by decide) rfl rfl ?_
  refine gf_iload_n (i := 0) (q := 49) dJ6_bitCount_0f7a4_48 rfl rfl rfl ?_
  refine gf_bipush (q := 51) dJ6_bitCount_0f7a4_49 kb_63 rfl ?_
  refine gf_iand (q := 52) dJ6_bitCount_0f7a4_51 rfl ?_
  exact gf_reti dJ6_bitCount_0f7a4_52 rfl
theorem C_J6_bitCount_0f7a4 (Y : List XS) (v0 : Int32) (u : XM) : CF Y 1 yJ6_bitCount_0f7a4 cJ6_bitCount_0f7a4 1 (some .int) [.int v0] u emI (F_J6_bitCount_0f7a4 Y v0 u) := cf_of (by decide +kernel) (Nat.le_of_ble_eq_true rfl) rfl (T_J6_bitCount_0f7a4 Y v0 u)
def F_J7_fill_53178_5 (Y : List XS) : Nat → Nat → Int32 → Int32 → Int32 → XM → Option (Unit × XM)
  | 0, _, _, _, _, _ => none
  | n + 1, v0, v1, v2, v3, u => (if v3 ≤ v2 then some ((), u) else (if ain Y 0 v0 v2 = true then F_J7_fill_53178_5 Y n v0 v1 (v2 + 1) v3 (wi u v0 (Int32.toNatClampNeg v2) v1) else none))
set_option maxRecDepth 20000 in
set_option maxHeartbeats 4000000 in
theorem T_J7_fill_53178_5 (Y : List XS) : ∀ (n : Nat) (v0 : Nat) (v1 : Int32) (v2 : Int32) (v3 : Int32) (u : XM), GF E0 Y 1 yJ7_fill_53178 cJ7_fill_53178 4 none 5 [some (.ref v0), some (.int v1), some (.int v2), some (.int v3)] [] u emV (F_J7_fill_53178_5 Y n v0 v1 v2 v3 u) := by
  intro n
  induction n with
  | zero => intro v0 v1 v2 v3 u; exact gf_none
  | succ n ih =>
    intro v0 v1 v2 v3 u
    unfold F_J7_fill_53178_5
    refine gf_iload_n (i := 2) (q := 6) dJ7_fill_53178_5 rfl rfl rfl ?_
    refine gf_iload_n (i := 3) (q := 7) dJ7_fill_53178_6 rfl rfl rfl ?_
    refine gf_icmp_ge (t := 20) (q := 10) dJ7_fill_53178_7 (by decide) rfl ?_ ?_
    · exact gf_retv dJ7_fill_53178_20 rfl
    · refine gf_aload_n (i := 0) (q := 11) dJ7_fill_53178_10 rfl rfl rfl ?_
      refine gf_iload_n (i := 2) (q := 12) dJ7_fill_53178_11 rfl rfl rfl ?_
      refine gf_iload_n (i := 1) (q := 13) dJ7_fill_53178_12 rfl rfl rfl ?_
      refine gf_iast (q := 14) dJ7_fill_53178_13 rfl ?_
      refine gf_iinc (v := (v2 + 1)) (lv2 := [some (.ref v0), some (.int v1), some (.int (v2 + 1)), some (.int v3)]) (q := 17) dJ7_fill_53178_14 rfl (congrArg _ ki_1) (by decide) rfl rfl ?_
      refine gf_goto (q := 5) dJ7_fill_53178_17 (by decide) ?_
      exact (ih v0 v1 (v2 + 1) v3 (wi u v0 (Int32.toNatClampNeg v2) v1))
def F_J7_fill_53178 (Y : List XS) (v0 : Nat) (v1 : Int32) (u : XM) : Option (Unit × XM) := (Option.bind (alen Y 0 v0) (fun n1 => F_J7_fill_53178_5 Y FU v0 v1 0 (nI n1) u))
set_option maxRecDepth 20000 in
set_option maxHeartbeats 4000000 in
theorem T_J7_fill_53178 (Y : List XS) (v0 : Nat) (v1 : Int32) (u : XM) : GF E0 Y 1 yJ7_fill_53178 cJ7_fill_53178 4 none 0 [some (.ref v0), some (.int v1), none, none] [] u emV (F_J7_fill_53178 Y v0 v1 u) := by
  unfold F_J7_fill_53178
  refine gf_iconst (q := 1) dJ7_fill_53178_0 ki_0 rfl ?_
  refine gf_istore_n (i := 2) (lv2 := [some (.ref v0), some (.int v1), some (.int 0), none]) (q := 2) dJ7_fill_53178_1 rfl (by decide) rfl rfl ?_
  refine gf_aload_n (i := 0) (q := 3) dJ7_fill_53178_2 rfl rfl rfl ?_
  refine gf_alenS0 (q := 4) dJ7_fill_53178_3 rfl (fun n1 => ?_)
  refine gf_istore_n (i := 3) (lv2 := [some (.ref v0), some (.int v1), some (.int 0), some (.int (nI n1))]) (q := 5) dJ7_fill_53178_4 rfl (by decide) rfl rfl ?_
  exact (T_J7_fill_53178_5 Y FU v0 v1 0 (nI n1) u)
theorem C_J7_fill_53178 (Y : List XS) (v0 : Nat) (v1 : Int32) (u : XM) : CF Y 1 yJ7_fill_53178 cJ7_fill_53178 4 none [.ref v0, .int v1] u emV (F_J7_fill_53178 Y v0 v1 u) := cf_of (by decide +kernel) (Nat.le_of_ble_eq_true rfl) rfl (T_J7_fill_53178 Y v0 v1 u)
def F_J7_fill_031fb_5 (Y : List XS) : Nat → Nat → Int32 → Int32 → Int32 → XM → Option (Unit × XM)
  | 0, _, _, _, _, _ => none
  | n + 1, v0, v1, v2, v3, u => (if v3 ≤ v2 then some ((), u) else (if ain Y 1 v0 v2 = true then F_J7_fill_031fb_5 Y n v0 v1 (v2 + 1) v3 (wi u v0 (Int32.toNatClampNeg v2) (vp_nar .byte v1)) else none))
set_option maxRecDepth 20000 in
set_option maxHeartbeats 4000000 in
theorem T_J7_fill_031fb_5 (Y : List XS) : ∀ (n : Nat) (v0 : Nat) (v1 : Int32) (v2 : Int32) (v3 : Int32) (u : XM), GF E0 Y 1 yJ7_fill_031fb cJ7_fill_031fb 4 none 5 [some (.ref v0), some (.int v1), some (.int v2), some (.int v3)] [] u emV (F_J7_fill_031fb_5 Y n v0 v1 v2 v3 u) := by
  intro n
  induction n with
  | zero => intro v0 v1 v2 v3 u; exact gf_none
  | succ n ih =>
    intro v0 v1 v2 v3 u
    unfold F_J7_fill_031fb_5
    refine gf_iload_n (i := 2) (q := 6) dJ7_fill_031fb_5 rfl rfl rfl ?_
    refine gf_iload_n (i := 3) (q := 7) dJ7_fill_031fb_6 rfl rfl rfl ?_
    refine gf_icmp_ge (t := 20) (q := 10) dJ7_fill_031fb_7 (by decide) rfl ?_ ?_
    · exact gf_retv dJ7_fill_031fb_20 rfl
    · refine gf_aload_n (i := 0) (q := 11) dJ7_fill_031fb_10 rfl rfl rfl ?_
      refine gf_iload_n (i := 2) (q := 12) dJ7_fill_031fb_11 rfl rfl rfl ?_
      refine gf_iload_n (i := 1) (q := 13) dJ7_fill_031fb_12 rfl rfl rfl ?_
      refine gf_bast (q := 14) dJ7_fill_031fb_13 rfl ?_
      refine gf_iinc (v := (v2 + 1)) (lv2 := [some (.ref v0), some (.int v1), some (.int (v2 + 1)), some (.int v3)]) (q := 17) dJ7_fill_031fb_14 rfl (congrArg _ ki_1) (by decide) rfl rfl ?_
      refine gf_goto (q := 5) dJ7_fill_031fb_17 (by decide) ?_
      exact (ih v0 v1 (v2 + 1) v3 (wi u v0 (Int32.toNatClampNeg v2) (vp_nar .byte v1)))
def F_J7_fill_031fb (Y : List XS) (v0 : Nat) (v1 : Int32) (u : XM) : Option (Unit × XM) := (Option.bind (alen Y 1 v0) (fun n1 => F_J7_fill_031fb_5 Y FU v0 v1 0 (nI n1) u))
set_option maxRecDepth 20000 in
set_option maxHeartbeats 4000000 in
theorem T_J7_fill_031fb (Y : List XS) (v0 : Nat) (v1 : Int32) (u : XM) : GF E0 Y 1 yJ7_fill_031fb cJ7_fill_031fb 4 none 0 [some (.ref v0), some (.int v1), none, none] [] u emV (F_J7_fill_031fb Y v0 v1 u) := by
  unfold F_J7_fill_031fb
  refine gf_iconst (q := 1) dJ7_fill_031fb_0 ki_0 rfl ?_
  refine gf_istore_n (i := 2) (lv2 := [some (.ref v0), some (.int v1), some (.int 0), none]) (q := 2) dJ7_fill_031fb_1 rfl (by decide) rfl rfl ?_
  refine gf_aload_n (i := 0) (q := 3) dJ7_fill_031fb_2 rfl rfl rfl ?_
  refine gf_alenS1 (q := 4) dJ7_fill_031fb_3 rfl (fun n1 => ?_)
  refine gf_istore_n (i := 3) (lv2 := [some (.ref v0), some (.int v1), some (.int 0), some (.int (nI n1))]) (q := 5) dJ7_fill_031fb_4 rfl (by decide) rfl rfl ?_
  exact (T_J7_fill_031fb_5 Y FU v0 v1 0 (nI n1) u)
theorem C_J7_fill_031fb (Y : List XS) (v0 : Nat) (v1 : Int32) (u : XM) : CF Y 1 yJ7_fill_031fb cJ7_fill_031fb 4 none [.ref v0, .int v1] u emV (F_J7_fill_031fb Y v0 v1 u) := cf_of (by decide +kernel) (Nat.le_of_ble_eq_true rfl) rfl (T_J7_fill_031fb Y v0 v1 u)
def F_J9_floorMod_7cf53 (Y : List XS) (v0 : Int32) (v1 : Int32) (u : XM) : Option (Int32 × XM) := (if v1 = 0 then none else (if 0 ≤ (v0 ^^^ v1) then some ((v0 - v0 / v1 * v1), u) else (if (v0 - v0 / v1 * v1) = 0 then some ((v0 - v0 / v1 * v1), u) else some (((v0 - v0 / v1 * v1) + v1), u))))
set_option maxRecDepth 20000 in
set_option maxHeartbeats 4000000 in
theorem T_J9_floorMod_7cf53 (Y : List XS) (v0 : Int32) (v1 : Int32) (u : XM) : GF E0 Y 1 yJ9_floorMod_7cf53 cJ9_floorMod_7cf53 3 (some .int) 0 [some (.int v0), some (.int v1), none] [] u emI (F_J9_floorMod_7cf53 Y v0 v1 u) := by
  unfold F_J9_floorMod_7cf53
  refine gf_iload_n (i := 0) (q := 1) dJ9_floorMod_7cf53_0 rfl rfl rfl ?_
  refine gf_iload_n (i := 1) (q := 2) dJ9_floorMod_7cf53_1 rfl rfl rfl ?_
  refine gf_irem (q := 3) dJ9_floorMod_7cf53_2 rfl ?_
  refine gf_istore_n (i := 2) (lv2 := [some (.int v0), some (.int v1), some (.int (v0 - v0 / v1 * v1))]) (q := 4) dJ9_floorMod_7cf53_3 rfl (by decide) rfl rfl ?_
  refine gf_iload_n (i := 0) (q := 5) dJ9_floorMod_7cf53_4 rfl rfl rfl ?_
  refine gf_iload_n (i := 1) (q := 6) dJ9_floorMod_7cf53_5 rfl rfl rfl ?_
  refine gf_ixor (q := 7) dJ9_floorMod_7cf53_6 rfl ?_
  refine gf_if_ge (t := 18) (q := 10) dJ9_floorMod_7cf53_7 (by decide) rfl ?_ ?_
  · refine gf_iload_n (i := 2) (q := 19) dJ9_floorMod_7cf53_18 rfl rfl rfl ?_
    exact gf_reti dJ9_floorMod_7cf53_19 rfl
  · refine gf_iload_n (i := 2) (q := 11) dJ9_floorMod_7cf53_10 rfl rfl rfl ?_
    refine gf_if_eq (t := 18) (q := 14) dJ9_floorMod_7cf53_11 (by decide) rfl ?_ ?_
    · refine gf_iload_n (i := 2) (q := 19) dJ9_floorMod_7cf53_18 rfl rfl rfl ?_
      exact gf_reti dJ9_floorMod_7cf53_19 rfl
    · refine gf_iload_n (i := 2) (q := 15) dJ9_floorMod_7cf53_14 rfl rfl rfl ?_
      refine gf_iload_n (i := 1) (q := 16) dJ9_floorMod_7cf53_15 rfl rfl rfl ?_
      refine gf_iadd (q := 17) dJ9_floorMod_7cf53_16 rfl ?_
      exact gf_reti dJ9_floorMod_7cf53_17 rfl
theorem C_J9_floorMod_7cf53 (Y : List XS) (v0 : Int32) (v1 : Int32) (u : XM) : CF Y 1 yJ9_floorMod_7cf53 cJ9_floorMod_7cf53 3 (some .int) [.int v0, .int v1] u emI (F_J9_floorMod_7cf53 Y v0 v1 u) := cf_of (by decide +kernel) (Nat.le_of_ble_eq_true rfl) rfl (T_J9_floorMod_7cf53 Y v0 v1 u)
